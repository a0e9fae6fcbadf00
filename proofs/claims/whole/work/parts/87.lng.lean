/-! LONG NUMBERS: how many bits are set -/
def pcN : Nat → Nat → Nat
  | 0, _ => 0
  | n + 1, u => u % 2 + pcN n (u / 2)
theorem pc_add : ∀ (n m v b : Nat), b < 2 ^ n → pcN (n + m) (2 ^ n * v + b) = pcN n b + pcN m v := by
  intro n
  induction n with
  | zero =>
    intro m v b hb
    have hb : b < 1 := hb
    rw [Nat.zero_add, Nat.pow_zero, Nat.one_mul, show b = 0 by omega, Nat.add_zero]
    show _ = 0 + pcN m v
    rw [Nat.zero_add]
  | succ n ih =>
    intro m v b hb
    rw [Nat.pow_succ] at hb
    rw [show n + 1 + m = (n + m) + 1 by omega]
    show (2 ^ (n + 1) * v + b) % 2 + pcN (n + m) ((2 ^ (n + 1) * v + b) / 2) = b % 2 + pcN n (b / 2) + pcN m v
    have e : 2 ^ (n + 1) * v = 2 * (2 ^ n * v) := by rw [Nat.pow_succ, Nat.mul_comm (2 ^ n) 2, Nat.mul_assoc]
    rw [e, show (2 * (2 ^ n * v) + b) % 2 = b % 2 by omega, show (2 * (2 ^ n * v) + b) / 2 = 2 ^ n * v + b / 2 by omega, ih m v (b / 2) (by omega)]
    omega
theorem pc_z : ∀ n, pcN n 0 = 0 := by
  intro n
  induction n with
  | zero => rfl
  | succ n ih =>
    show 0 % 2 + pcN n (0 / 2) = 0
    rw [Nat.zero_div, ih]
theorem pc_clr : ∀ (n u : Nat), 0 < u → u < 2 ^ n → pcN n (u &&& (u - 1)) + 1 = pcN n u := by
  intro n
  induction n with
  | zero => intro u h1 h2; have h2 : u < 1 := h2; omega
  | succ n ih =>
    intro u h1 h2
    rw [Nat.pow_succ] at h2
    have d : (u &&& (u - 1)) / 2 = u / 2 &&& (u - 1) / 2 := Nat.and_div_two_pow (n := 1)
    have m : (u &&& (u - 1)) % 2 = u % 2 &&& (u - 1) % 2 := Nat.and_mod_two_pow (n := 1)
    show (u &&& (u - 1)) % 2 + pcN n ((u &&& (u - 1)) / 2) + 1 = u % 2 + pcN n (u / 2)
    rw [d, m]
    by_cases z : u % 2 = 0
    · rw [z, show (u - 1) / 2 = u / 2 - 1 by omega, Nat.zero_and]
      have := ih (u / 2) (by omega) (by omega)
      omega
    · rw [show u % 2 = 1 by omega, show (u - 1) % 2 = 0 by omega, show (u - 1) / 2 = u / 2 by omega, Nat.and_self, Nat.and_zero]
      omega
/-- the same byte again and again -/
def rep (m : Nat) : Nat → Nat
  | 0 => 0
  | n + 1 => 256 * rep m n + m
theorem and_cat {a b c e : Nat} (hb : b < 256) (he : e < 256) : (256 * a + b) &&& (256 * c + e) = 256 * (a &&& c) + (b &&& e) := by
  have d : ((256 * a + b) &&& (256 * c + e)) / 256 = (256 * a + b) / 256 &&& (256 * c + e) / 256 := Nat.and_div_two_pow (n := 8)
  have m : ((256 * a + b) &&& (256 * c + e)) % 256 = (256 * a + b) % 256 &&& (256 * c + e) % 256 := Nat.and_mod_two_pow (n := 8)
  rw [show (256 * a + b) / 256 = a by omega, show (256 * c + e) / 256 = c by omega] at d
  rw [show (256 * a + b) % 256 = b by omega, show (256 * c + e) % 256 = e by omega] at m
  omega
def S1 (n u : Nat) : Nat := u - (u / 2 &&& rep 85 n)
def S2 (n u : Nat) : Nat := (u &&& rep 51 n) + (u / 4 &&& rep 51 n)
def S3 (n u : Nat) : Nat := (u + u / 16) &&& rep 15 n
theorem f1_k : ∀ c, c < 2 → ∀ b, b < 256 → (128 * c + b / 2) &&& 85 = b / 2 &&& 85 ∧ b / 2 &&& 85 ≤ b := by decide +kernel
theorem f2_k : ∀ c, c < 4 → ∀ b, b < 256 → (64 * c + b / 4) &&& 51 = b / 4 &&& 51 := by decide +kernel
abbrev f1 (b : Nat) : Nat := b - (b / 2 &&& 85)
abbrev f2 (b : Nat) : Nat := (b &&& 51) + (b / 4 &&& 51)
theorem S1_c (n v b : Nat) (hb : b < 256) : S1 (n + 1) (256 * v + b) = 256 * S1 n v + f1 b := by
  unfold S1
  have k := f1_k (v % 2) (by omega) b hb
  show 256 * v + b - ((256 * v + b) / 2 &&& (256 * rep 85 n + 85)) = _
  rw [show (256 * v + b) / 2 = 256 * (v / 2) + (128 * (v % 2) + b / 2) by omega, and_cat (by omega) (by omega), k.1]
  have h1 : v / 2 &&& rep 85 n ≤ v / 2 := Nat.and_le_left
  unfold f1
  have := k.2
  omega
theorem S2_c (n v b : Nat) (hb : b < 256) : S2 (n + 1) (256 * v + b) = 256 * S2 n v + f2 b := by
  unfold S2
  have k := f2_k (v % 4) (by omega) b hb
  show ((256 * v + b) &&& (256 * rep 51 n + 51)) + ((256 * v + b) / 4 &&& (256 * rep 51 n + 51)) = _
  rw [show (256 * v + b) / 4 = 256 * (v / 4) + (64 * (v % 4) + b / 4) by omega, and_cat hb (by omega), and_cat (by omega) (by omega), k]
  unfold f2
  omega
theorem f12_k : ∀ b, b < 256 → f1 b < 256 ∧ f2 (f1 b) < 256 ∧ f2 (f1 b) % 16 ≤ 4 ∧ f2 (f1 b) / 16 ≤ 4 ∧ pcN 8 b = f2 (f1 b) % 16 + f2 (f1 b) / 16 := by decide +kernel
theorem f3_k : ∀ s, s < 256 → s &&& 15 = s % 16 := by decide +kernel
theorem S12_lo : ∀ (n v : Nat), v < 256 ^ n → S2 n (S1 n v) % 16 ≤ 4 := by
  intro n v hv
  cases n with
  | zero =>
    have hv : v < 1 := hv
    rw [show v = 0 by omega]
    decide
  | succ n =>
    have hb : v % 256 < 256 := Nat.mod_lt _ (by omega)
    have k := f12_k (v % 256) hb
    rw [show v = 256 * (v / 256) + v % 256 by omega, S1_c _ _ _ hb, S2_c _ _ _ k.1]
    omega
/-- each byte's number of bits -/
def byC : Nat → Nat → Nat
  | 0, _ => 0
  | n + 1, u => 256 * byC n (u / 256) + pcN 8 (u % 256)
theorem S123 : ∀ (n u : Nat), u < 256 ^ n → S3 n (S2 n (S1 n u)) = byC n u := by
  intro n
  induction n with
  | zero =>
    intro u hu
    have hu : u < 1 := hu
    rw [show u = 0 by omega]
    decide
  | succ n ih =>
    intro u hu
    rw [Nat.pow_succ] at hu
    have hv : u / 256 < 256 ^ n := by omega
    have hb : u % 256 < 256 := Nat.mod_lt _ (by omega)
    have k := f12_k (u % 256) hb
    have lo := S12_lo n (u / 256) hv
    have e := ih (u / 256) hv
    show S3 (n + 1) (S2 (n + 1) (S1 (n + 1) u)) = 256 * byC n (u / 256) + pcN 8 (u % 256)
    rw [← e]
    have eu : S2 (n + 1) (S1 (n + 1) u) = 256 * S2 n (S1 n (u / 256)) + f2 (f1 (u % 256)) := by
      have : S1 (n + 1) u = 256 * S1 n (u / 256) + f1 (u % 256) := by
        have q := S1_c n (u / 256) (u % 256) hb
        rw [show 256 * (u / 256) + u % 256 = u by omega] at q
        exact q
      rw [this, S2_c _ _ _ k.1]
    rw [eu]
    generalize S2 n (S1 n (u / 256)) = x at *
    generalize f2 (f1 (u % 256)) = y at *
    unfold S3
    show (256 * x + y + (256 * x + y) / 16) &&& (256 * rep 15 n + 15) = _
    rw [show 256 * x + y + (256 * x + y) / 16 = 256 * (x + x / 16) + (y + 16 * (x % 16) + y / 16) by omega, and_cat (by omega) (by omega), f3_k _ (by omega), k.2.2.2.2]
    omega
theorem by_sum {u : Nat} (hu : u < 256 ^ 8) : byC 8 u + byC 8 u / 256 < 2 ^ 60 ∧ (byC 8 u + byC 8 u / 256 + (byC 8 u + byC 8 u / 256) / 65536 + (byC 8 u + byC 8 u / 256 + (byC 8 u + byC 8 u / 256) / 65536) / 4294967296) % 128 = pcN 64 u := by
  have p8 : ∀ b, b < 256 → pcN 8 b ≤ 8 := by decide +kernel
  have st : ∀ (m v : Nat), pcN (8 + m) v = pcN 8 (v % 256) + pcN m (v / 256) := fun m v => by
    have := pc_add 8 m (v / 256) (v % 256) (Nat.mod_lt _ (by decide))
    rw [show 2 ^ 8 * (v / 256) + v % 256 = v by omega] at this
    exact this
  have e0 := st 56 u
  have e1 := st 48 (u / 256)
  have e2 := st 40 (u / 256 / 256)
  have e3 := st 32 (u / 256 / 256 / 256)
  have e4 := st 24 (u / 256 / 256 / 256 / 256)
  have e5 := st 16 (u / 256 / 256 / 256 / 256 / 256)
  have e6 := st 8 (u / 256 / 256 / 256 / 256 / 256 / 256)
  have e7 := st 0 (u / 256 / 256 / 256 / 256 / 256 / 256 / 256)
  have b0 := p8 (u % 256) (Nat.mod_lt _ (by decide))
  have b1 := p8 (u / 256 % 256) (Nat.mod_lt _ (by decide))
  have b2 := p8 (u / 256 / 256 % 256) (Nat.mod_lt _ (by decide))
  have b3 := p8 (u / 256 / 256 / 256 % 256) (Nat.mod_lt _ (by decide))
  have b4 := p8 (u / 256 / 256 / 256 / 256 % 256) (Nat.mod_lt _ (by decide))
  have b5 := p8 (u / 256 / 256 / 256 / 256 / 256 % 256) (Nat.mod_lt _ (by decide))
  have b6 := p8 (u / 256 / 256 / 256 / 256 / 256 / 256 % 256) (Nat.mod_lt _ (by decide))
  have b7 := p8 (u / 256 / 256 / 256 / 256 / 256 / 256 / 256 % 256) (Nat.mod_lt _ (by decide))
  have ez : pcN 0 (u / 256 / 256 / 256 / 256 / 256 / 256 / 256 / 256) = 0 := rfl
  have eb : byC 8 u = 256 * (256 * (256 * (256 * (256 * (256 * (256 * (256 * 0 + pcN 8 (u / 256 / 256 / 256 / 256 / 256 / 256 / 256 % 256)) + pcN 8 (u / 256 / 256 / 256 / 256 / 256 / 256 % 256)) + pcN 8 (u / 256 / 256 / 256 / 256 / 256 % 256)) + pcN 8 (u / 256 / 256 / 256 / 256 % 256)) + pcN 8 (u / 256 / 256 / 256 % 256)) + pcN 8 (u / 256 / 256 % 256)) + pcN 8 (u / 256 % 256)) + pcN 8 (u % 256) := rfl
  have et : pcN 64 u = pcN 8 (u % 256) + (pcN 8 (u / 256 % 256) + (pcN 8 (u / 256 / 256 % 256) + (pcN 8 (u / 256 / 256 / 256 % 256) + (pcN 8 (u / 256 / 256 / 256 / 256 % 256) + (pcN 8 (u / 256 / 256 / 256 / 256 / 256 % 256) + (pcN 8 (u / 256 / 256 / 256 / 256 / 256 / 256 % 256) + pcN 8 (u / 256 / 256 / 256 / 256 / 256 / 256 / 256 % 256))))))) := by
    rw [show (64 : Nat) = 8 + 56 from rfl, e0, show (56 : Nat) = 8 + 48 from rfl, e1, show (48 : Nat) = 8 + 40 from rfl, e2, show (40 : Nat) = 8 + 32 from rfl, e3, show (32 : Nat) = 8 + 24 from rfl, e4, show (24 : Nat) = 8 + 16 from rfl, e5, show (16 : Nat) = 8 + 8 from rfl, e6]
    have : pcN 8 (u / 256 / 256 / 256 / 256 / 256 / 256 / 256) = pcN 8 (u / 256 / 256 / 256 / 256 / 256 / 256 / 256 % 256) := by
      rw [show (8 : Nat) = 8 + 0 from rfl, e7, ez, Nat.add_zero]
    rw [this]
  rw [eb, et]
  clear e0 e1 e2 e3 e4 e5 e6 e7 ez eb et st p8
  generalize pcN 8 (u % 256) = c0 at *
  generalize pcN 8 (u / 256 % 256) = c1 at *
  generalize pcN 8 (u / 256 / 256 % 256) = c2 at *
  generalize pcN 8 (u / 256 / 256 / 256 % 256) = c3 at *
  generalize pcN 8 (u / 256 / 256 / 256 / 256 % 256) = c4 at *
  generalize pcN 8 (u / 256 / 256 / 256 / 256 / 256 % 256) = c5 at *
  generalize pcN 8 (u / 256 / 256 / 256 / 256 / 256 / 256 % 256) = c6 at *
  generalize pcN 8 (u / 256 / 256 / 256 / 256 / 256 / 256 / 256 % 256) = c7 at *
  clear hu
  have dv : ∀ k E r : Nat, 0 < k → r < k → (k * E + r) / k = E := fun k E r hk hr => by rw [Nat.mul_add_div hk, Nat.div_eq_of_lt hr, Nat.add_zero]
  have eA : 256 * (256 * (256 * (256 * (256 * (256 * (256 * (256 * 0 + c7) + c6) + c5) + c4) + c3) + c2) + c1) + c0 = 256 * (c1 + 256 * c2 + 65536 * c3 + 16777216 * c4 + 4294967296 * c5 + 1099511627776 * c6 + 281474976710656 * c7) + c0 := by omega
  have h1 : (256 * (256 * (256 * (256 * (256 * (256 * (256 * (256 * 0 + c7) + c6) + c5) + c4) + c3) + c2) + c1) + c0) / 256 = c1 + 256 * c2 + 65536 * c3 + 16777216 * c4 + 4294967296 * c5 + 1099511627776 * c6 + 281474976710656 * c7 := by rw [eA]; exact dv _ _ _ (by decide) (by omega)
  rw [h1, eA]
  clear h1 eA
  have e2 : 256 * (c1 + 256 * c2 + 65536 * c3 + 16777216 * c4 + 4294967296 * c5 + 1099511627776 * c6 + 281474976710656 * c7) + c0 + (c1 + 256 * c2 + 65536 * c3 + 16777216 * c4 + 4294967296 * c5 + 1099511627776 * c6 + 281474976710656 * c7) = 65536 * ((c2 + c3) + 256 * (c3 + c4) + 65536 * (c4 + c5) + 16777216 * (c5 + c6) + 4294967296 * (c6 + c7) + 1099511627776 * c7) + (c0 + c1 + 256 * (c1 + c2)) := by omega
  rw [e2]
  clear e2
  have h2 : (65536 * ((c2 + c3) + 256 * (c3 + c4) + 65536 * (c4 + c5) + 16777216 * (c5 + c6) + 4294967296 * (c6 + c7) + 1099511627776 * c7) + (c0 + c1 + 256 * (c1 + c2))) / 65536 = (c2 + c3) + 256 * (c3 + c4) + 65536 * (c4 + c5) + 16777216 * (c5 + c6) + 4294967296 * (c6 + c7) + 1099511627776 * c7 := dv _ _ _ (by decide) (by omega)
  rw [h2]
  clear h2
  have e3 : 65536 * ((c2 + c3) + 256 * (c3 + c4) + 65536 * (c4 + c5) + 16777216 * (c5 + c6) + 4294967296 * (c6 + c7) + 1099511627776 * c7) + (c0 + c1 + 256 * (c1 + c2)) + ((c2 + c3) + 256 * (c3 + c4) + 65536 * (c4 + c5) + 16777216 * (c5 + c6) + 4294967296 * (c6 + c7) + 1099511627776 * c7) = 4294967296 * ((c4 + c5 + (c6 + c7)) + 256 * (c5 + c6 + c7) + 65536 * (c6 + c7) + 16777216 * c7) + ((c0 + c1 + (c2 + c3)) + 256 * (c1 + c2 + (c3 + c4)) + 65536 * (c2 + c3 + (c4 + c5)) + 16777216 * (c3 + c4 + (c5 + c6))) := by omega
  rw [e3]
  have h3 : (4294967296 * ((c4 + c5 + (c6 + c7)) + 256 * (c5 + c6 + c7) + 65536 * (c6 + c7) + 16777216 * c7) + ((c0 + c1 + (c2 + c3)) + 256 * (c1 + c2 + (c3 + c4)) + 65536 * (c2 + c3 + (c4 + c5)) + 16777216 * (c3 + c4 + (c5 + c6)))) / 4294967296 = (c4 + c5 + (c6 + c7)) + 256 * (c5 + c6 + c7) + 65536 * (c6 + c7) + 16777216 * c7 := dv _ _ _ (by decide) (by omega)
  rw [h3]
  clear h3 e3
  refine ⟨?_, ?_⟩
  · show _ < 1152921504606846976
    omega
  · have e4 : 4294967296 * ((c4 + c5 + (c6 + c7)) + 256 * (c5 + c6 + c7) + 65536 * (c6 + c7) + 16777216 * c7) + ((c0 + c1 + (c2 + c3)) + 256 * (c1 + c2 + (c3 + c4)) + 65536 * (c2 + c3 + (c4 + c5)) + 16777216 * (c3 + c4 + (c5 + c6))) + ((c4 + c5 + (c6 + c7)) + 256 * (c5 + c6 + c7) + 65536 * (c6 + c7) + 16777216 * c7) = (c0 + (c1 + (c2 + (c3 + (c4 + (c5 + (c6 + c7))))))) + 128 * (2 * (c1 + c2 + (c3 + c4) + (c5 + c6 + c7)) + 512 * (c2 + c3 + (c4 + c5) + (c6 + c7)) + 131072 * (c3 + c4 + (c5 + c6) + c7) + 33554432 * (c4 + c5 + (c6 + c7)) + 8589934592 * (c5 + c6 + c7) + 2199023255552 * (c6 + c7) + 562949953421312 * c7) := by omega
    rw [e4, Nat.add_mul_mod_self_left]
    exact Nat.mod_eq_of_lt (by omega)
