-- @after 30 31 35 40 41 42 43 44
/-- same -/
def samN (L M : LB) : Nat := cntB (fun i => decide (wd L i = wd M i)) (min (lT L).length (lT M).length + 1)
def samA (S : AS) (s t : Int) : Int := match gl S s, gl S t with
  | some L, some M => (samN L M : Nat)
  | _, _ => -2
theorem s88l {d : Nat} {σ : HP} {b c : Int} {L M : LB} (hb : blr σ b L) (hw : wf0 L) (hc : blr σ c M) (hM : wf0 M) {n : Nat} (hn : n ≤ (lT L).length) (hn2 : n ≤ (lT M).length) : ∀ (m i : Nat) (u0 u1 u2 : MV), i + m = n + 1 → rsP PG0 MX d 88 45 [u0, u1, u2, vR b, vR c, vI n, vI (cntB (fun i => decide (wd L i = wd M i)) i : Nat), vI i] [] σ = some (((cntB (fun i => decide (wd L i = wd M i)) (n + 1) : Nat) : Int), σ) := by
  obtain ⟨⟨m1, m2, m3, m4, m5, m6, m7, m8, m9⟩, f3, f4, f5, f6, fs, fw⟩ := id hb
  obtain ⟨⟨n1, n2, n3, n4, n5, n6, n7, n8, n9⟩, k3, k4, k5, k6, ks, kw⟩ := id hc
  have hl := wf_len hw
  have hl2 := wf_len hM
  intro m
  induction m with
  | zero =>
    intro i u0 u1 u2 hi
    have : i = n + 1 := by omega
    subst this
    rw [sg_88_45]
    (try simp (disch := omega) only [wr_id2])
    repeat (first | refine step_t trivial ?_ | refine step_t (by omega) ?_ | refine step_f (by omega) ?_)
    rfl
  | succ m ih =>
    intro i u0 u1 u2 hi
    have q1 := wd_256 hw i
    have q2 := wd_256 hM i
    have hq := ih (i + 1) vU vU vU (by omega)
    have e9 : cntB (fun i => decide (wd L i = wd M i)) (i + 1) = cntB (fun i => decide (wd L i = wd M i)) i + (bif decide (wd L i = wd M i) then 1 else 0) := rfl
    rw [e9] at hq
    rw [sg_88_45]
    (try simp (disch := omega) only [m5, n5, fw i (by omega), kw i (by omega), wr_id2])
    repeat (first | refine step_t trivial ?_ | refine step_t (by omega) ?_ | refine step_f (by omega) ?_)
    refine step_i (fun g => ?_) (fun g => ?_)
    · rw [decide_eq_false (show ¬ wd L i = wd M i by omega)] at hq
      exact hq
    · rw [decide_eq_true (show wd L i = wd M i by omega)] at hq
      exact hq
theorem c88 (S : AS) {s t : Int} (hs : i32 s) (ht2 : i32 t) : cOp 88 [vI s, vI t] S (samA S s t, S) := by
  intro d σ h hy ht hc
  obtain ⟨d, rfl⟩ := ob1 (show 1 ≤ d by omega)
  have y1 := hy.1
  have a1 := y32_m1 hy
  have e41 := s41 (d := d) (by omega) hy hc hs
  have e42 := s41 (d := d) (by omega) hy hc ht2
  refine ⟨σ, ?_, FC.rf hy, hc⟩
  unfold samA
  rw [ce_88, sg_88_0]
  repeat (first | refine step_t trivial ?_ | refine step_t (by omega) ?_ | refine step_f (by omega) ?_)
  refine step_c (e41) ?_
  try dsimp only
  repeat (first | refine step_t trivial ?_ | refine step_t (by omega) ?_ | refine step_f (by omega) ?_)
  refine step_c (e42) ?_
  try dsimp only
  cases e : gl S s with
  | none =>
    rw [lbA_n e]
    repeat (first | refine step_t trivial ?_ | refine step_t (by omega) ?_ | refine step_f (by omega) ?_)
    cases gl S t <;> rfl
  | some L =>
    rw [lbA_s e]
    obtain ⟨g1, g2, g3, g4, g5⟩ := hc.got e
    repeat (first | refine step_t trivial ?_ | refine step_t (by omega) ?_ | refine step_f (by omega) ?_)
    cases f : gl S t with
    | none =>
      rw [lbA_n f]
      repeat (first | refine step_t trivial ?_ | refine step_t (by omega) ?_ | refine step_f (by omega) ?_)
      rfl
    | some M =>
      rw [lbA_s f]
      obtain ⟨p1, p2, p3, p4, p5⟩ := hc.got f
      obtain ⟨⟨m1, m2, m3, m4, m5, m6, m7, m8, m9⟩, f3, f4, f5, f6, fs, fw⟩ := id g3
      obtain ⟨⟨n1, n2, n3, n4, n5, n6, n7, n8, n9⟩, k3, k4, k5, k6, ks, kw⟩ := id p3
      have hl := wf_len g4.1
      have hl2 := wf_len p4.1
      (try simp (disch := omega) only [f6, k6, wr_id2])
      repeat (first | refine step_t trivial ?_ | refine step_t (by omega) ?_ | refine step_f (by omega) ?_)
      refine step_c (p_min (by omega) σ _ _) ?_
      try dsimp only
      (try simp (disch := omega) only [wr_id2])
      have e : (if (((lT M).length : Nat) : Int) < ((lT L).length : Nat) then (((lT M).length : Nat) : Int) else ((lT L).length : Nat)) = ((min (lT L).length (lT M).length : Nat) : Int) := by
        by_cases z : (lT M).length < (lT L).length
        · rw [if_pos (by omega), Nat.min_eq_right (by omega)]
        · rw [if_neg (by omega), Nat.min_eq_left (by omega)]
      rw [e]
      exact s88l (d := d) g3 g4.1 p3 p4.1 (n := min (lT L).length (lT M).length) (by omega) (by omega) _ 0 _ _ _ (Nat.zero_add _)
/-- rank: the exclusive or of all that a word is shifted to -/
def xsN : Nat → Nat → Nat
  | 0, _ => 0
  | n + 1, x => x ^^^ xsN n (x / 2)
theorem xsN_add (m : Nat) : ∀ n x, xsN (n + m) x = xsN n x ^^^ xsN m (x / 2 ^ n) := by
  intro n
  induction n with
  | zero => intro x; simp [xsN]
  | succ n ih =>
    intro x
    rw [show n + 1 + m = n + m + 1 by omega]
    show x ^^^ xsN (n + m) (x / 2) = (x ^^^ xsN n (x / 2)) ^^^ xsN m (x / 2 ^ (n + 1))
    rw [ih (x / 2), Nat.div_div_eq_div_mul, Nat.xor_assoc, Nat.pow_succ, Nat.mul_comm 2]
theorem xor_div (a b k : Nat) : (a ^^^ b) / 2 ^ k = a / 2 ^ k ^^^ b / 2 ^ k := by
  rw [← Nat.shiftRight_eq_div_pow, ← Nat.shiftRight_eq_div_pow, ← Nat.shiftRight_eq_div_pow, Nat.shiftRight_xor_distrib]
theorem xsN_div (k : Nat) : ∀ n x, xsN n (x / 2 ^ k) = xsN n x / 2 ^ k := by
  intro n
  induction n with
  | zero => intro x; simp [xsN]
  | succ n ih =>
    intro x
    show x / 2 ^ k ^^^ xsN n (x / 2 ^ k / 2) = (x ^^^ xsN n (x / 2)) / 2 ^ k
    rw [xor_div, ← ih (x / 2), Nat.div_div_eq_div_mul, Nat.div_div_eq_div_mul, Nat.mul_comm]
theorem xsN_lt {N : Nat} : ∀ n x, x < 2 ^ N → xsN n x < 2 ^ N := by
  intro n
  induction n with
  | zero => intro x h; show 0 < 2 ^ N; exact Nat.two_pow_pos N
  | succ n ih =>
    intro x h
    exact Nat.xor_lt_two_pow h (ih (x / 2) (Nat.lt_of_le_of_lt (Nat.div_le_self _ _) h))
theorem xsN_z : ∀ n, xsN n 0 = 0 := by
  intro n
  induction n with
  | zero => rfl
  | succ n ih => show 0 ^^^ xsN n (0 / 2) = 0; rw [Nat.zero_div, ih]; rfl
def rnkA (x : Int) : Int := if 0 ≤ x then (xsN 32 x.toNat : Nat) else -2
theorem s99l {d : Nat} {σ : HP} {x : Nat} (hx : x < 2147483648) : ∀ (m k : Nat) (u0 u1 : MV), k + m = 5 → rsP PG0 MX d 99 11 [u0, u1, vI (xsN (2 ^ k) x : Nat), vI ((2 ^ k : Nat) : Int)] [] σ = some (((xsN 32 x : Nat) : Int), σ) := by
  intro m
  induction m with
  | zero =>
    intro k u0 u1 hk
    have : k = 5 := by omega
    subst this
    rw [sg_99_11]
    (try simp (disch := omega) only [wr_id2])
    repeat (first | refine step_t trivial ?_ | refine step_t (by omega) ?_ | refine step_f (by omega) ?_)
    rfl
  | succ m ih =>
    intro k u0 u1 hk
    have h1 : xsN (2 ^ k) x < 2147483648 := xsN_lt (N := 31) _ x hx
    have h2 : xsN (2 ^ k) x / 2 ^ 2 ^ k ≤ xsN (2 ^ k) x := Nat.div_le_self _ _
    have hk16 : 2 ^ k < 32 := Nat.pow_lt_pow_right (a := 2) (by omega) (show k < 5 by omega)
    have hw2 : wr ((2 ^ k : Nat) : Int) = ((2 ^ k : Nat) : Int) := wrn (Nat.lt_trans hk16 (by decide))
    have e := ih (k + 1) vU vU (by omega)
    have e2 : xsN (2 ^ (k + 1)) x = xsN (2 ^ k) x ^^^ xsN (2 ^ k) x / 2 ^ 2 ^ k := by
      rw [← xsN_div, ← xsN_add, Nat.pow_succ, Nat.mul_two]
    have e3 : ((2 ^ (k + 1) : Nat) : Int) = ((2 ^ k : Nat) : Int) * 2 := by rw [Nat.pow_succ, Int.natCast_mul]; rfl
    rw [e2, e3] at e
    rw [sg_99_11, hw2]
    refine step_f (show ¬ wr 32 ≤ ((2 ^ k : Nat) : Int) by rw [show wr 32 = 32 from rfl]; omega) ?_
    (try simp (disch := omega) only [i_shr_n (a := xsN (2 ^ k) x) (k := 2 ^ k) hk16 h1, i_xor_n (a := xsN (2 ^ k) x) (b := xsN (2 ^ k) x / 2 ^ 2 ^ k) h1 (by omega), wr_id2])
    exact e
theorem c99 (S : AS) {x : Int} (hx : i32 x) : cOp 99 [vI x] S (rnkA x, S) := by
  intro d σ h hy ht hc
  obtain ⟨d, rfl⟩ := ob1 (show 1 ≤ d by omega)
  have x1 := hx.1
  have x2 := hx.2
  refine ⟨σ, ?_, FC.rf hy, hc⟩
  unfold rnkA
  rw [ce_99, sg_99_0]
  (try simp (disch := omega) only [wr_id2])
  refine step_i (fun q => ?_) (fun q => ?_)
  · rw [if_pos q]
    have e := s99l (d := d) (σ := σ) (x := x.toNat) (by omega) 5 0 (vR 32) (vI x) (by omega)
    have e1 : xsN (2 ^ 0) x.toNat = x.toNat := by show x.toNat ^^^ 0 = _; rw [Nat.xor_zero]
    rw [e1, show ((x.toNat : Nat) : Int) = x by omega] at e
    exact e
  · rw [if_neg q]
/-- numberOfTrailingZeros -/
def lowN : Nat → Nat → Nat
  | 0, _ => 0
  | m + 1, x => if x % 2 = 1 then 0 else 1 + lowN m (x / 2)
theorem low_sp : ∀ m x, 0 < x → x < 2 ^ m → ∃ y, x = 2 ^ lowN m x * (2 * y + 1) ∧ lowN m x < m := by
  intro m
  induction m with
  | zero => intro x h1 h2; simp at h2; omega
  | succ m ih =>
    intro x h1 h2
    unfold lowN
    by_cases z : x % 2 = 1
    · rw [if_pos z]
      exact ⟨x / 2, by rw [Nat.pow_zero]; omega, by omega⟩
    · rw [if_neg z]
      obtain ⟨y, e1, e2⟩ := ih (x / 2) (by omega) (by rw [Nat.pow_succ] at h2; omega)
      refine ⟨y, ?_, by omega⟩
      rw [Nat.add_comm 1, Nat.pow_succ, Nat.mul_comm (2 ^ _) 2, Nat.mul_assoc, ← e1]
      omega
theorem and_low (k y : Nat) : ∀ i : Nat, ((2 ^ k * (2 * y + 1) - 1).testBit i && !((2 ^ k * (2 * y + 1)).testBit i)) = decide (i < k) := by
  intro i
  have e : 2 ^ k * (2 * y + 1) - 1 = 2 ^ k * (2 * y) + (2 ^ k - 1) := by
    rw [Nat.mul_add, Nat.mul_one]
    have := Nat.two_pow_pos k
    omega
  have h1 : 2 ^ k - 1 < 2 ^ k := by have := Nat.two_pow_pos k; omega
  rw [e, Nat.testBit_two_pow_mul_add _ h1, Nat.testBit_two_pow_mul]
  by_cases z : i < k
  · rw [if_pos z, decide_eq_true z, Nat.testBit_two_pow_sub_one, decide_eq_true z, decide_eq_false (by omega)]
    rfl
  · rw [if_neg z, decide_eq_false z, decide_eq_true (show i ≥ k by omega), Bool.true_and]
    match hj : i - k with
    | 0 => simp [Nat.testBit_zero]
    | j + 1 =>
      rw [Nat.testBit_succ, Nat.testBit_succ]
      have e1 : 2 * y / 2 = y := by omega
      have e2 : (2 * y + 1) / 2 = y := by omega
      rw [e1, e2]
      cases y.testBit j <;> rfl
theorem ntz_x {x k y : Nat} (hx : x < 2147483648) (e : x = 2 ^ k * (2 * y + 1)) (hk : k < 31) : i_and (i_xor (x : Int) (-1)) ((x : Int) - 1) = ((2 ^ k - 1 : Nat) : Int) := by
  have hp := Nat.two_pow_pos k
  have hx0 : 0 < x := by rw [e]; exact Nat.mul_pos hp (by omega)
  have hk2 : 2 ^ k < 2147483648 := Nat.pow_lt_pow_right (a := 2) (by omega) hk
  unfold i_and i_xor
  rw [show (x : Int) - 1 = ((x - 1 : Nat) : Int) by omega, Int32.ofInt_toInt, o_nat, o_nat]
  refine bv_int ?_ (by omega)
  show (((Int32.ofNat x).toBitVec ^^^ (Int32.ofInt (-1)).toBitVec) &&& (Int32.ofNat (x - 1)).toBitVec).toNat = _
  apply Nat.eq_of_testBit_eq
  intro i
  rw [BitVec.toNat_and, Nat.testBit_and, BitVec.toNat_xor, Nat.testBit_xor, tn_nat (by omega), tn_nat (by omega), Nat.testBit_two_pow_sub_one]
  have em : (Int32.ofInt (-1)).toBitVec.toNat = 2 ^ 32 - 1 := by decide
  rw [em, Nat.testBit_two_pow_sub_one]
  have ha := and_low k y i
  rw [← e] at ha
  rw [← ha]
  by_cases z : i < 32
  · rw [decide_eq_true z, Bool.xor_true, Bool.and_comm]
  · have t1 : (x - 1).testBit i = false := Nat.testBit_lt_two_pow (Nat.lt_of_lt_of_le (show x - 1 < 2 ^ 32 by omega) (Nat.pow_le_pow_right (by omega) (by omega)))
    rw [t1, Bool.and_false, Bool.false_and]
def ntzX (x : Int) : Option Int := if 0 < wr x then
    (let a : Int × Int := if wr x ≤ wr 65536 then (x, 1) else (i_ushr x 16, 1 + 16)
     let b : Int × Int := if wr a.1 ≤ wr 256 then a else (i_ushr a.1 8, a.2 + 8)
     let c : Int × Int := if wr b.1 ≤ wr 16 then b else (i_ushr b.1 4, b.2 + 4)
     some (if wr c.1 ≤ wr 4 then c.2 + i_ushr c.1 1 else (c.2 + 2) + i_ushr (i_ushr c.1 2) 1)) else some (i_and x 32)
theorem ntz_tab : ∀ k : Nat, k < 31 → ntzX ((2 ^ k - 1 : Nat) : Int) = some (k : Int) := by decide +kernel
theorem ntz_run {d : Nat} {σ : HP} (x y : Int) (e : i_and (i_xor x (-1)) (x - 1) = y) : clR PG0 MX (d + 1) 101 [vI x] σ = (match ntzX y with | some r => some (r, σ) | none => none) := by
  rw [ce_101, sg_101_0, e]
  unfold ntzX
  refine step_i (fun q => ?_) (fun q => ?_)
  · rw [if_pos q]
    dsimp only
    have key3 : ∀ a b : Int, rsP PG0 MX d 101 62 [vI a, vI b] [] σ = some (if wr a ≤ wr 4 then b + i_ushr a 1 else (b + 2) + i_ushr (i_ushr a 2) 1, σ) := by
      intro a b
      rw [sg_101_62]
      refine step_i (fun q => ?_) (fun q => ?_)
      · rw [if_pos q]
      · rw [if_neg q]
    have key2 : ∀ t : Int × Int, rsP PG0 MX d 101 49 [vI t.1, vI t.2] [] σ = some (if wr (if wr t.1 ≤ wr 16 then t else (i_ushr t.1 4, t.2 + 4)).1 ≤ wr 4 then (if wr t.1 ≤ wr 16 then t else (i_ushr t.1 4, t.2 + 4)).2 + i_ushr (if wr t.1 ≤ wr 16 then t else (i_ushr t.1 4, t.2 + 4)).1 1 else ((if wr t.1 ≤ wr 16 then t else (i_ushr t.1 4, t.2 + 4)).2 + 2) + i_ushr (i_ushr (if wr t.1 ≤ wr 16 then t else (i_ushr t.1 4, t.2 + 4)).1 2) 1, σ) := by
      intro t
      rw [sg_101_49]
      refine step_i (fun q => ?_) (fun q => ?_)
      · rw [if_pos q]
        exact key3 _ _
      · rw [if_neg q]
        exact key3 _ _
    have key1 : ∀ t : Int × Int, rsP PG0 MX d 101 34 [vI t.1, vI t.2] [] σ = rsP PG0 MX d 101 49 [vI (if wr t.1 ≤ wr 256 then t else (i_ushr t.1 8, t.2 + 8)).1, vI (if wr t.1 ≤ wr 256 then t else (i_ushr t.1 8, t.2 + 8)).2] [] σ := by
      intro t
      rw [sg_101_34]
      refine step_i (fun q => ?_) (fun q => ?_)
      · rw [if_pos q]
      · rw [if_neg q]
    refine step_i (fun q2 => ?_) (fun q2 => ?_)
    · rw [if_pos q2]
      exact (key1 (y, 1)).trans (key2 _)
    · rw [if_neg q2]
      exact (key1 (i_ushr y 16, 1 + 16)).trans (key2 _)
  · rw [if_neg q]
theorem s101 {d : Nat} (h : 1 ≤ d) (σ : HP) {x : Nat} (h0 : 0 < x) (hx : x < 2147483648) : clR PG0 MX d 101 [vI x] σ = some (((lowN 31 x : Nat) : Int), σ) := by
  obtain ⟨d, rfl⟩ := ob1 (show 1 ≤ d by omega)
  obtain ⟨y, e1, e2⟩ := low_sp 31 x h0 hx
  rw [ntz_run (x : Int) _ (ntz_x hx e1 e2), ntz_tab _ e2]
def rulA (x : Int) : Int := if 1 ≤ x then (lowN 31 x.toNat : Nat) else -2
theorem c100 (S : AS) {x : Int} (hx : i32 x) : cOp 100 [vI x] S (rulA x, S) := by
  intro d σ h hy ht hc
  obtain ⟨d, rfl⟩ := ob1 (show 1 ≤ d by omega)
  have x1 := hx.1
  have x2 := hx.2
  refine ⟨σ, ?_, FC.rf hy, hc⟩
  unfold rulA
  rw [ce_100, sg_100_0]
  (try simp (disch := omega) only [wr_id2])
  refine step_i (fun q => ?_) (fun q => ?_)
  · rw [if_pos q]
    have e := s101 (d := d) (by omega) σ (x := x.toNat) (by omega) (by omega)
    rw [show ((x.toNat : Nat) : Int) = x by omega] at e
    refine step_c (e) ?_
    try dsimp only
  · rw [if_neg q]
