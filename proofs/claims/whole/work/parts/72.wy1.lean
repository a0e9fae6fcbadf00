/-! THE SHORTEST WAY: what it is, two searches -/
theorem pig : ∀ (n : Nat) (Q : Nat → Nat) (v : Nat), v < n → (∀ i, i < n → Q i < n ∧ Q i ≠ v) → (∀ i j, i < j → j < n → Q i ≠ Q j) → False := by
  intro n
  induction n with
  | zero => intro Q v hv; omega
  | succ n ih =>
    intro Q v hv h1 h2
    have f1 : ∀ x, x < n + 1 → x ≠ v → (if x = n then v else x) < n := fun x hx hxv => by
      by_cases z : x = n
      · rw [if_pos z]; omega
      · rw [if_neg z]; omega
    have f2 : ∀ x y, x ≠ v → y ≠ v → x ≠ y → (if x = n then v else x) ≠ (if y = n then v else y) := fun x y hx hy hxy => by
      by_cases z : x = n
      · rw [if_pos z, if_neg (by omega)]; exact fun q => hy q.symm
      · rw [if_neg z]
        by_cases z2 : y = n
        · rw [if_pos z2]; exact hx
        · rw [if_neg z2]; exact hxy
    have hn := h1 n (by omega)
    refine ih (fun i => if Q i = n then v else Q i) (if Q n = n then v else Q n) (f1 _ hn.1 hn.2) (fun i hi => ?_) (fun i j hi hj => ?_)
    · have hq := h1 i (by omega)
      exact ⟨f1 _ hq.1 hq.2, f2 _ _ hq.2 hn.2 (h2 i n hi (by omega))⟩
    · exact f2 _ _ (h1 i (by omega)).2 (h1 j (by omega)).2 (h2 i j hi (by omega))
theorem xor_back (v x : Nat) : v ^^^ x ^^^ x = v := by rw [Nat.xor_assoc, Nat.xor_self, Nat.xor_zero]
def seR (N : Nat) (al : Nat → Bool) (a : Nat) : Nat → Nat → Prop
  | 0, v => v = a
  | n + 1, v => seR N al a n v ∨ (al v = true ∧ ∃ k, k < N ∧ seR N al a n (v ^^^ 2 ^ k))
def lyR (N : Nat) (al : Nat → Bool) (a n v : Nat) : Prop := seR N al a n v ∧ ∀ j, j < n → ¬ seR N al a j v
def WAY (N : Nat) (al : Nat → Bool) (a b : Nat) (r : Int) : Prop := (r = -1 ∧ ∀ n, n ≤ 256 → ¬ seR N al a n b) ∨ ∃ m : Nat, m ≤ 256 ∧ r = m ∧ lyR N al a m b
theorem se_mono {N : Nat} {al : Nat → Bool} {a v : Nat} : ∀ (k n : Nat), seR N al a n v → seR N al a (n + k) v := by
  intro k
  induction k with
  | zero => intro n h; exact h
  | succ k ih => intro n h; exact Or.inl (ih n h)
theorem se_le {N : Nat} {al : Nat → Bool} {a v n m : Nat} (h : seR N al a n v) (hm : n ≤ m) : seR N al a m v := by
  have := se_mono (m - n) n h
  rw [show n + (m - n) = m by omega] at this
  exact this
theorem se_b {N : Nat} {al : Nat → Bool} {a : Nat} (ha : a < 2 ^ N) : ∀ (n v : Nat), seR N al a n v → v < 2 ^ N := by
  intro n
  induction n with
  | zero => intro v h; rw [show v = a from h]; exact ha
  | succ n ih =>
    intro v h
    rcases h with h | ⟨-, k, hk, h⟩
    · exact ih v h
    · have h1 := ih _ h
      have h2 : 2 ^ k < 2 ^ N := Nat.pow_lt_pow_right (by omega) hk
      have h3 := Nat.xor_lt_two_pow h1 h2
      rw [xor_back] at h3
      exact h3
theorem ly_un {N : Nat} {al : Nat → Bool} {a m n v : Nat} (h1 : lyR N al a m v) (h2 : lyR N al a n v) : m = n := by
  rcases Nat.lt_trichotomy m n with h | h | h
  · exact absurd h1.1 (h2.2 m h)
  · exact h
  · exact absurd h2.1 (h1.2 n h)
theorem ly_le {N : Nat} {al : Nat → Bool} {a m n v : Nat} (h1 : lyR N al a m v) (h2 : seR N al a n v) : m ≤ n := by
  by_cases z : m ≤ n
  · exact z
  · exact absurd h2 (h1.2 n (by omega))
theorem WAY.un {N : Nat} {al : Nat → Bool} {a b : Nat} {r r' : Int} (h1 : WAY N al a b r) (h2 : WAY N al a b r') : r = r' := by
  rcases h1 with ⟨e, h1⟩ | ⟨m, hm, e, h1⟩
  · rcases h2 with ⟨e2, h2⟩ | ⟨n, hn, e2, h2⟩
    · rw [e, e2]
    · exact absurd h2.1 (h1 n hn)
  · rcases h2 with ⟨e2, h2⟩ | ⟨n, hn, e2, h2⟩
    · exact absurd h1.1 (h2 m hm)
    · rw [e, e2, ly_un h1 h2]
theorem ly_ex {N : Nat} {al : Nat → Bool} {a v : Nat} : ∀ n, seR N al a n v → ∃ m, m ≤ n ∧ lyR N al a m v := by
  intro n
  induction n with
  | zero => intro h; exact ⟨0, Nat.le_refl _, h, fun j hj => by omega⟩
  | succ n ih =>
    intro h
    by_cases z : seR N al a n v
    · obtain ⟨m, m1, m2⟩ := ih z
      exact ⟨m, by omega, m2⟩
    · exact ⟨n + 1, Nat.le_refl _, h, fun j hj q => z (se_le q (by omega))⟩
theorem WAY.ex (N : Nat) (al : Nat → Bool) (a b : Nat) : ∃ r, WAY N al a b r := by
  by_cases z : seR N al a 256 b
  · obtain ⟨m, m1, m2⟩ := ly_ex 256 z
    exact ⟨m, Or.inr ⟨m, m1, rfl, m2⟩⟩
  · exact ⟨-1, Or.inl ⟨rfl, fun n hn q => z (se_le q hn)⟩⟩
/-- the queue -/
def QI (N : Nat) (al : Nat → Bool) (a : Nat) (D : Nat → Int) (Q : Nat → Nat) (len : Nat) : Prop := len ≤ 256 ∧ (∀ i, i < len → Q i < 2 ^ N ∧ 0 ≤ D (Q i) ∧ D (Q i) ≤ i) ∧ (∀ v, v < 256 → D v = -1 ∨ ((∃ i, i < len ∧ Q i = v) ∧ ∃ m : Nat, D v = m ∧ lyR N al a m v)) ∧ (∀ i j, i < j → j < len → Q i ≠ Q j ∧ D (Q i) ≤ D (Q j))
def QO (N : Nat) (al : Nat → Bool) (a : Nat) (D : Nat → Int) (Q : Nat → Nat) (len hd : Nat) : Prop := QI N al a D Q len ∧ hd ≤ len ∧ (∀ i k, i < hd → k < N → al (Q i ^^^ 2 ^ k) = true → D (Q i ^^^ 2 ^ k) ≠ -1) ∧ (∀ j, hd < len → j < len → D (Q j) ≤ D (Q hd) + 1) ∧ ∀ (m v : Nat), (hd < len → (m : Int) ≤ D (Q hd)) → seR N al a m v → D v ≠ -1
def QN (N : Nat) (al : Nat → Bool) (a : Nat) (D : Nat → Int) (Q : Nat → Nat) (len hd k : Nat) : Prop := QI N al a D Q len ∧ hd < len ∧ (∀ i k', (i < hd ∨ (i = hd ∧ k' < k)) → k' < N → al (Q i ^^^ 2 ^ k') = true → D (Q i ^^^ 2 ^ k') ≠ -1) ∧ (∀ j, j < len → D (Q j) ≤ D (Q hd) + 1) ∧ ∀ (m v : Nat), (m : Int) ≤ D (Q hd) → seR N al a m v → D v ≠ -1
theorem QO.qn {N : Nat} {al : Nat → Bool} {a : Nat} {D : Nat → Int} {Q : Nat → Nat} {len hd : Nat} (h : QO N al a D Q len hd) (h1 : hd < len) : QN N al a D Q len hd 0 :=
  ⟨h.1, h1, fun i k' q => h.2.2.1 i k' (by omega), fun j => h.2.2.2.1 j h1, fun m v q => h.2.2.2.2 m v (fun _ => q)⟩
theorem QI.ly {N : Nat} {al : Nat → Bool} {a : Nat} {D : Nat → Int} {Q : Nat → Nat} {len : Nat} (h : QI N al a D Q len) {v : Nat} (hv : v < 256) (hd : D v ≠ -1) : (∃ i, i < len ∧ Q i = v) ∧ ∃ m : Nat, D v = m ∧ lyR N al a m v := by
  rcases h.2.2.1 v hv with q | q
  · exact absurd q hd
  · exact q
theorem QN.qo {N : Nat} {al : Nat → Bool} {a : Nat} (hN : N ≤ 8) (ha : a < 2 ^ N) {D : Nat → Int} {Q : Nat → Nat} {len hd : Nat} (h : QN N al a D Q len hd N) : QO N al a D Q len (hd + 1) := by
  obtain ⟨hI, hlt, h8, h7, h9⟩ := h
  have hp := pow8 hN
  have ex : ∀ v, seR N al a 0 v → D v ≠ -1 := fun v hv => h9 0 v (hI.2.1 hd hlt).2.1 hv
  have stp : ∀ (m v : Nat), (∀ u, seR N al a m u → D u ≠ -1 ∧ ∃ i, i < hd + 1 ∧ Q i = u) → seR N al a (m + 1) v → D v ≠ -1 := fun m v hu hv => by
    rcases hv with hv | ⟨ha2, k, hk, hv⟩
    · exact (hu v hv).1
    · obtain ⟨-, i, i1, i2⟩ := hu _ hv
      have := h8 i k (by omega) hk
      rw [i2, xor_back] at this
      exact this ha2
  refine ⟨hI, hlt, fun i k' q hk => h8 i k' (by omega) hk, fun j q1 q2 => ?_, fun m v q hv => ?_⟩
  · have e1 := h7 j q2
    have e2 := (hI.2.2.2 hd (hd + 1) (by omega) q1).2
    omega
  · by_cases z : hd + 1 < len
    · have q := q z
      by_cases z2 : (m : Int) ≤ D (Q hd)
      · exact h9 m v z2 hv
      · have e1 := h7 (hd + 1) z
        have e0 := (hI.2.1 hd hlt).2.1
        obtain ⟨m', rfl⟩ : ∃ m', m = m' + 1 := ⟨m - 1, by omega⟩
        refine stp m' v (fun u hu => ?_) hv
        have d1 := h9 m' u (by omega) hu
        have hub := se_b ha m' u hu
        obtain ⟨⟨i, i1, i2⟩, x, x1, x2⟩ := hI.ly (by omega) d1
        refine ⟨d1, i, ?_, i2⟩
        have e5 := ly_le x2 hu
        rw [← i2] at x1
        by_cases z3 : i < hd + 1
        · exact z3
        · by_cases z4 : i = hd + 1
          · rw [z4] at x1; omega
          · have e6 := (hI.2.2.2 (hd + 1) i (by omega) i1).2
            omega
    · have all : ∀ (m v : Nat), seR N al a m v → D v ≠ -1 := by
        intro m
        induction m with
        | zero => exact ex
        | succ m ih =>
          intro v hv
          refine stp m v (fun u hu => ?_) hv
          have d1 := ih u hu
          have hub := se_b ha m u hu
          obtain ⟨⟨i, i1, i2⟩, -⟩ := hI.ly (by omega) d1
          exact ⟨d1, i, by omega, i2⟩
      exact all m v hv
theorem QN.sk {N : Nat} {al : Nat → Bool} {a : Nat} {D : Nat → Int} {Q : Nat → Nat} {len hd k : Nat} (h : QN N al a D Q len hd k) (q : al (Q hd ^^^ 2 ^ k) = true → D (Q hd ^^^ 2 ^ k) ≠ -1) : QN N al a D Q len hd (k + 1) := by
  obtain ⟨hI, hlt, h8, h7, h9⟩ := h
  refine ⟨hI, hlt, fun i k' w => ?_, h7, h9⟩
  by_cases z : i = hd ∧ k' = k
  · rw [z.1, z.2]; exact fun _ => q
  · exact h8 i k' (by omega)
theorem QN.fl {N : Nat} {al : Nat → Bool} {a : Nat} (hN : N ≤ 8) {D : Nat → Int} {Q : Nat → Nat} {len hd k : Nat} (h : QN N al a D Q len hd k) (hl : 256 ≤ len) (hk : k < N) : D (Q hd ^^^ 2 ^ k) ≠ -1 := by
  obtain ⟨hI, hlt, h8, h7, h9⟩ := h
  have hp := pow8 hN
  intro e
  have hle := hI.1
  have h2 : 2 ^ k < 2 ^ N := Nat.pow_lt_pow_right (by omega) hk
  have hv := Nat.xor_lt_two_pow (hI.2.1 hd hlt).1 h2
  refine pig 256 Q (Q hd ^^^ 2 ^ k) (by omega) (fun i hi => ⟨?_, ?_⟩) (fun i j hi hj => (hI.2.2.2 i j hi (by omega)).1)
  · have := (hI.2.1 i (by omega)).1; omega
  · intro q
    have := (hI.2.1 i (by omega)).2.1
    rw [q, e] at this
    omega
theorem QN.push {N : Nat} {al : Nat → Bool} {a : Nat} (hN : N ≤ 8) (ha : a < 2 ^ N) {D D' : Nat → Int} {Q Q' : Nat → Nat} {len hd k v : Nat} (h : QN N al a D Q len hd k) (hl : len < 256) (hk : k < N) (ev : v = Q hd ^^^ 2 ^ k) (hal : al v = true) (hv : D v = -1) (d1 : D' v = D (Q hd) + 1) (d2 : ∀ u, u < 256 → u ≠ v → D' u = D u) (q1 : Q' len = v) (q2 : ∀ i, i < len → Q' i = Q i) : QN N al a D' Q' (len + 1) hd (k + 1) := by
  obtain ⟨hI, hlt, h8, h7, h9⟩ := id h
  have hp := pow8 hN
  have h2 : 2 ^ k < 2 ^ N := Nat.pow_lt_pow_right (by omega) hk
  have vb : v < 2 ^ N := by rw [ev]; exact Nat.xor_lt_two_pow (hI.2.1 hd hlt).1 h2
  have ne : ∀ i, i < len → Q i ≠ v := fun i hi q => by
    have := (hI.2.1 i hi).2.1
    rw [q, hv] at this
    omega
  have dq : ∀ i, i < len → D' (Q' i) = D (Q i) := fun i hi => by
    rw [q2 i hi]
    have := (hI.2.1 i hi).1
    exact d2 _ (by omega) (ne i hi)
  have eh := dq hd hlt
  have nn := (hI.2.1 hd hlt).2.1
  have hh := (hI.2.1 hd hlt).2.2
  have hb := (hI.2.1 hd hlt).1
  obtain ⟨-, n, n1, n2⟩ := hI.ly (v := Q hd) (by omega) (by omega)
  have keep : ∀ u, u < 256 → D u ≠ -1 → D' u ≠ -1 := fun u hu q => by
    rw [d2 u hu (fun z => q (by rw [z]; exact hv))]; exact q
  have nv : D' v ≠ -1 := by omega
  have lv : lyR N al a (n + 1) v := ⟨Or.inr ⟨hal, k, hk, by rw [ev, xor_back]; exact n2.1⟩, fun j hj q => absurd hv (h9 j v (by omega) q)⟩
  have hI' : QI N al a D' Q' (len + 1) := by
    refine ⟨by omega, fun i hi => ?_, fun u hu => ?_, fun i j hi hj => ?_⟩
    · by_cases z : i < len
      · rw [dq i z, q2 i z]; exact hI.2.1 i z
      · have : i = len := by omega
        rw [this, q1, d1]
        exact ⟨vb, by omega, by omega⟩
    · by_cases z : u = v
      · rw [z]
        exact Or.inr ⟨⟨len, by omega, q1⟩, n + 1, by rw [d1, n1]; rfl, lv⟩
      · rw [d2 u hu z]
        rcases hI.2.2.1 u hu with q | ⟨⟨i, i1, i2⟩, q⟩
        · exact Or.inl q
        · exact Or.inr ⟨⟨i, by omega, by rw [q2 i i1]; exact i2⟩, q⟩
    · by_cases z : j < len
      · rw [dq i (by omega), dq j z, q2 i (by omega), q2 j z]
        exact hI.2.2.2 i j hi z
      · have : j = len := by omega
        rw [this, dq i (by omega), q2 i (by omega), q1, d1]
        exact ⟨ne i (by omega), h7 i (by omega)⟩
  refine ⟨hI', by omega, fun i k' w hk' => ?_, fun j hj => ?_, fun m u hm hu => ?_⟩
  · have hi : i < len := by omega
    rw [q2 i hi]
    intro hal2
    have h3 : 2 ^ k' < 2 ^ N := Nat.pow_lt_pow_right (by omega) hk'
    have h4 := Nat.xor_lt_two_pow (hI.2.1 i hi).1 h3
    by_cases z : i = hd ∧ k' = k
    · rw [z.1, z.2, ← ev]; exact nv
    · exact keep _ (by omega) (h8 i k' (by omega) hk' hal2)
  · rw [eh]
    by_cases z : j < len
    · rw [dq j z]; exact h7 j z
    · have : j = len := by omega
      rw [this, q1, d1]
      exact Int.le_refl _
  · rw [eh] at hm
    have := h9 m u hm hu
    have hub := se_b ha m u hu
    by_cases z : u = v
    · rw [z]; exact nv
    · exact keep u (by omega) this
theorem QO.st {N : Nat} {al : Nat → Bool} {a : Nat} (ha : a < 2 ^ N) {D : Nat → Int} {Q : Nat → Nat} (h1 : D a = 0) (h2 : ∀ v, v < 256 → v ≠ a → D v = -1) (h3 : Q 0 = a) : QO N al a D Q 1 0 := by
  refine ⟨⟨by omega, fun i hi => ?_, fun v hv => ?_, fun i j hi hj => by omega⟩, by omega, fun i k q => by omega, fun j _ hj => ?_, fun m v q hv => ?_⟩
  · have : i = 0 := by omega
    rw [this, h3, h1]
    exact ⟨ha, by omega, by omega⟩
  · by_cases z : v = a
    · rw [z]
      exact Or.inr ⟨⟨0, by omega, h3⟩, 0, h1, rfl, fun j hj => by omega⟩
    · exact Or.inl (h2 v hv z)
  · have : j = 0 := by omega
    rw [this]; omega
  · have q := q (by omega)
    rw [h3, h1] at q
    have : m = 0 := by omega
    subst this
    rw [show v = a from hv, h1]
    decide
theorem QO.ye {N : Nat} {al : Nat → Bool} {a b : Nat} {D : Nat → Int} {Q : Nat → Nat} {len hd : Nat} (h : QO N al a D Q len hd) (hb : b < 256) (e : D b ≠ -1) : WAY N al a b (D b) := by
  obtain ⟨⟨i, i1, i2⟩, m, m1, m2⟩ := h.1.ly hb e
  have h3 := (h.1.2.1 i i1).2.2
  have h4 := h.1.1
  rw [i2] at h3
  exact Or.inr ⟨m, by omega, m1, m2⟩
theorem QO.no {N : Nat} {al : Nat → Bool} {a b : Nat} {D : Nat → Int} {Q : Nat → Nat} {len : Nat} (h : QO N al a D Q len len) (e : D b = -1) : WAY N al a b (D b) :=
  Or.inl ⟨e, fun n _ q => h.2.2.2.2 n b (fun w => by omega) q e⟩
/-- layer by layer -/
def LI (N : Nat) (al : Nat → Bool) (a : Nat) (D : Nat → Int) (n : Nat) : Prop := (∀ v, v < 256 → D v = -1 ∨ ∃ m : Nat, m ≤ n ∧ D v = m ∧ lyR N al a m v) ∧ ∀ m v, m ≤ n → seR N al a m v → D v ≠ -1
def LN (N : Nat) (al : Nat → Bool) (a : Nat) (D : Nat → Int) (n u k : Nat) : Prop := (∀ v, v < 256 → D v = -1 ∨ ∃ m : Nat, m ≤ n + 1 ∧ D v = m ∧ lyR N al a m v) ∧ (∀ m v, m ≤ n → seR N al a m v → D v ≠ -1) ∧ ∀ u' k', u' < 2 ^ N → k' < N → (u' < u ∨ (u' = u ∧ k' < k)) → D u' = n → al (u' ^^^ 2 ^ k') = true → D (u' ^^^ 2 ^ k') ≠ -1
theorem LI.ln {N : Nat} {al : Nat → Bool} {a : Nat} {D : Nat → Int} {n : Nat} (h : LI N al a D n) : LN N al a D n 0 0 := by
  refine ⟨fun v hv => ?_, h.2, fun u' k' _ _ q => by omega⟩
  rcases h.1 v hv with q | ⟨m, m1, m2⟩
  · exact Or.inl q
  · exact Or.inr ⟨m, by omega, m2⟩
theorem LN.nx {N : Nat} {al : Nat → Bool} {a : Nat} {D : Nat → Int} {n u : Nat} (h : LN N al a D n u N) : LN N al a D n (u + 1) 0 :=
  ⟨h.1, h.2.1, fun u' k' h1 h2 q => h.2.2 u' k' h1 h2 (by omega)⟩
theorem LN.n0 {N : Nat} {al : Nat → Bool} {a : Nat} {D : Nat → Int} {n u : Nat} (h : LN N al a D n u 0) (e : D u ≠ n) : LN N al a D n (u + 1) 0 :=
  ⟨h.1, h.2.1, fun u' k' h1 h2 q => by
    by_cases z : u' = u
    · rw [z]; exact fun w => absurd w e
    · exact h.2.2 u' k' h1 h2 (by omega)⟩
theorem LN.sk {N : Nat} {al : Nat → Bool} {a : Nat} {D : Nat → Int} {n u k : Nat} (h : LN N al a D n u k) (e : al (u ^^^ 2 ^ k) = true → D (u ^^^ 2 ^ k) ≠ -1) : LN N al a D n u (k + 1) :=
  ⟨h.1, h.2.1, fun u' k' h1 h2 q => by
    by_cases z : u' = u ∧ k' = k
    · rw [z.1, z.2]; exact fun _ => e
    · exact h.2.2 u' k' h1 h2 (by omega)⟩
theorem LN.push {N : Nat} {al : Nat → Bool} {a : Nat} (hN : N ≤ 8) (ha : a < 2 ^ N) {D D' : Nat → Int} {n u k v : Nat} (h : LN N al a D n u k) (hk : k < N) (hu : u < 2 ^ N) (eu : D u = n) (ev : v = u ^^^ 2 ^ k) (hal : al v = true) (hv : D v = -1) (d1 : D' v = n + 1) (d2 : ∀ u, u < 256 → u ≠ v → D' u = D u) : LN N al a D' n u (k + 1) := by
  obtain ⟨h1, h2, h3⟩ := h
  have hp := pow8 hN
  have hk2 : 2 ^ k < 2 ^ N := Nat.pow_lt_pow_right (by omega) hk
  have vb : v < 2 ^ N := by rw [ev]; exact Nat.xor_lt_two_pow hu hk2
  have nv : D' v ≠ -1 := by omega
  have keep : ∀ u, u < 256 → D u ≠ -1 → D' u ≠ -1 := fun u hu q => by
    rw [d2 u hu (fun z => q (by rw [z]; exact hv))]; exact q
  refine ⟨fun w hw => ?_, fun m w hm hw => ?_, fun u' k' g1 g2 q e2 hal2 => ?_⟩
  · by_cases z : w = v
    · rw [z]
      refine Or.inr ⟨n + 1, Nat.le_refl _, by rw [d1]; rfl, Or.inr ⟨hal, k, hk, ?_⟩, fun j hj q => absurd hv (h2 j v (by omega) q)⟩
      rw [ev, xor_back]
      rcases h1 u (by omega) with q | ⟨m, m1, m2, m3⟩
      · omega
      · rw [show n = m by omega]; exact m3.1
    · rw [d2 w hw z]; exact h1 w hw
  · have := se_b ha m w hw
    exact keep w (by omega) (h2 m w hm hw)
  · have hk3 : 2 ^ k' < 2 ^ N := Nat.pow_lt_pow_right (by omega) g2
    have h4 := Nat.xor_lt_two_pow g1 hk3
    by_cases z : u' = u ∧ k' = k
    · rw [z.1, z.2, ← ev]; exact nv
    · have ne : u' ≠ v := fun q => by rw [q, d1] at e2; omega
      rw [d2 u' (by omega) ne] at e2
      exact keep _ (by omega) (h3 u' k' g1 g2 (by omega) e2 hal2)
theorem LN.li {N : Nat} {al : Nat → Bool} {a : Nat} (hN : N ≤ 8) (ha : a < 2 ^ N) {D : Nat → Int} {n : Nat} (h : LN N al a D n (2 ^ N) 0) : LI N al a D (n + 1) := by
  obtain ⟨h1, h2, h3⟩ := h
  have hp := pow8 hN
  refine ⟨h1, fun m v hm hv => ?_⟩
  by_cases z : m ≤ n
  · exact h2 m v z hv
  · have : m = n + 1 := by omega
    subst this
    rcases hv with hv | ⟨hal, k, hk, hv⟩
    · exact h2 n v (Nat.le_refl _) hv
    · have hub := se_b ha n _ hv
      have d1 := h2 n _ (Nat.le_refl _) hv
      rcases h1 _ (show v ^^^ 2 ^ k < 256 by omega) with q | ⟨m, m1, m2, m3⟩
      · exact absurd q d1
      · have := ly_le m3 hv
        by_cases z2 : m = n
        · have := h3 (v ^^^ 2 ^ k) k hub hk (Or.inl hub) (by rw [m2, z2])
          rw [xor_back] at this
          exact this hal
        · exact h2 (m + 1) v (by omega) (Or.inr ⟨hal, k, hk, m3.1⟩)
theorem LI.st {N : Nat} {al : Nat → Bool} {a : Nat} {D : Nat → Int} (h1 : D a = 0) (h2 : ∀ v, v < 256 → v ≠ a → D v = -1) : LI N al a D 0 := by
  refine ⟨fun v hv => ?_, fun m v hm hv => ?_⟩
  · by_cases z : v = a
    · rw [z]
      exact Or.inr ⟨0, by omega, h1, rfl, fun j hj => by omega⟩
    · exact Or.inl (h2 v hv z)
  · have : m = 0 := by omega
    subst this
    rw [show v = a from hv, h1]
    decide
theorem LI.ye {N : Nat} {al : Nat → Bool} {a b : Nat} {D : Nat → Int} {n : Nat} (h : LI N al a D n) (hn : n ≤ 256) (hb : b < 256) (e : D b ≠ -1) : WAY N al a b (D b) := by
  rcases h.1 b hb with q | ⟨m, m1, m2, m3⟩
  · exact absurd q e
  · exact Or.inr ⟨m, by omega, m2, m3⟩
theorem LI.no {N : Nat} {al : Nat → Bool} {a b : Nat} {D : Nat → Int} (h : LI N al a D 256) (e : D b = -1) : WAY N al a b (D b) := Or.inl ⟨e, fun n hn q => h.2 n b hn q e⟩
