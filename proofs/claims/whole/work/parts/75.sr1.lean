/-! SEARCHES: the class's helpers -/
def hiN (P : LB) : Nat → Nat
  | 0 => 0
  | i + 1 => max (hiN P i) (rung P i)
def SR (σ0 σ : HP) (P : LB) (br : Nat → Bool) (k : Nat) : Prop := DW σ0 σ P ∧ (∀ w : Nat, w < 2 ^ lN0 P → σ 91 w = b2i (br w)) ∧ σ 92 ((lT P).length : Nat) = k ∧ (∀ i x : Nat, (lT P)[i]? = some x → σ 92 i = (x : Int) + 1) ∧ ∀ i : Nat, i ≤ (lT P).length → σ 93 i = (hiN P i : Nat)
def nxI (f : Nat → Bool) : Nat → Nat → Int
  | 0, _ => -1
  | m + 1, k => if f k = true then (k : Int) else nxI f m (k + 1)
def frS (P : LB) (br : Nat → Bool) (law : Int) (j : Nat) : Bool := !br (wd P (lT P).length ^^^ 2 ^ j) && (decide (law ≠ 2) || decide (hiN P (lT P).length < min (pop (wd P (lT P).length)) (pop (wd P (lT P).length ^^^ 2 ^ j)) + 2))
theorem hiN_8 {P : LB} (hw : wf0 P) : ∀ i, hiN P i ≤ 8 := by
  intro i
  induction i with
  | zero => exact Nat.zero_le _
  | succ i ih =>
    have := rung_8 hw i
    show max _ _ ≤ 8
    omega
theorem rung_push {P : LB} {x i : Nat} (h : i < (lT P).length) : rung (pushL P x) i = rung P i := by
  unfold rung
  rw [wd_push (by omega), wd_push (by omega)]
theorem hiN_push {P : LB} {x : Nat} : ∀ i, i ≤ (lT P).length → hiN (pushL P x) i = hiN P i := by
  intro i
  induction i with
  | zero => intro _; rfl
  | succ i ih =>
    intro h
    show max (hiN (pushL P x) i) (rung (pushL P x) i) = max (hiN P i) (rung P i)
    rw [ih (by omega), rung_push (by omega)]
theorem SR.bar {σ0 σ : HP} {P : LB} {br br' : Nat → Bool} {k w : Nat} {b : Bool} (h : SR σ0 σ P br k) (hw : w < 2 ^ lN0 P) (hb : ∀ v, v < 2 ^ lN0 P → br' v = if v = w then b else br v) {v : Int} (hv : v = b2i b) : SR σ0 (up σ 91 (w : Int) v) P br' k := by
  obtain ⟨hD, h1, h2, h3, h4⟩ := h
  have hF : FS σ0 (up σ 91 (w : Int) v) := hD.fs.upd (by decide) (by decide +kernel) (by omega)
  refine ⟨⟨hF, blr_same hD.bl (by rw [up_n1 _ _ _ _ (by omega)]; exact Int.le_refl _) (fun a j g1 g2 => by rw [up_n1 _ _ _ _ (by omega)]), hD.wf, by rw [up_n1 _ _ _ _ (by omega)]; exact hD.ex⟩, fun u hu => ?_, by rw [up_n1 _ _ _ _ (by omega)]; exact h2, fun i x hx => by rw [up_n1 _ _ _ _ (by omega)]; exact h3 i x hx, fun i hi => by rw [up_n1 _ _ _ _ (by omega)]; exact h4 i hi⟩
  rw [hb u hu]
  by_cases z : u = w
  · rw [if_pos z, z, up_s, hv]
  · rw [if_neg z, up_n2 _ _ _ _ (by omega)]; exact h1 u hu
theorem SR.co {σ0 σ : HP} {P : LB} {br br' : Nat → Bool} {k : Nat} (h : SR σ0 σ P br k) (hb : ∀ v, v < 2 ^ lN0 P → br' v = br v) : SR σ0 σ P br' k := ⟨h.1, fun w hw => by rw [hb w hw]; exact h.2.1 w hw, h.2.2⟩
theorem s115 {d : Nat} (h : 8 ≤ d) {σ0 σ : HP} {P : LB} {br : Nat → Bool} {k : Nat} (hS : SR σ0 σ P br k) {v : Nat} (hv : v < 256) : clR PG0 MX d 115 [vR 90, vR 43, vI v] σ = some (b2i (decide (hiN P (lT P).length < min (pop (wd P (lT P).length)) (pop v) + 2)), σ) := by
  obtain ⟨d, rfl⟩ := ob1 (show 1 ≤ d by omega)
  obtain ⟨hD, h1, h2, h3, h4⟩ := hS
  have hw := hD.wf
  have hb := hD.bl
  have hl := wf_len hw
  obtain ⟨⟨m1, m2, m3, m4, m5, m6, m7, m8, m9⟩, f3, f4, f5, f6, fs, fw⟩ := id hb
  have hy := hD.fs.2
  have y1 := hy.1
  have a1 := y90_m1 hy
  have a2 := y90_2 hy
  have b1 := y93_m1 hy
  have b2 := y93_m2 hy
  have q1 := wd_256 hw (lT P).length
  have g1 := pop_le _ q1
  have g2 := pop_le _ hv
  have g3 := hiN_8 hw (lT P).length
  have e4 := h4 (lT P).length (Nat.le_refl _)
  rw [ce_115, sg_115_0]
  repeat (first | ((with_reducible refine step_t ?_ ?_); with_reducible exact True.intro) | ((with_reducible refine step_t ?_ ?_); omega) | ((with_reducible refine step_f ?_ ?_); omega))
  refine step_c (s112 (by omega) hb hw) ?_
  try dsimp only
  refine step_c (s50 (by omega) σ q1) ?_
  try dsimp only
  refine step_c (s50 (by omega) σ hv) ?_
  try dsimp only
  refine step_c (p_min (by omega) σ _ _) ?_
  try dsimp only
  rw [sg_115_15]
  by_cases z : pop v < pop (wd P (lT P).length)
  · (try simp (disch := omega) only [f6, a2, e4, wr_id2])
    rw [if_pos (by omega), Nat.min_eq_right (by omega)]
    (try simp (disch := omega) only [wr_id2])
    repeat (first | ((with_reducible refine step_t ?_ ?_); with_reducible exact True.intro) | ((with_reducible refine step_t ?_ ?_); omega) | ((with_reducible refine step_f ?_ ?_); omega))
    refine step_i (fun g => ?_) (fun g => ?_)
    · rw [decide_eq_false (by omega)]; rfl
    · rw [decide_eq_true (by omega)]; rfl
  · (try simp (disch := omega) only [f6, a2, e4, wr_id2])
    rw [if_neg (by omega), Nat.min_eq_left (by omega)]
    (try simp (disch := omega) only [wr_id2])
    repeat (first | ((with_reducible refine step_t ?_ ?_); with_reducible exact True.intro) | ((with_reducible refine step_t ?_ ?_); omega) | ((with_reducible refine step_f ?_ ?_); omega))
    refine step_i (fun g => ?_) (fun g => ?_)
    · rw [decide_eq_false (by omega)]; rfl
    · rw [decide_eq_true (by omega)]; rfl
theorem s114l {d : Nat} (h : 8 ≤ d) {σ0 σ : HP} {P : LB} {br : Nat → Bool} {k0 : Nat} (hS : SR σ0 σ P br k0) {law : Int} (hlaw : 0 ≤ law ∧ law ≤ 3) : ∀ (m k : Nat) (u5 : MV), k + m = lN0 P → rsP PG0 MX d 114 16 [vR 90, vR 43, vI law, vI (wd P (lT P).length : Nat), vI k, u5] [] σ = some (nxI (frS P br law) m k, σ) := by
  have hD := hS.1
  have hw := hD.wf
  have hb := hD.bl
  have h9 := hw.1
  have hp8 := pow8 hw.1
  obtain ⟨⟨m1, m2, m3, m4, m5, m6, m7, m8, m9⟩, f3, f4, f5, f6, fs, fw⟩ := id hb
  have hy := hD.fs.2
  have y1 := hy.1
  have a1 := y90_m1 hy
  have a2 := y90_0 hy
  have b1 := y91_m1 hy
  have b2 := y91_m2 hy
  have q1 := wd_lt hw (lT P).length
  intro m
  induction m with
  | zero =>
    intro k u5 hk
    rw [sg_114_16]
    (try simp (disch := omega) only [f3, wr_id2])
    repeat (first | ((with_reducible refine step_t ?_ ?_); with_reducible exact True.intro) | ((with_reducible refine step_t ?_ ?_); omega) | ((with_reducible refine step_f ?_ ?_); omega))
    rfl
  | succ m ih =>
    intro k u5 hk
    have hk2 : 2 ^ k < 2 ^ lN0 P := Nat.pow_lt_pow_right (by omega) (by omega)
    have vb : wd P (lT P).length ^^^ 2 ^ k < 2 ^ lN0 P := Nat.xor_lt_two_pow q1 hk2
    have ex : i_xor ((wd P (lT P).length : Nat) : Int) (i_shl 1 (k : Int)) = ((wd P (lT P).length ^^^ 2 ^ k : Nat) : Int) := by rw [shl1 (by omega)]; exact i_xor_n (by omega) (by omega)
    have e91 := hS.2.1 (wd P (lT P).length ^^^ 2 ^ k) vb
    have e115 := s115 (d := d) h hS (v := wd P (lT P).length ^^^ 2 ^ k) (by omega)
    show _ = some (if frS P br law k = true then (k : Int) else nxI (frS P br law) m (k + 1), σ)
    have ih := ih (k + 1) vU (by omega)
    have ef : frS P br law k = (!br (wd P (lT P).length ^^^ 2 ^ k) && (decide (law ≠ 2) || decide (hiN P (lT P).length < min (pop (wd P (lT P).length)) (pop (wd P (lT P).length ^^^ 2 ^ k)) + 2))) := rfl
    rw [sg_114_16, ex, ef]
    clear ef
    generalize hv : wd P (lT P).length ^^^ 2 ^ k = v at *
    cases zb : br v with
    | true =>
      rw [zb] at e91
      have e91 : σ 91 (v : Int) = 1 := e91
      rw [Bool.not_true, Bool.false_and, if_neg (by decide)]
      (try simp (disch := omega) only [f3, a2, e91, wr_id2])
      repeat (first | ((with_reducible refine step_t ?_ ?_); with_reducible exact True.intro) | ((with_reducible refine step_t ?_ ?_); omega) | ((with_reducible refine step_f ?_ ?_); omega))
      exact ih
    | false =>
      rw [zb] at e91
      have e91 : σ 91 (v : Int) = 0 := e91
      rw [Bool.not_false, Bool.true_and]
      by_cases zl : law = 2
      · rw [decide_eq_false (fun q => q zl), Bool.false_or]
        (try simp (disch := omega) only [f3, a2, e91, wr_id2])
        repeat (first | ((with_reducible refine step_t ?_ ?_); with_reducible exact True.intro) | ((with_reducible refine step_t ?_ ?_); omega) | ((with_reducible refine step_f ?_ ?_); omega))
        refine step_c (e115) ?_
        try dsimp only
        rw [wr_b2i]
        by_cases z : hiN P (lT P).length < min (pop (wd P (lT P).length)) (pop v) + 2
        · rw [decide_eq_true z, if_pos rfl]
          refine step_f (show ¬ (b2i true = 0) by decide) ?_
          rfl
        · rw [decide_eq_false z, if_neg (by decide)]
          refine step_t (show b2i false = 0 by decide) ?_
          exact ih
      · rw [decide_eq_true zl, Bool.true_or, if_pos rfl]
        (try simp (disch := omega) only [f3, a2, e91, wr_id2])
        repeat (first | ((with_reducible refine step_t ?_ ?_); with_reducible exact True.intro) | ((with_reducible refine step_t ?_ ?_); omega) | ((with_reducible refine step_f ?_ ?_); omega))
        rfl
theorem s114 {d : Nat} (h : 9 ≤ d) {σ0 σ : HP} {P : LB} {br : Nat → Bool} {k : Nat} (hS : SR σ0 σ P br k) (hk : k ≤ lN0 P) {law : Int} (hlaw : 0 ≤ law ∧ law ≤ 3) : clR PG0 MX d 114 [vR 90, vR 43, vI law] σ = some (nxI (frS P br law) (lN0 P - k) k, σ) := by
  obtain ⟨d, rfl⟩ := ob1 (show 1 ≤ d by omega)
  have hD := hS.1
  have hw := hD.wf
  have hb := hD.bl
  have hl := wf_len hw
  obtain ⟨⟨m1, m2, m3, m4, m5, m6, m7, m8, m9⟩, f3, f4, f5, f6, fs, fw⟩ := id hb
  have hy := hD.fs.2
  have y1 := hy.1
  have a1 := y90_m1 hy
  have a2 := y90_1 hy
  have b1 := y92_m1 hy
  have b2 := y92_m2 hy
  have e92 := hS.2.2.1
  rw [ce_114, sg_114_0]
  repeat (first | ((with_reducible refine step_t ?_ ?_); with_reducible exact True.intro) | ((with_reducible refine step_t ?_ ?_); omega) | ((with_reducible refine step_f ?_ ?_); omega))
  refine step_c (s112 (by omega) hb hw) ?_
  try dsimp only
  (try simp (disch := omega) only [f6, a2, e92, wr_id2])
  repeat (first | ((with_reducible refine step_t ?_ ?_); with_reducible exact True.intro) | ((with_reducible refine step_t ?_ ?_); omega) | ((with_reducible refine step_f ?_ ?_); omega))
  exact s114l (d := d) (by omega) hS hlaw (lN0 P - k) k vU (by omega)
theorem nxI_n {f : Nat → Bool} : ∀ (m k : Nat), (∀ j, k ≤ j → j < k + m → f j = false) → nxI f m k = -1 := by
  intro m
  induction m with
  | zero => intro k _; rfl
  | succ m ih =>
    intro k h
    show (if f k = true then (k : Int) else nxI f m (k + 1)) = -1
    rw [h k (by omega) (by omega), if_neg (by decide)]
    exact ih (k + 1) (fun j h1 h2 => h j (by omega) (by omega))
/-- takeStep -/
theorem s116 {d : Nat} (h : 9 ≤ d) {σ0 σ : HP} {P : LB} {br : Nat → Bool} {k j : Nat} (hS : SR σ0 σ P br k) (hj : j < lN0 P) (hl : (lT P).length < 256) : ∃ σ', clR PG0 MX d 116 [vR 90, vR 43, vI j] σ = some (0, σ') ∧ SR σ0 σ' (pushL P j) br 0 := by
  obtain ⟨d, rfl⟩ := ob1 (show 1 ≤ d by omega)
  obtain ⟨hD, h1, h2, h3, h4⟩ := hS
  have hw := hD.wf
  have hb := hD.bl
  have h9 := hw.1
  have hp8 := pow8 hw.1
  obtain ⟨⟨m1, m2, m3, m4, m5, m6, m7, m8, m9⟩, f3, f4, f5, f6, fs, fw⟩ := id hb
  have hy := hD.fs.2
  have y1 := hy.1
  have a1 := y90_m1 hy
  have a2 := y90_1 hy
  have b1 := y92_m1 hy
  have b2 := y92_m2 hy
  have hF1 : FS σ0 (up σ 92 ((lT P).length : Nat) ((j : Int) + 1)) := hD.fs.upd (by decide) (by decide +kernel) (by omega)
  have D1 : DW σ0 (up σ 92 ((lT P).length : Nat) ((j : Int) + 1)) P := ⟨hF1, blr_same hD.bl (by rw [up_n1 _ _ _ _ (by omega)]; exact Int.le_refl _) (fun a j g1 g2 => by rw [up_n1 _ _ _ _ (by omega)]), hD.wf, by rw [up_n1 _ _ _ _ (by omega)]; exact hD.ex⟩
  obtain ⟨σ1, k1, k2, k3, k4⟩ := s31 (d := d) (by omega) D1.bl D1.wf hj hl
  have D2 : DW σ0 σ1 (pushL P j) := ⟨hF1.ag3 k2 k3.1, k3, wf_push hw hj hl, by rw [k4]; exact D1.ex⟩
  have hy2 := D2.fs.2
  have y12 := hy2.1
  have a12 := y90_m1 hy2
  have a22 := y90_1 hy2
  have a32 := y90_2 hy2
  have b12 := y92_m1 hy2
  have b22 := y92_m2 hy2
  have c12 := y93_m1 hy2
  have c22 := y93_m2 hy2
  have hF3 : FS σ0 (up σ1 92 (((lT P).length : Nat) + 1) 0) := D2.fs.upd (by decide) (by decide +kernel) (by omega)
  have hb3 : blr (up σ1 92 (((lT P).length : Nat) + 1) 0) 43 (pushL P j) := blr_same D2.bl (by rw [up_n1 _ _ _ _ (by omega)]; exact Int.le_refl _) (fun a j g1 g2 => by rw [up_n1 _ _ _ _ (by omega)])
  have len2 : (lT (pushL P j)).length = (lT P).length + 1 := by show (lT P ++ [j]).length = _; rw [List.length_append]; rfl
  have e56 := s56 (d := d) (by omega) hb3 D2.wf (i := (lT P).length) (by omega)
  have r8 := rung_8 D2.wf (lT P).length
  have g8 := hiN_8 hw (lT P).length
  have e93 : σ1 93 ((lT P).length : Nat) = (hiN P (lT P).length : Nat) := by
    rw [k2 _ _ (by omega), up_n1 _ _ _ _ (by omega)]; exact h4 _ (Nat.le_refl _)
  have ebs : ∀ u, σ1 91 u = σ 91 u := fun u => by rw [k2 _ _ (by omega), up_n1 _ _ _ _ (by omega)]
  have m43 := m3
  have m43' := (D2.bl).1.2.2.1
  have hmx : (if ((hiN P (lT P).length : Nat) : Int) < ((rung (pushL P j) (lT P).length : Nat) : Int) then ((rung (pushL P j) (lT P).length : Nat) : Int) else ((hiN P (lT P).length : Nat) : Int)) = (hiN (pushL P j) ((lT P).length + 1) : Nat) := by
    show _ = ((max (hiN (pushL P j) (lT P).length) (rung (pushL P j) (lT P).length) : Nat) : Int)
    rw [hiN_push _ (Nat.le_refl _)]
    by_cases z : hiN P (lT P).length < rung (pushL P j) (lT P).length
    · rw [if_pos (by omega), Nat.max_eq_right (by omega)]
    · rw [if_neg (by omega), Nat.max_eq_left (by omega)]
  have hF4 : FS σ0 (up (up σ1 92 (((lT P).length : Nat) + 1) 0) 93 (((lT P).length : Nat) + 1) (hiN (pushL P j) ((lT P).length + 1) : Nat)) := hF3.upd (by decide) (by decide +kernel) (by omega)
  refine ⟨up (up σ1 92 (((lT P).length : Nat) + 1) 0) 93 (((lT P).length : Nat) + 1) (hiN (pushL P j) ((lT P).length + 1) : Nat), ?_, ⟨hF4, ?_, D2.wf, ?_⟩, fun w hw2 => ?_, ?_, fun i x hx => ?_, fun i hi => ?_⟩
  · rw [ce_116, sg_116_0]
    (try simp (disch := omega) only [f6, a2, wr_id2])
    repeat (first | ((with_reducible refine step_t ?_ ?_); with_reducible exact True.intro) | ((with_reducible refine step_t ?_ ?_); omega) | ((with_reducible refine step_f ?_ ?_); omega))
    (try simp (disch := omega) only [up_n1, wr_id2])
    repeat (first | ((with_reducible refine step_t ?_ ?_); with_reducible exact True.intro) | ((with_reducible refine step_t ?_ ?_); omega) | ((with_reducible refine step_f ?_ ?_); omega))
    refine step_c (k1) ?_
    try dsimp only
    (try simp (disch := omega) only [a22, wr_id2])
    repeat (first | ((with_reducible refine step_t ?_ ?_); with_reducible exact True.intro) | ((with_reducible refine step_t ?_ ?_); omega) | ((with_reducible refine step_f ?_ ?_); omega))
    (try simp (disch := omega) only [up_n1, a32, wr_id2])
    repeat (first | ((with_reducible refine step_t ?_ ?_); with_reducible exact True.intro) | ((with_reducible refine step_t ?_ ?_); omega) | ((with_reducible refine step_f ?_ ?_); omega))
    refine step_c (e56) ?_
    try dsimp only
    refine step_c (p_max (by omega) _ _ _) ?_
    try dsimp only
    (try simp (disch := omega) only [up_n1, a32, e93, wr_id2])
    rw [hmx]
    repeat (first | ((with_reducible refine step_t ?_ ?_); with_reducible exact True.intro) | ((with_reducible refine step_t ?_ ?_); omega) | ((with_reducible refine step_f ?_ ?_); omega))
    rfl
  · exact blr_same hb3 (by rw [up_n1 _ _ _ _ (by omega)]; exact Int.le_refl _) (fun a j g1 g2 => by rw [up_n1 _ _ _ _ (by omega)])
  · rw [up_n1 _ _ _ _ (by omega), up_n1 _ _ _ _ (by omega)]; exact D2.ex
  · rw [up_n1 _ _ _ _ (by omega), up_n1 _ _ _ _ (by omega), ebs]; exact h1 w hw2
  · rw [len2, up_n1 _ _ _ _ (by omega), show (((lT P).length + 1 : Nat) : Int) = ((lT P).length : Nat) + 1 from rfl, up_s]; rfl
  · have hx : (lT P ++ [j])[i]? = some x := hx
    rw [up_n1 _ _ _ _ (by omega)]
    by_cases z : i < (lT P).length
    · rw [List.getElem?_append_left z] at hx
      rw [up_n2 _ _ _ _ (by omega), k2 _ _ (by omega), up_n2 _ _ _ _ (by omega)]
      exact h3 i x hx
    · have hi : i < (lT P ++ [j]).length := by
        by_cases q : i < (lT P ++ [j]).length
        · exact q
        · rw [List.getElem?_eq_none (by omega)] at hx; cases hx
      rw [List.length_append] at hi
      have hi : i < (lT P).length + 1 := hi
      have ei : i = (lT P).length := by omega
      rw [ei] at hx ⊢
      rw [List.getElem?_append_right (Nat.le_refl _), Nat.sub_self] at hx
      have hx : some j = some x := hx
      rw [up_n2 _ _ _ _ (by omega), k2 _ _ (by omega), up_s, Option.some.inj hx]
  · rw [len2] at hi
    by_cases z : i = (lT P).length + 1
    · rw [z, show (((lT P).length + 1 : Nat) : Int) = ((lT P).length : Nat) + 1 from rfl, up_s]
    · rw [up_n2 _ _ _ _ (by omega), up_n1 _ _ _ _ (by omega), k2 _ _ (by omega), up_n1 _ _ _ _ (by omega), hiN_push i (by omega)]
      exact h4 i (by omega)
/-- pop -/
theorem s113r {d : Nat} (h : 1 ≤ d) {σ0 σ : HP} {P : LB} {br : Nat → Bool} {k x : Nat} (hS : SR σ0 σ (pushL P x) br k) : ∃ σ', clR PG0 MX d 113 [vR 43] σ = some (0, σ') ∧ SR σ0 σ' P br (x + 1) := by
  obtain ⟨hD, h1, h2, h3, h4⟩ := hS
  obtain ⟨σ', k1, k2, k3, k4⟩ := s113 (d := d) h hD.bl hD.wf
  have eP : popL (pushL P x) = P := by
    show (lN0 P, lA P, lB P, lS P, (lT P ++ [x]).dropLast) = P
    rw [List.dropLast_concat]
  rw [eP] at k3
  obtain ⟨w1, w2, w3, w4, w5, w6⟩ := hD.wf
  have w5 : (lT P ++ [x]).length ≤ 256 := w5
  rw [List.length_append] at w5
  have hwP : wf0 P := ⟨w1, w2, w3, w4, by omega, fun b hb => w6 b (List.mem_append_left _ hb)⟩
  refine ⟨σ', k1, ⟨hD.fs.ag3 k2 k3.1, k3, hwP, by rw [k4]; exact hD.ex⟩, fun w hw => ?_, ?_, fun i y hy => ?_, fun i hi => ?_⟩
  · rw [k2 _ _ (by omega)]; exact h1 w hw
  · rw [k2 _ _ (by omega)]
    exact h3 (lT P).length x (by show (lT P ++ [x])[(lT P).length]? = _; rw [List.getElem?_append_right (Nat.le_refl _), Nat.sub_self]; rfl)
  · rw [k2 _ _ (by omega)]
    have hi : i < (lT P).length := by
      by_cases q : i < (lT P).length
      · exact q
      · rw [List.getElem?_eq_none (by omega)] at hy; cases hy
    exact h3 i y (by show (lT P ++ [x])[i]? = _; rw [List.getElem?_append_left hi]; exact hy)
  · rw [k2 _ _ (by omega), h4 i (by show i ≤ (lT P ++ [x]).length; rw [List.length_append]; omega), hiN_push i hi]
