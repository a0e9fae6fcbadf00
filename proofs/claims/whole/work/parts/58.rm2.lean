/-! THE REFERENCE: lists are made -/
def FD (σ σ' : HP) : Prop := (∀ a j, a ≠ 105 → (a ≠ 101 ∨ j ≠ 5) → σ' a j = σ a j) ∧ Lay σ'
theorem FD.rf {σ : HP} (h : Lay σ) : FD σ σ := ⟨fun _ _ _ _ => rfl, h⟩
theorem FD.fq {σ σ' : HP} (h : FD σ σ') : FQ σ σ' := ⟨fun a j q => h.1 a j (by omega) (by omega), h.2⟩
theorem FD.slr {σ σ' : HP} {n : Nat} {L : LB} (h : FD σ σ') (hr : slR σ n L) : slR σ' n L := h.fq.slr hr
theorem FD.wdr {σ σ' : HP} {L : LB} (h : FD σ σ') (hr : wdR σ L) : wdR σ' L := by
  obtain ⟨q1, q2, q3, q4⟩ := hr
  exact ⟨fun i hi => by rw [h.1 _ _ (by omega) (by omega)]; exact q1 i hi, fun w hw => by rw [h.1 _ _ (by omega) (by omega)]; exact q2 w hw, by rw [h.1 _ _ (by omega) (by omega)]; exact q3, by rw [h.1 _ _ (by omega) (by omega)]; exact q4⟩
def DM (σ0 σ : HP) (l : List Nat) : Prop := FD σ0 σ ∧ mdR σ l
theorem dm_0 {σ : HP} (hy : Lay σ) : DM σ (up σ 101 5 0) [] := by
  refine ⟨⟨fun a j h1 h2 => ?_, hy.upf okf_5 (by omega)⟩, up_s _ _ _ _, by show 0 ≤ 600; omega, fun i x hx => by simp at hx⟩
  rcases h2 with h2 | h2
  · rw [up_n1 _ _ _ _ h2]
  · rw [up_n2 _ _ _ _ h2]
/-- lies -/
theorem dm_push {d : Nat} (h : 1 ≤ d) {σ0 σ : HP} {l : List Nat} (hD : DM σ0 σ l) (hl : l.length < 600) (x : Nat) : ∃ σ', clR PG0 MX d 196 [vR 101, vI x] σ = some (0, σ') ∧ DM σ0 σ' (l ++ [x]) := by
  obtain ⟨d, rfl⟩ := ob1 (show 1 ≤ d by omega)
  obtain ⟨⟨f1, hy⟩, m1, m2, m3⟩ := hD
  have y1 := hy.1; have k101 := y101_m1 hy; have p105 := y101_4 hy; have k105 := y105_m1 hy; have l105 := y105_m2 hy
  have hy1 : Lay (up σ 105 (l.length : Nat) x) := hy.upd okr_105 (by omega) (by omega)
  have hy2 : Lay (up (up σ 105 (l.length : Nat) x) 101 5 ((l.length : Nat) + 1)) := hy1.upf okf_5 (by omega)
  have y1b := hy1.1; have k101b := y101_m1 hy1
  refine ⟨up (up σ 105 (l.length : Nat) x) 101 5 ((l.length : Nat) + 1), ?_, ⟨fun a j h1 h2 => ?_, hy2⟩, ?_, by rw [List.length_append]; show l.length + 1 ≤ 600; omega, fun i y hy3 => ?_⟩
  · have e5 : (up σ 105 (l.length : Nat) (x : Int)) 101 5 = (l.length : Nat) := by rw [up_n1 _ _ _ _ (by omega)]; exact m1
    rw [ce_196, sg_196_0]
    (try simp (disch := omega) only [p105, m1, e5, wr_id2])
    repeat (first | ((with_reducible refine step_t ?_ ?_); with_reducible exact True.intro) | ((with_reducible refine step_t ?_ ?_); omega) | ((with_reducible refine step_f ?_ ?_); omega))
    rfl
  · rcases h2 with h2 | h2
    · rw [up_n1 _ _ _ _ h2, up_n1 _ _ _ _ h1]; exact f1 a j h1 (Or.inl h2)
    · rw [up_n2 _ _ _ _ h2, up_n1 _ _ _ _ h1]; exact f1 a j h1 (Or.inr h2)
  · rw [up_s, List.length_append]; rfl
  · rw [up_n1 _ _ _ _ (by omega)]
    by_cases z : i < l.length
    · rw [List.getElem?_append_left z] at hy3
      rw [up_n2 _ _ _ _ (by omega)]
      exact m3 i y hy3
    · by_cases z2 : i = l.length
      · subst z2
        rw [List.getElem?_append_right (by omega), Nat.sub_self] at hy3
        have hy3 : some x = some y := hy3
        cases hy3
        rw [up_s]
      · rw [List.getElem?_eq_none (by rw [List.length_append]; show l.length + 1 ≤ i; omega)] at hy3
        cases hy3
/-- addsOn -/
theorem dm_onl {d : Nat} (h : 1 ≤ d) {σ0 : HP} {n : Nat} (hn : n < 3) {L : LB} (hr0 : slR σ0 n L) (hw : wf0 L) {j : Nat} (hj : j ≤ (lT L).length) : ∀ (m i : Nat) (σ : HP) (l : List Nat) (u : MV), i + m = j → DM σ0 σ l → l.length + m ≤ 600 → ∃ σ', rsP PG0 MX d 254 3 [vR 101, vI n, u, vI j, vI i] [] σ = some (0, σ') ∧ DM σ0 σ' (l ++ slc L i m) := by
  have hl := wf_len hw
  intro m
  induction m with
  | zero =>
    intro i σ l u hi hD hlen
    refine ⟨σ, ?_, by rw [slc_0, List.append_nil]; exact hD⟩
    rw [sg_254_3]
    (try simp (disch := omega) only [wr_id2])
    repeat (first | ((with_reducible refine step_t ?_ ?_); with_reducible exact True.intro) | ((with_reducible refine step_t ?_ ?_); omega) | ((with_reducible refine step_f ?_ ?_); omega))
    rfl
  | succ m ih =>
    intro i σ l u hi hD hlen
    have hy := hD.1.2
    have y1 := hy.1; have k101 := y101_m1 hy
    obtain ⟨x, hx⟩ := st_get (L := L) (i := i) (by omega)
    have e205 := s205 (d := d) h hy hn (hD.1.slr hr0) hw hx
    obtain ⟨σ1, k1, D1⟩ := dm_push (d := d) h hD (by omega) x
    obtain ⟨σ2, j1, D2⟩ := ih (i + 1) σ1 (l ++ [x]) vU (by omega) D1 (by rw [List.length_append]; show l.length + 1 + m ≤ 600; omega)
    refine ⟨σ2, ?_, by rw [slc_cons hx, List.append_cons]; exact D2⟩
    rw [sg_254_3]
    (try simp (disch := omega) only [wr_id2])
    repeat (first | ((with_reducible refine step_t ?_ ?_); with_reducible exact True.intro) | ((with_reducible refine step_t ?_ ?_); omega) | ((with_reducible refine step_f ?_ ?_); omega))
    refine step_c (e205) ?_
    try dsimp only
    repeat (first | ((with_reducible refine step_t ?_ ?_); with_reducible exact True.intro) | ((with_reducible refine step_t ?_ ?_); omega) | ((with_reducible refine step_f ?_ ?_); omega))
    refine step_c (k1) ?_
    try dsimp only
    exact j1
theorem dm_on {d : Nat} (h : 2 ≤ d) {σ0 σ : HP} {n : Nat} (hn : n < 3) {L : LB} (hr0 : slR σ0 n L) (hw : wf0 L) {i j : Nat} (hij : i ≤ j) (hj : j ≤ (lT L).length) {l : List Nat} (hD : DM σ0 σ l) (hl : l.length + (j - i) ≤ 600) : ∃ σ', clR PG0 MX d 254 [vR 101, vI n, vI i, vI j] σ = some (0, σ') ∧ DM σ0 σ' (l ++ slc L i (j - i)) := by
  obtain ⟨d, rfl⟩ := ob1 (show 1 ≤ d by omega)
  obtain ⟨σ', k1, k2⟩ := dm_onl (d := d) (by omega) hn hr0 hw hj (j - i) i σ l (vI i) (by omega) hD hl
  refine ⟨σ', ?_, k2⟩
  rw [ce_254, sg_254_0]
  exact k1
/-- addsBack -/
theorem slc_snoc {L : LB} {i n x : Nat} (h : (lT L)[i + n]? = some x) : slc L i (n + 1) = slc L i n ++ [x] := by
  unfold slc
  have e : ((lT L).drop i)[n]? = some x := by rw [List.getElem?_drop]; exact h
  have hn : n < ((lT L).drop i).length := (List.getElem?_eq_some_iff.mp e).1
  rw [List.take_succ, e]
  rfl
theorem dm_bkl {d : Nat} (h : 1 ≤ d) {σ0 : HP} {n : Nat} (hn : n < 3) {L : LB} (hr0 : slR σ0 n L) (hw : wf0 L) {i : Nat} : ∀ (m : Nat) (σ : HP) (l : List Nat) (u : MV), i + m ≤ (lT L).length → DM σ0 σ l → l.length + m ≤ 600 → ∃ σ', rsP PG0 MX d 255 5 [vR 101, vI n, vI i, u, vI ((i : Int) + m - 1)] [] σ = some (0, σ') ∧ DM σ0 σ' (l ++ (slc L i m).reverse) := by
  have hl := wf_len hw
  intro m
  induction m with
  | zero =>
    intro σ l u hi hD hlen
    refine ⟨σ, ?_, by rw [slc_0, List.reverse_nil, List.append_nil]; exact hD⟩
    rw [sg_255_5]
    (try simp (disch := omega) only [wr_id2])
    repeat (first | ((with_reducible refine step_t ?_ ?_); with_reducible exact True.intro) | ((with_reducible refine step_t ?_ ?_); omega) | ((with_reducible refine step_f ?_ ?_); omega))
    rfl
  | succ m ih =>
    intro σ l u hi hD hlen
    have hy := hD.1.2
    have y1 := hy.1; have k101 := y101_m1 hy
    obtain ⟨x, hx⟩ := st_get (L := L) (i := i + m) (by omega)
    have e205 := s205 (d := d) h hy hn (hD.1.slr hr0) hw hx
    obtain ⟨σ1, k1, D1⟩ := dm_push (d := d) h hD (by omega) x
    obtain ⟨σ2, j1, D2⟩ := ih σ1 (l ++ [x]) vU (by omega) D1 (by rw [List.length_append]; show l.length + 1 + m ≤ 600; omega)
    rw [show ((i + m : Nat) : Int) = (i : Int) + ((m + 1 : Nat) : Int) - 1 by omega] at e205
    rw [show (i : Int) + (m : Int) - 1 = (i : Int) + ((m + 1 : Nat) : Int) - 1 + (-1) by omega] at j1
    refine ⟨σ2, ?_, by rw [slc_snoc hx, List.reverse_append, List.reverse_singleton, ← List.append_assoc]; exact D2⟩
    rw [sg_255_5]
    (try simp (disch := omega) only [wr_id2])
    repeat (first | ((with_reducible refine step_t ?_ ?_); with_reducible exact True.intro) | ((with_reducible refine step_t ?_ ?_); omega) | ((with_reducible refine step_f ?_ ?_); omega))
    refine step_c (e205) ?_
    try dsimp only
    repeat (first | ((with_reducible refine step_t ?_ ?_); with_reducible exact True.intro) | ((with_reducible refine step_t ?_ ?_); omega) | ((with_reducible refine step_f ?_ ?_); omega))
    refine step_c (k1) ?_
    try dsimp only
    exact j1
theorem dm_bk {d : Nat} (h : 2 ≤ d) {σ0 σ : HP} {n : Nat} (hn : n < 3) {L : LB} (hr0 : slR σ0 n L) (hw : wf0 L) {i j : Nat} (hij : i ≤ j) (hj : j ≤ (lT L).length) {l : List Nat} (hD : DM σ0 σ l) (hl : l.length + (j - i) ≤ 600) : ∃ σ', clR PG0 MX d 255 [vR 101, vI n, vI i, vI j] σ = some (0, σ') ∧ DM σ0 σ' (l ++ (slc L i (j - i)).reverse) := by
  obtain ⟨d, rfl⟩ := ob1 (show 1 ≤ d by omega)
  obtain ⟨σ', k1, k2⟩ := dm_bkl (d := d) (by omega) hn hr0 hw (i := i) (j - i) σ l (vI j) (by omega) hD hl
  rw [show (i : Int) + ((j - i : Nat) : Int) - 1 = (j : Int) - 1 by omega] at k1
  refine ⟨σ', ?_, k2⟩
  rw [ce_255, sg_255_0]
  exact k1
/-- laysMade -/
theorem dm_lml {d : Nat} (h : 2 ≤ d) {σ0 : HP} {n : Nat} (hn : n < 3) {L : LB} (hr0 : slR σ0 n L) (hw : wf0 L) : ∀ (m i : Nat) (σ : HP) (l : List Nat), i + m = (lT L).length → DM σ0 σ l → l.length + m ≤ 600 → ∃ σ', rsP PG0 MX d 273 7 [vR 101, vI n, vI i] [] σ = some (0, σ') ∧ DM σ0 σ' (l ++ slc L i m) := by
  have hl := wf_len hw
  intro m
  induction m with
  | zero =>
    intro i σ l hi hD hlen
    have hy := hD.1.2
    have y1 := hy.1; have k101 := y101_m1 hy
    refine ⟨σ, ?_, by rw [slc_0, List.append_nil]; exact hD⟩
    rw [sg_273_7]
    repeat (first | ((with_reducible refine step_t ?_ ?_); with_reducible exact True.intro) | ((with_reducible refine step_t ?_ ?_); omega) | ((with_reducible refine step_f ?_ ?_); omega))
    refine step_c (s204 (by omega) hy hn (hD.1.slr hr0)) ?_
    try dsimp only
    (try simp (disch := omega) only [wr_id2])
    repeat (first | ((with_reducible refine step_t ?_ ?_); with_reducible exact True.intro) | ((with_reducible refine step_t ?_ ?_); omega) | ((with_reducible refine step_f ?_ ?_); omega))
    rfl
  | succ m ih =>
    intro i σ l hi hD hlen
    have hy := hD.1.2
    have y1 := hy.1; have k101 := y101_m1 hy
    obtain ⟨x, hx⟩ := st_get (L := L) (i := i) (by omega)
    have e205 := s205 (d := d) (by omega) hy hn (hD.1.slr hr0) hw hx
    obtain ⟨σ1, k1, D1⟩ := dm_push (d := d) (by omega) hD (by omega) x
    obtain ⟨σ2, j1, D2⟩ := ih (i + 1) σ1 (l ++ [x]) (by omega) D1 (by rw [List.length_append]; show l.length + 1 + m ≤ 600; omega)
    refine ⟨σ2, ?_, by rw [slc_cons hx, List.append_cons]; exact D2⟩
    rw [sg_273_7]
    repeat (first | ((with_reducible refine step_t ?_ ?_); with_reducible exact True.intro) | ((with_reducible refine step_t ?_ ?_); omega) | ((with_reducible refine step_f ?_ ?_); omega))
    refine step_c (s204 (by omega) hy hn (hD.1.slr hr0)) ?_
    try dsimp only
    (try simp (disch := omega) only [wr_id2])
    repeat (first | ((with_reducible refine step_t ?_ ?_); with_reducible exact True.intro) | ((with_reducible refine step_t ?_ ?_); omega) | ((with_reducible refine step_f ?_ ?_); omega))
    refine step_c (e205) ?_
    try dsimp only
    repeat (first | ((with_reducible refine step_t ?_ ?_); with_reducible exact True.intro) | ((with_reducible refine step_t ?_ ?_); omega) | ((with_reducible refine step_f ?_ ?_); omega))
    refine step_c (k1) ?_
    try dsimp only
    exact j1
theorem s273 {d : Nat} (h : 3 ≤ d) {σ : HP} (hy : Lay σ) {n : Nat} (hn : n < 3) {L : LB} (hr : slR σ n L) (hw : wf0 L) : ∃ σ', clR PG0 MX d 273 [vR 101, vI n] σ = some (0, σ') ∧ DM σ σ' (lT L) := by
  obtain ⟨d, rfl⟩ := ob1 (show 1 ≤ d by omega)
  have y1 := hy.1; have k101 := y101_m1 hy
  have hl := wf_len hw
  have D0 := dm_0 hy
  obtain ⟨σ', k1, k2⟩ := dm_lml (d := d) (by omega) hn hr hw (lT L).length 0 _ [] (by omega) D0 (by show 0 + _ ≤ 600; omega)
  have e : slc L 0 (lT L).length = lT L := by unfold slc; simp
  rw [List.nil_append, e] at k2
  refine ⟨σ', ?_, k2⟩
  rw [ce_273, sg_273_0]
  repeat (first | ((with_reducible refine step_t ?_ ?_); with_reducible exact True.intro) | ((with_reducible refine step_t ?_ ?_); omega) | ((with_reducible refine step_f ?_ ?_); omega))
  exact k1
theorem tnn (n : Nat) : ((n : Nat) : Int).toNat = n := rfl
/-- starts -/
theorem m272 (S : AS) {s x : Int} (hs : i32 s) (hx : i32 x) : mOp 272 [vI s, vI x] S (aA S s (staF x)) := by
  intro d σ h hy ht hm
  obtain ⟨d, rfl⟩ := ob1 (show 1 ≤ d by omega)
  have y1 := hy.1; have k101 := y101_m1 hy; have p102 := y101_0 hy; have k102 := y102_m1 hy; have l102 := y102_m2 hy; have p107 := y101_15 hy; have k107 := y107_m1 hy; have l107 := y107_m2 hy; have p108 := y101_16 hy; have k108 := y108_m1 hy; have l108 := y108_m2 hy
  unfold aA
  cases e : gl S s with
  | none =>
    refine ⟨σ, ?_, (FM.rf hy).fl, hm⟩
    rw [ce_272, sg_272_0]
    repeat (first | ((with_reducible refine step_t ?_ ?_); with_reducible exact True.intro) | ((with_reducible refine step_t ?_ ?_); omega) | ((with_reducible refine step_f ?_ ?_); omega))
    refine step_c (s221n (by omega) hy hm hs hx e) ?_
    try dsimp only
    (try simp (disch := omega) only [wr_id2])
    repeat (first | ((with_reducible refine step_t ?_ ?_); with_reducible exact True.intro) | ((with_reducible refine step_t ?_ ?_); omega) | ((with_reducible refine step_f ?_ ?_); omega))
    rfl
  | some L =>
    have e180 := s221s (d := d) (by omega) hy hm hs hx e
    obtain ⟨n, rfl, hn, hr, hw, en⟩ := hm.got e
    have hl := wf_len hw.1
    have h9 := hw.1.1
    have h1N := hw.2.1
    have hp8 := pow8 hw.1.1
    have hp0 := Nat.two_pow_pos (lN0 L)
    have hsh := shN_le L
    dsimp only
    unfold staF
    by_cases z : 0 ≤ x ∧ x < (2 ^ lN0 L : Nat)
    · rw [decide_eq_true z] at e180
      rw [if_pos z]
      dsimp only
      rw [tnn]
      obtain ⟨σ1, k1, D1⟩ := s273 (d := d) (by omega) hy hn hr hw.1
      obtain ⟨σ2, j1, j2, j3⟩ := s245 (d := d) (by omega) D1.1.2 (D1.1.fq.mr hm) hn en D1.2 (x := x.toNat) ⟨⟨hw.1.1, hw.1.2.1, hw.1.2.2.1, by show x.toNat < 2 ^ lN0 L; omega, hw.1.2.2.2.2.1, hw.1.2.2.2.2.2⟩, hw.2⟩ (lS L : Nat)
      rw [show ((x.toNat : Nat) : Int) = x by omega] at j1
      have hy1 := D1.1.2
      have y1b := hy1.1; have k101b := y101_m1 hy1
      refine ⟨σ2, ?_, (D1.1.fq.fm.tr j2).fl, j3⟩
      rw [ce_272, sg_272_0]
      repeat (first | ((with_reducible refine step_t ?_ ?_); with_reducible exact True.intro) | ((with_reducible refine step_t ?_ ?_); omega) | ((with_reducible refine step_f ?_ ?_); omega))
      refine step_c (e180) ?_
      try dsimp only
      rw [wr_b2i]
      refine step_t (show b2i true ≠ 0 by decide) ?_
      repeat (first | ((with_reducible refine step_t ?_ ?_); with_reducible exact True.intro) | ((with_reducible refine step_t ?_ ?_); omega) | ((with_reducible refine step_f ?_ ?_); omega))
      refine step_c (s181 (by omega) hy hn (j := 3) (by omega) (by omega)) ?_
      try dsimp only
      rw [hr.2.2.2.1]
      repeat (first | ((with_reducible refine step_t ?_ ?_); with_reducible exact True.intro) | ((with_reducible refine step_t ?_ ?_); omega) | ((with_reducible refine step_f ?_ ?_); omega))
      refine step_c (k1) ?_
      try dsimp only
      repeat (first | ((with_reducible refine step_t ?_ ?_); with_reducible exact True.intro) | ((with_reducible refine step_t ?_ ?_); omega) | ((with_reducible refine step_f ?_ ?_); omega))
      refine step_c (j1) ?_
      try dsimp only
    · rw [decide_eq_false z] at e180
      rw [if_neg z]
      dsimp only
      refine ⟨σ, ?_, (FM.rf hy).fl, hm⟩
      rw [ce_272, sg_272_0]
      repeat (first | ((with_reducible refine step_t ?_ ?_); with_reducible exact True.intro) | ((with_reducible refine step_t ?_ ?_); omega) | ((with_reducible refine step_f ?_ ?_); omega))
      refine step_c (e180) ?_
      try dsimp only
      rw [wr_b2i]
      refine step_f (show ¬ (b2i false ≠ 0) by decide) ?_
      rfl
theorem wf_rev {L : LB} (hw : wfL L) {x : Nat} (hx : x < 2 ^ lN0 L) {l : List Nat} (hl : l.length ≤ 256) (hb : ∀ b ∈ l, b < lN0 L) : wfL (lN0 L, lA L, lB L, x, l) := ⟨⟨hw.1.1, hw.1.2.1, hw.1.2.2.1, hx, hl, hb⟩, hw.2⟩
/-- reverse -/
theorem m275 (S : AS) {s : Int} (hs : i32 s) : mOp 275 [vI s] S (aA S s revF) := by
  intro d σ h hy ht hm
  obtain ⟨d, rfl⟩ := ob1 (show 1 ≤ d by omega)
  have y1 := hy.1; have k101 := y101_m1 hy; have p102 := y101_0 hy; have k102 := y102_m1 hy; have l102 := y102_m2 hy; have p107 := y101_15 hy; have k107 := y107_m1 hy; have l107 := y107_m2 hy; have p108 := y101_16 hy; have k108 := y108_m1 hy; have l108 := y108_m2 hy
  unfold aA
  cases e : gl S s with
  | none =>
    refine ⟨σ, ?_, (FM.rf hy).fl, hm⟩
    rw [ce_275, sg_275_0]
    repeat (first | ((with_reducible refine step_t ?_ ?_); with_reducible exact True.intro) | ((with_reducible refine step_t ?_ ?_); omega) | ((with_reducible refine step_f ?_ ?_); omega))
    refine step_c (s180n (by omega) hy hm hs e) ?_
    try dsimp only
    (try simp (disch := omega) only [wr_id2])
    repeat (first | ((with_reducible refine step_t ?_ ?_); with_reducible exact True.intro) | ((with_reducible refine step_t ?_ ?_); omega) | ((with_reducible refine step_f ?_ ?_); omega))
    rfl
  | some L =>
    have e180 := s180s (d := d) (by omega) hy hm hs e
    obtain ⟨n, rfl, hn, hr, hw, en⟩ := hm.got e
    have hl := wf_len hw.1
    have h9 := hw.1.1
    have h1N := hw.2.1
    have hp8 := pow8 hw.1.1
    have hp0 := Nat.two_pow_pos (lN0 L)
    have hsh := shN_le L
    dsimp only
    unfold revF
    dsimp only
    rw [tnn]
    obtain ⟨σ1, k1, k2, k3, k4⟩ := s203 (d := d) (by omega) hy hn hr hw.1
    have hy1 := k2.2
    have y1b := hy1.1; have k101b := y101_m1 hy1; have p107b := y101_15 hy1; have k107b := y107_m1 hy1; have l107b := y107_m2 hy1
    have D0 := dm_0 hy1
    have hy2 := D0.1.2
    have y1c := hy2.1; have k101c := y101_m1 hy2
    obtain ⟨σ2, j1, D2⟩ := dm_bk (d := d) (by omega) hn k3 hw.1 (i := 0) (j := (lT L).length) (by omega) (by omega) D0 (by show 0 + _ ≤ 600; omega)
    rw [slc_all, List.nil_append] at D2
    have hwd := wd_256 hw.1 (lT L).length
    obtain ⟨σ3, i1, i2, i3⟩ := s245 (d := d) (by omega) D2.1.2 ((k2.tr D2.1.fq).mr hm) hn en D2.2 (x := wd L (lT L).length) (wf_rev hw (wd_lt hw.1 _) (by rw [List.length_reverse]; exact hl) (fun b hb => hw.1.2.2.2.2.2 b (List.mem_reverse.mp hb))) (wd L (lT L).length : Nat)
    have hy3 := D2.1.2
    have y1d := hy3.1; have k101d := y101_m1 hy3
    have e1 := k4.1 (lT L).length (Nat.le_refl _)
    refine ⟨σ3, ?_, ((k2.tr D2.1.fq).fm.tr i2).fl, i3⟩
    rw [ce_275, sg_275_0]
    repeat (first | ((with_reducible refine step_t ?_ ?_); with_reducible exact True.intro) | ((with_reducible refine step_t ?_ ?_); omega) | ((with_reducible refine step_f ?_ ?_); omega))
    refine step_c (e180) ?_
    try dsimp only
    (try simp (disch := omega) only [wr_id2])
    repeat (first | ((with_reducible refine step_t ?_ ?_); with_reducible exact True.intro) | ((with_reducible refine step_t ?_ ?_); omega) | ((with_reducible refine step_f ?_ ?_); omega))
    refine step_c (k1) ?_
    try dsimp only
    (try simp (disch := omega) only [wr_id2])
    repeat (first | ((with_reducible refine step_t ?_ ?_); with_reducible exact True.intro) | ((with_reducible refine step_t ?_ ?_); omega) | ((with_reducible refine step_f ?_ ?_); omega))
    refine step_c (s204 (by omega) hy1 hn k3) ?_
    try dsimp only
    (try simp (disch := omega) only [p107b, e1, wr_id2])
    repeat (first | ((with_reducible refine step_t ?_ ?_); with_reducible exact True.intro) | ((with_reducible refine step_t ?_ ?_); omega) | ((with_reducible refine step_f ?_ ?_); omega))
    refine step_c (s204 (by omega) hy2 hn (D0.1.slr k3)) ?_
    try dsimp only
    repeat (first | ((with_reducible refine step_t ?_ ?_); with_reducible exact True.intro) | ((with_reducible refine step_t ?_ ?_); omega) | ((with_reducible refine step_f ?_ ?_); omega))
    refine step_c (j1) ?_
    try dsimp only
    rw [sg_275_43]
    repeat (first | ((with_reducible refine step_t ?_ ?_); with_reducible exact True.intro) | ((with_reducible refine step_t ?_ ?_); omega) | ((with_reducible refine step_f ?_ ?_); omega))
    refine step_c (i1) ?_
    try dsimp only
/-- rolls -/
theorem m276 (S : AS) {s p : Int} (hs : i32 s) (hx : i32 p) : mOp 276 [vI s, vI p] S (aA S s (rolQ p)) := by
  intro d σ h hy ht hm
  obtain ⟨d, rfl⟩ := ob1 (show 1 ≤ d by omega)
  have y1 := hy.1; have k101 := y101_m1 hy; have p102 := y101_0 hy; have k102 := y102_m1 hy; have l102 := y102_m2 hy; have p107 := y101_15 hy; have k107 := y107_m1 hy; have l107 := y107_m2 hy; have p108 := y101_16 hy; have k108 := y108_m1 hy; have l108 := y108_m2 hy
  unfold aA
  cases e : gl S s with
  | none =>
    refine ⟨σ, ?_, (FM.rf hy).fl, hm⟩
    rw [ce_276, sg_276_0]
    repeat (first | ((with_reducible refine step_t ?_ ?_); with_reducible exact True.intro) | ((with_reducible refine step_t ?_ ?_); omega) | ((with_reducible refine step_f ?_ ?_); omega))
    refine step_c (s180n (by omega) hy hm hs e) ?_
    try dsimp only
    (try simp (disch := omega) only [wr_id2])
    repeat (first | ((with_reducible refine step_t ?_ ?_); with_reducible exact True.intro) | ((with_reducible refine step_t ?_ ?_); omega) | ((with_reducible refine step_f ?_ ?_); omega))
    rfl
  | some L =>
    have e180 := s180s (d := d) (by omega) hy hm hs e
    obtain ⟨n, rfl, hn, hr, hw, en⟩ := hm.got e
    have hl := wf_len hw.1
    have h9 := hw.1.1
    have h1N := hw.2.1
    have hp8 := pow8 hw.1.1
    have hp0 := Nat.two_pow_pos (lN0 L)
    have hsh := shN_le L
    dsimp only
    have x1 := hx.1
    have x2 := hx.2
    have wx := hx.wr
    have e204 := s204 (d := d) (by omega) hy hn hr
    have e1 := s179 (d := d) (by omega) σ hx (y := 0) (z := ((lT L).length : Nat) - 1) ⟨by decide, by decide⟩ ⟨by omega, by omega⟩
    unfold rolQ
    by_cases z : 0 ≤ p ∧ p < (lT L).length
    · rw [decide_eq_true (show 0 ≤ p ∧ p ≤ ((lT L).length : Nat) - 1 by omega)] at e1
      rw [if_pos z]
      obtain ⟨σ1, k1, k2, k3, k4⟩ := s203 (d := d) (by omega) hy hn hr hw.1
      have hy1 := k2.2
      have y1b := hy1.1; have k101b := y101_m1 hy1; have p107b := y101_15 hy1; have k107b := y107_m1 hy1; have l107b := y107_m2 hy1
      have q4 := k4.2.2.2
      cases hlp : lpB L with
      | false =>
        rw [if_neg (by decide)]
        dsimp only
        rw [hlp] at q4
        refine ⟨σ1, ?_, k2.ml, k2.mr hm⟩
        rw [ce_276, sg_276_0]
        repeat (first | ((with_reducible refine step_t ?_ ?_); with_reducible exact True.intro) | ((with_reducible refine step_t ?_ ?_); omega) | ((with_reducible refine step_f ?_ ?_); omega))
        refine step_c (e180) ?_
        try dsimp only
        (try simp (disch := omega) only [wr_id2])
        repeat (first | ((with_reducible refine step_t ?_ ?_); with_reducible exact True.intro) | ((with_reducible refine step_t ?_ ?_); omega) | ((with_reducible refine step_f ?_ ?_); omega))
        refine step_c (e204) ?_
        try dsimp only
        (try simp (disch := omega) only [wx, wr_id2])
        refine step_c (e1) ?_
        try dsimp only
        rw [wr_b2i]
        refine step_t (show b2i true ≠ 0 by decide) ?_
        repeat (first | ((with_reducible refine step_t ?_ ?_); with_reducible exact True.intro) | ((with_reducible refine step_t ?_ ?_); omega) | ((with_reducible refine step_f ?_ ?_); omega))
        refine step_c (k1) ?_
        try dsimp only
        rw [sg_276_33]
        (try simp (disch := omega) only [q4, wr_b2i, wr_id2])
        repeat (first | ((with_reducible refine step_t ?_ ?_); with_reducible exact True.intro) | ((with_reducible refine step_t ?_ ?_); omega) | ((with_reducible refine step_f ?_ ?_); omega))
        refine step_f (show ¬ (b2i false ≠ 0) by decide) ?_
        rfl
      | true =>
        rw [if_pos rfl]
        dsimp only
        rw [tnn]
        rw [hlp] at q4
        have ep : ((p.toNat : Nat) : Int) = p := by omega
        have D0 := dm_0 hy1
        have hy2 := D0.1.2
        have y1c := hy2.1; have k101c := y101_m1 hy2
        obtain ⟨σ2, j1, D2⟩ := dm_on (d := d) (by omega) hn k3 hw.1 (i := p.toNat) (j := (lT L).length) (by omega) (by omega) D0 (by show 0 + _ ≤ 600; omega)
        have hlen : (slc L p.toNat ((lT L).length - p.toNat)).length ≤ (lT L).length - p.toNat := List.length_take_le _ _
        obtain ⟨σ3, i1, D3⟩ := dm_on (d := d) (by omega) hn k3 hw.1 (i := 0) (j := p.toNat) (by omega) (by omega) D2 (by rw [List.nil_append]; omega)
        have f1 : slc L p.toNat ((lT L).length - p.toNat) = (lT L).drop p.toNat := by
          unfold slc
          rw [List.take_of_length_le (by rw [List.length_drop]; omega)]
        have f2 : slc L 0 (p.toNat - 0) = (lT L).take p.toNat := by unfold slc; simp
        rw [List.nil_append, f1, f2] at D3
        have hwd := wd_256 hw.1 p.toNat
        obtain ⟨σ4, g1, g2, g3⟩ := s245 (d := d) (by omega) D3.1.2 ((k2.tr D3.1.fq).mr hm) hn en D3.2 (x := wd L p.toNat) (wf_rev hw (wd_lt hw.1 _) (by rw [List.length_append, List.length_drop, List.length_take]; omega) (fun b hb => by
          rcases List.mem_append.mp hb with q | q
          · exact hw.1.2.2.2.2.2 b (List.mem_of_mem_drop q)
          · exact hw.1.2.2.2.2.2 b (List.mem_of_mem_take q))) (wd L p.toNat : Nat)
        rw [ep] at j1 i1
        have hy3 := D2.1.2
        have y1d := hy3.1; have k101d := y101_m1 hy3
        have hy4 := D3.1.2
        have y1e := hy4.1; have k101e := y101_m1 hy4
        have w1 := k4.1 p.toNat (by omega)
        rw [ep] at w1
        refine ⟨σ4, ?_, ((k2.tr D3.1.fq).fm.tr g2).fl, g3⟩
        rw [ce_276, sg_276_0]
        repeat (first | ((with_reducible refine step_t ?_ ?_); with_reducible exact True.intro) | ((with_reducible refine step_t ?_ ?_); omega) | ((with_reducible refine step_f ?_ ?_); omega))
        refine step_c (e180) ?_
        try dsimp only
        (try simp (disch := omega) only [wr_id2])
        repeat (first | ((with_reducible refine step_t ?_ ?_); with_reducible exact True.intro) | ((with_reducible refine step_t ?_ ?_); omega) | ((with_reducible refine step_f ?_ ?_); omega))
        refine step_c (e204) ?_
        try dsimp only
        (try simp (disch := omega) only [wx, wr_id2])
        refine step_c (e1) ?_
        try dsimp only
        rw [wr_b2i]
        refine step_t (show b2i true ≠ 0 by decide) ?_
        repeat (first | ((with_reducible refine step_t ?_ ?_); with_reducible exact True.intro) | ((with_reducible refine step_t ?_ ?_); omega) | ((with_reducible refine step_f ?_ ?_); omega))
        refine step_c (k1) ?_
        try dsimp only
        rw [sg_276_33]
        (try simp (disch := omega) only [q4, wr_b2i, wr_id2])
        repeat (first | ((with_reducible refine step_t ?_ ?_); with_reducible exact True.intro) | ((with_reducible refine step_t ?_ ?_); omega) | ((with_reducible refine step_f ?_ ?_); omega))
        refine step_t (show b2i true ≠ 0 by decide) ?_
        (try simp (disch := omega) only [p107b, wx, w1, wr_id2])
        repeat (first | ((with_reducible refine step_t ?_ ?_); with_reducible exact True.intro) | ((with_reducible refine step_t ?_ ?_); omega) | ((with_reducible refine step_f ?_ ?_); omega))
        refine step_c (s204 (by omega) hy2 hn (D0.1.slr k3)) ?_
        try dsimp only
        repeat (first | ((with_reducible refine step_t ?_ ?_); with_reducible exact True.intro) | ((with_reducible refine step_t ?_ ?_); omega) | ((with_reducible refine step_f ?_ ?_); omega))
        refine step_c (j1) ?_
        try dsimp only
        repeat (first | ((with_reducible refine step_t ?_ ?_); with_reducible exact True.intro) | ((with_reducible refine step_t ?_ ?_); omega) | ((with_reducible refine step_f ?_ ?_); omega))
        refine step_c (i1) ?_
        try dsimp only
        repeat (first | ((with_reducible refine step_t ?_ ?_); with_reducible exact True.intro) | ((with_reducible refine step_t ?_ ?_); omega) | ((with_reducible refine step_f ?_ ?_); omega))
        refine step_c (g1) ?_
        try dsimp only
    · rw [decide_eq_false (show ¬ (0 ≤ p ∧ p ≤ ((lT L).length : Nat) - 1) by omega)] at e1
      rw [if_neg z]
      dsimp only
      refine ⟨σ, ?_, (FM.rf hy).fl, hm⟩
      rw [ce_276, sg_276_0]
      repeat (first | ((with_reducible refine step_t ?_ ?_); with_reducible exact True.intro) | ((with_reducible refine step_t ?_ ?_); omega) | ((with_reducible refine step_f ?_ ?_); omega))
      refine step_c (e180) ?_
      try dsimp only
      (try simp (disch := omega) only [wr_id2])
      repeat (first | ((with_reducible refine step_t ?_ ?_); with_reducible exact True.intro) | ((with_reducible refine step_t ?_ ?_); omega) | ((with_reducible refine step_f ?_ ?_); omega))
      refine step_c (e204) ?_
      try dsimp only
      (try simp (disch := omega) only [wx, wr_id2])
      refine step_c (e1) ?_
      try dsimp only
      rw [wr_b2i]
      refine step_f (show ¬ (b2i false ≠ 0) by decide) ?_
      rfl
/-- adds -/
theorem setl_a {S : AS} {n : Nat} {L M : LB} (en : S.sl n = some L) (h : (lT L).length ≠ (lT M).length) : setl S n (some M) = actS S n (some M) := by
  unfold setl
  rw [if_neg (fun e => h (by rw [en] at e; rw [Option.some.inj e]))]
theorem slr_of {σ : HP} {f : Nat → Option LB} (h : ∀ k : Nat, k < 783 → σ 102 k = encR f k) {n : Nat} (hn : n < 3) {L : LB} (e : f n = some L) (hw : wf0 L) : slR σ n L := by
  have hl := wf_len hw
  have hat : ∀ j : Nat, j < 261 → σ 102 (261 * (n : Int) + (j : Int)) = encA (some L) j := fun j hj => by
    have q := h (261 * n + j) (by omega)
    unfold encR at q
    rw [show (261 * n + j) / 261 = n by omega, show (261 * n + j) % 261 = j by omega, e] at q
    rw [← q]
    congr 1
  refine ⟨hat 0 (by omega), hat 1 (by omega), hat 2 (by omega), hat 3 (by omega), hat 4 (by omega), fun i x hx => ?_⟩
  have hi : i < (lT L).length := (List.getElem?_eq_some_iff.mp hx).1
  have q := hat (5 + i) (by omega)
  rw [encA_st, hx] at q
  rw [show 261 * (n : Int) + 5 + (i : Int) = 261 * (n : Int) + ((5 + i : Nat) : Int) by omega]
  exact q
theorem MK.fq {σ σ' : HP} {S : AS} (h : MK σ S) (hf : FQ σ σ') : MK σ' S := h.same (fun a j q => hf.1 a j (by omega))
theorem m277 (S : AS) {s x : Int} (hs : i32 s) (hx : i32 x) : mOp 277 [vI s, vI x] S (aA S s (addF x)) := by
  intro d σ h hy ht hm
  obtain ⟨d, rfl⟩ := ob1 (show 1 ≤ d by omega)
  have y1 := hy.1; have k101 := y101_m1 hy; have p102 := y101_0 hy; have k102 := y102_m1 hy; have l102 := y102_m2 hy; have p107 := y101_15 hy; have k107 := y107_m1 hy; have l107 := y107_m2 hy; have p108 := y101_16 hy; have k108 := y108_m1 hy; have l108 := y108_m2 hy
  unfold aA
  cases e : gl S s with
  | none =>
    refine ⟨σ, ?_, (FM.rf hy).fl, hm⟩
    rw [ce_277, sg_277_0]
    repeat (first | ((with_reducible refine step_t ?_ ?_); with_reducible exact True.intro) | ((with_reducible refine step_t ?_ ?_); omega) | ((with_reducible refine step_f ?_ ?_); omega))
    refine step_c (s224n (by omega) hy hm hs hx e) ?_
    try dsimp only
    (try simp (disch := omega) only [wr_id2])
    repeat (first | ((with_reducible refine step_t ?_ ?_); with_reducible exact True.intro) | ((with_reducible refine step_t ?_ ?_); omega) | ((with_reducible refine step_f ?_ ?_); omega))
    rfl
  | some L =>
    have e180 := s224s (d := d) (by omega) hy hm hs hx e
    obtain ⟨n, rfl, hn, hr, hw, en⟩ := hm.got e
    have hl := wf_len hw.1
    have h9 := hw.1.1
    have h1N := hw.2.1
    have hp8 := pow8 hw.1.1
    have hp0 := Nat.two_pow_pos (lN0 L)
    have hsh := shN_le L
    dsimp only
    have e204 := s204 (d := d) (by omega) hy hn hr
    unfold addF
    by_cases z : 0 ≤ x ∧ x < lN0 L
    · rw [decide_eq_true z] at e180
      rw [if_pos z]
      by_cases z2 : (lT L).length < 256
      · rw [if_pos z2]
        dsimp only
        rw [tnn]
        obtain ⟨σ1, k1, D1⟩ := s273 (d := d) (by omega) hy hn hr hw.1
        obtain ⟨σ2, k2, D2⟩ := dm_push (d := d) (by omega) D1 (by omega) x.toNat
        rw [show ((x.toNat : Nat) : Int) = x by omega] at k2
        have hwM : wfL (appL L [x.toNat]) := wf_rev hw hw.1.2.2.2.1 (by rw [List.length_append]; exact z2) (fun b hb => by
          rcases List.mem_append.mp hb with q | q
          · exact hw.1.2.2.2.2.2 b q
          · rw [List.mem_singleton.mp q]; omega)
        obtain ⟨σ3, i1, i2, i3, i4, i5, i6⟩ := s182 (d := d) (by omega) D2.1.2 (D2.1.fq.mr hm) hn D2.2 (o := some (appL L [x.toNat])) (a := (lN0 L : Nat)) (b := (lA L : Nat)) (c := (lB L : Nat)) (e := (lS L : Nat)) rfl rfl rfl rfl rfl (fun i _ => encA_st _ i)
        have hr3 : slR σ3 n (appL L [x.toNat]) := slr_of i5 hn (setS_s _ _ _) hwM.1
        obtain ⟨σ4, j1, j2, j3, j4⟩ := s203 (d := d) (by omega) i2.2 hn hr3 hwM.1
        have el : (lT (appL L [x.toNat])).length = (lT L).length + 1 := by show (lT L ++ [x.toNat]).length = _; rw [List.length_append]; rfl
        have e9 := j4.1 ((lT L).length + 1) (by rw [el]; exact Nat.le_refl _)
        obtain ⟨σ5, g1, g2, g3⟩ := s184 (d := d) (by omega) j2.2 (i3.fq j2) hn (o := some (appL L [x.toNat])) (fun k hk => by rw [j2.1 _ _ (by omega)]; exact i4 k hk) (fun k hk => by rw [j2.1 _ _ (by omega)]; exact i5 k hk) hm.wf (fun M e => by cases e; exact hwM) (wd (appL L [x.toNat]) ((lT L).length + 1) : Nat)
        have hy1 := D1.1.2
        have y1b := hy1.1; have k101b := y101_m1 hy1
        have hy2 := D2.1.2
        have y1c := hy2.1; have k101c := y101_m1 hy2
        have hy3 := i2.2
        have y1d := hy3.1; have k101d := y101_m1 hy3
        have hy4 := j2.2
        have y1e := hy4.1; have k101e := y101_m1 hy4; have p107e := y101_15 hy4; have k107e := y107_m1 hy4; have l107e := y107_m2 hy4
        have hr2 := D2.1.slr hr
        have e204b := s204 (d := d) (by omega) hy4 hn j3
        rw [el] at e204b
        refine ⟨σ5, ?_, ((D2.1.fq.fm.tr i2).tr (j2.fm.tr g2)).fl, by rw [setl_a en (by rw [el]; omega)]; exact g3⟩
        rw [ce_277, sg_277_0]
        repeat (first | ((with_reducible refine step_t ?_ ?_); with_reducible exact True.intro) | ((with_reducible refine step_t ?_ ?_); omega) | ((with_reducible refine step_f ?_ ?_); omega))
        refine step_c (e180) ?_
        try dsimp only
        rw [wr_b2i]
        refine step_t (show b2i true ≠ 0 by decide) ?_
        repeat (first | ((with_reducible refine step_t ?_ ?_); with_reducible exact True.intro) | ((with_reducible refine step_t ?_ ?_); omega) | ((with_reducible refine step_f ?_ ?_); omega))
        refine step_c (e204) ?_
        try dsimp only
        (try simp (disch := omega) only [wr_id2])
        repeat (first | ((with_reducible refine step_t ?_ ?_); with_reducible exact True.intro) | ((with_reducible refine step_t ?_ ?_); omega) | ((with_reducible refine step_f ?_ ?_); omega))
        refine step_c (k1) ?_
        try dsimp only
        repeat (first | ((with_reducible refine step_t ?_ ?_); with_reducible exact True.intro) | ((with_reducible refine step_t ?_ ?_); omega) | ((with_reducible refine step_f ?_ ?_); omega))
        refine step_c (k2) ?_
        try dsimp only
        rw [sg_277_36]
        repeat (first | ((with_reducible refine step_t ?_ ?_); with_reducible exact True.intro) | ((with_reducible refine step_t ?_ ?_); omega) | ((with_reducible refine step_f ?_ ?_); omega))
        refine step_c (s207 (by omega) hy2 hn hr2) ?_
        try dsimp only
        repeat (first | ((with_reducible refine step_t ?_ ?_); with_reducible exact True.intro) | ((with_reducible refine step_t ?_ ?_); omega) | ((with_reducible refine step_f ?_ ?_); omega))
        refine step_c (s181 (by omega) hy2 hn (j := 1) (by omega) (by omega)) ?_
        try dsimp only
        repeat (first | ((with_reducible refine step_t ?_ ?_); with_reducible exact True.intro) | ((with_reducible refine step_t ?_ ?_); omega) | ((with_reducible refine step_f ?_ ?_); omega))
        refine step_c (s181 (by omega) hy2 hn (j := 2) (by omega) (by omega)) ?_
        try dsimp only
        repeat (first | ((with_reducible refine step_t ?_ ?_); with_reducible exact True.intro) | ((with_reducible refine step_t ?_ ?_); omega) | ((with_reducible refine step_f ?_ ?_); omega))
        refine step_c (s181 (by omega) hy2 hn (j := 3) (by omega) (by omega)) ?_
        try dsimp only
        rw [hr2.2.1, hr2.2.2.1, hr2.2.2.2.1]
        repeat (first | ((with_reducible refine step_t ?_ ?_); with_reducible exact True.intro) | ((with_reducible refine step_t ?_ ?_); omega) | ((with_reducible refine step_f ?_ ?_); omega))
        refine step_c (i1) ?_
        try dsimp only
        rw [sg_277_64]
        repeat (first | ((with_reducible refine step_t ?_ ?_); with_reducible exact True.intro) | ((with_reducible refine step_t ?_ ?_); omega) | ((with_reducible refine step_f ?_ ?_); omega))
        refine step_c (j1) ?_
        try dsimp only
        (try simp (disch := omega) only [p107e, wr_id2])
        repeat (first | ((with_reducible refine step_t ?_ ?_); with_reducible exact True.intro) | ((with_reducible refine step_t ?_ ?_); omega) | ((with_reducible refine step_f ?_ ?_); omega))
        refine step_c (e204b) ?_
        try dsimp only
        have el2 : (lT (appL L [x.toNat])).length ≤ 256 := by rw [el]; omega
        (try simp (disch := omega) only [p107e, e9, wr_id2])
        repeat (first | ((with_reducible refine step_t ?_ ?_); with_reducible exact True.intro) | ((with_reducible refine step_t ?_ ?_); omega) | ((with_reducible refine step_f ?_ ?_); omega))
        refine step_c (g1) ?_
        try dsimp only
      · rw [if_neg z2]
        dsimp only
        refine ⟨σ, ?_, (FM.rf hy).fl, hm⟩
        rw [ce_277, sg_277_0]
        repeat (first | ((with_reducible refine step_t ?_ ?_); with_reducible exact True.intro) | ((with_reducible refine step_t ?_ ?_); omega) | ((with_reducible refine step_f ?_ ?_); omega))
        refine step_c (e180) ?_
        try dsimp only
        rw [wr_b2i]
        refine step_t (show b2i true ≠ 0 by decide) ?_
        repeat (first | ((with_reducible refine step_t ?_ ?_); with_reducible exact True.intro) | ((with_reducible refine step_t ?_ ?_); omega) | ((with_reducible refine step_f ?_ ?_); omega))
        refine step_c (e204) ?_
        try dsimp only
        (try simp (disch := omega) only [wr_id2])
        repeat (first | ((with_reducible refine step_t ?_ ?_); with_reducible exact True.intro) | ((with_reducible refine step_t ?_ ?_); omega) | ((with_reducible refine step_f ?_ ?_); omega))
        rfl
    · rw [decide_eq_false z] at e180
      rw [if_neg z]
      dsimp only
      refine ⟨σ, ?_, (FM.rf hy).fl, hm⟩
      rw [ce_277, sg_277_0]
      repeat (first | ((with_reducible refine step_t ?_ ?_); with_reducible exact True.intro) | ((with_reducible refine step_t ?_ ?_); omega) | ((with_reducible refine step_f ?_ ?_); omega))
      refine step_c (e180) ?_
      try dsimp only
      rw [wr_b2i]
      refine step_f (show ¬ (b2i false ≠ 0) by decide) ?_
      rfl
/-- cuts -/
theorem m278 (S : AS) {s x : Int} (hs : i32 s) (hx : i32 x) : mOp 278 [vI s, vI x] S (aA S s (cutF x)) := by
  intro d σ h hy ht hm
  obtain ⟨d, rfl⟩ := ob1 (show 1 ≤ d by omega)
  have y1 := hy.1; have k101 := y101_m1 hy; have p102 := y101_0 hy; have k102 := y102_m1 hy; have l102 := y102_m2 hy; have p107 := y101_15 hy; have k107 := y107_m1 hy; have l107 := y107_m2 hy; have p108 := y101_16 hy; have k108 := y108_m1 hy; have l108 := y108_m2 hy
  unfold aA
  cases e : gl S s with
  | none =>
    refine ⟨σ, ?_, (FM.rf hy).fl, hm⟩
    rw [ce_278, sg_278_0]
    repeat (first | ((with_reducible refine step_t ?_ ?_); with_reducible exact True.intro) | ((with_reducible refine step_t ?_ ?_); omega) | ((with_reducible refine step_f ?_ ?_); omega))
    refine step_c (s180n (by omega) hy hm hs e) ?_
    try dsimp only
    (try simp (disch := omega) only [wr_id2])
    repeat (first | ((with_reducible refine step_t ?_ ?_); with_reducible exact True.intro) | ((with_reducible refine step_t ?_ ?_); omega) | ((with_reducible refine step_f ?_ ?_); omega))
    rfl
  | some L =>
    have e180 := s180s (d := d) (by omega) hy hm hs e
    obtain ⟨n, rfl, hn, hr, hw, en⟩ := hm.got e
    have hl := wf_len hw.1
    have h9 := hw.1.1
    have h1N := hw.2.1
    have hp8 := pow8 hw.1.1
    have hp0 := Nat.two_pow_pos (lN0 L)
    have hsh := shN_le L
    dsimp only
    have x1 := hx.1
    have x2 := hx.2
    have wx := hx.wr
    have e204 := s204 (d := d) (by omega) hy hn hr
    have e1 := s179 (d := d) (by omega) σ hx (y := 1) (z := ((lT L).length : Nat)) ⟨by decide, by decide⟩ ⟨by omega, by omega⟩
    unfold cutF
    by_cases z : 1 ≤ x ∧ x ≤ (lT L).length
    · rw [decide_eq_true z] at e1
      rw [if_pos z]
      dsimp only
      rw [tnn]
      obtain ⟨σ1, k1, D1⟩ := s273 (d := d) (by omega) hy hn hr hw.1
      have hy1 := D1.1.2
      have y1b := hy1.1; have k101b := y101_m1 hy1
      have elen : ((lT L).take ((lT L).length - x.toNat)).length = (lT L).length - x.toNat := by rw [List.length_take]; omega
      have D2 : DM σ (up σ1 101 5 (((lT L).length - x.toNat : Nat) : Int)) ((lT L).take ((lT L).length - x.toNat)) := by
        refine ⟨⟨fun a j h1 h2 => ?_, hy1.upf okf_5 (by omega)⟩, by rw [up_s, elen], by omega, fun i y hy3 => ?_⟩
        · rcases h2 with h2 | h2
          · rw [up_n1 _ _ _ _ h2]; exact D1.1.1 a j h1 (Or.inl h2)
          · rw [up_n2 _ _ _ _ h2]; exact D1.1.1 a j h1 (Or.inr h2)
        · rw [up_n1 _ _ _ _ (by omega)]
          refine D1.2.2.2 i y ?_
          by_cases zi : i < (lT L).length - x.toNat
          · rw [List.getElem?_take_of_lt zi] at hy3; exact hy3
          · rw [List.getElem?_eq_none (by omega)] at hy3; cases hy3
      have hwM : wfL (lN0 L, lA L, lB L, lS L, (lT L).take ((lT L).length - x.toNat)) := wf_rev hw hw.1.2.2.2.1 (by omega) (fun b hb => hw.1.2.2.2.2.2 b (List.mem_of_mem_take hb))
      obtain ⟨σ3, i1, i2, i3, i4, i5, i6⟩ := s182 (d := d) (by omega) D2.1.2 (D2.1.fq.mr hm) hn D2.2 (o := some (lN0 L, lA L, lB L, lS L, (lT L).take ((lT L).length - x.toNat))) (a := (lN0 L : Nat)) (b := (lA L : Nat)) (c := (lB L : Nat)) (e := (lS L : Nat)) rfl rfl rfl rfl rfl (fun i _ => encA_st _ i)
      obtain ⟨σ5, g1, g2, g3⟩ := s184 (d := d) (by omega) i2.2 i3 hn (o := some (lN0 L, lA L, lB L, lS L, (lT L).take ((lT L).length - x.toNat))) i4 i5 hm.wf (fun M e => by cases e; exact hwM) (((lT L).length - x.toNat : Nat) : Int)
      have hy2 := D2.1.2
      have y1c := hy2.1; have k101c := y101_m1 hy2
      have hy3 := i2.2
      have y1d := hy3.1; have k101d := y101_m1 hy3
      have hr2 := D2.1.slr hr
      have m1 := D1.2.1
      have m3 := i6.1
      rw [elen] at m3
      have e9 : (((lT L).length : Nat) : Int) - x = (((lT L).length - x.toNat : Nat) : Int) := by omega
      refine ⟨σ5, ?_, ((D2.1.fq.fm.tr i2).tr g2).fl, by rw [setl_a en (by show (lT L).length ≠ ((lT L).take ((lT L).length - x.toNat)).length; omega)]; exact g3⟩
      rw [ce_278, sg_278_0]
      repeat (first | ((with_reducible refine step_t ?_ ?_); with_reducible exact True.intro) | ((with_reducible refine step_t ?_ ?_); omega) | ((with_reducible refine step_f ?_ ?_); omega))
      refine step_c (e180) ?_
      try dsimp only
      (try simp (disch := omega) only [wr_id2])
      repeat (first | ((with_reducible refine step_t ?_ ?_); with_reducible exact True.intro) | ((with_reducible refine step_t ?_ ?_); omega) | ((with_reducible refine step_f ?_ ?_); omega))
      refine step_c (e204) ?_
      try dsimp only
      (try simp (disch := omega) only [wx, wr_id2])
      refine step_c (e1) ?_
      try dsimp only
      rw [wr_b2i]
      refine step_t (show b2i true ≠ 0 by decide) ?_
      repeat (first | ((with_reducible refine step_t ?_ ?_); with_reducible exact True.intro) | ((with_reducible refine step_t ?_ ?_); omega) | ((with_reducible refine step_f ?_ ?_); omega))
      refine step_c (k1) ?_
      try dsimp only
      rw [sg_278_31]
      (try simp (disch := omega) only [m1, e9, wr_id2])
      repeat (first | ((with_reducible refine step_t ?_ ?_); with_reducible exact True.intro) | ((with_reducible refine step_t ?_ ?_); omega) | ((with_reducible refine step_f ?_ ?_); omega))
      refine step_c (s207 (by omega) hy2 hn hr2) ?_
      try dsimp only
      repeat (first | ((with_reducible refine step_t ?_ ?_); with_reducible exact True.intro) | ((with_reducible refine step_t ?_ ?_); omega) | ((with_reducible refine step_f ?_ ?_); omega))
      refine step_c (s181 (by omega) hy2 hn (j := 1) (by omega) (by omega)) ?_
      try dsimp only
      repeat (first | ((with_reducible refine step_t ?_ ?_); with_reducible exact True.intro) | ((with_reducible refine step_t ?_ ?_); omega) | ((with_reducible refine step_f ?_ ?_); omega))
      refine step_c (s181 (by omega) hy2 hn (j := 2) (by omega) (by omega)) ?_
      try dsimp only
      repeat (first | ((with_reducible refine step_t ?_ ?_); with_reducible exact True.intro) | ((with_reducible refine step_t ?_ ?_); omega) | ((with_reducible refine step_f ?_ ?_); omega))
      refine step_c (s181 (by omega) hy2 hn (j := 3) (by omega) (by omega)) ?_
      try dsimp only
      rw [hr2.2.1, hr2.2.2.1, hr2.2.2.2.1]
      repeat (first | ((with_reducible refine step_t ?_ ?_); with_reducible exact True.intro) | ((with_reducible refine step_t ?_ ?_); omega) | ((with_reducible refine step_f ?_ ?_); omega))
      refine step_c (i1) ?_
      try dsimp only
      rw [sg_278_69]
      (try simp (disch := omega) only [m3, wr_id2])
      repeat (first | ((with_reducible refine step_t ?_ ?_); with_reducible exact True.intro) | ((with_reducible refine step_t ?_ ?_); omega) | ((with_reducible refine step_f ?_ ?_); omega))
      refine step_c (g1) ?_
      try dsimp only
    · rw [decide_eq_false z] at e1
      rw [if_neg z]
      dsimp only
      refine ⟨σ, ?_, (FM.rf hy).fl, hm⟩
      rw [ce_278, sg_278_0]
      repeat (first | ((with_reducible refine step_t ?_ ?_); with_reducible exact True.intro) | ((with_reducible refine step_t ?_ ?_); omega) | ((with_reducible refine step_f ?_ ?_); omega))
      refine step_c (e180) ?_
      try dsimp only
      (try simp (disch := omega) only [wr_id2])
      repeat (first | ((with_reducible refine step_t ?_ ?_); with_reducible exact True.intro) | ((with_reducible refine step_t ?_ ?_); omega) | ((with_reducible refine step_f ?_ ?_); omega))
      refine step_c (e204) ?_
      try dsimp only
      (try simp (disch := omega) only [wx, wr_id2])
      refine step_c (e1) ?_
      try dsimp only
      rw [wr_b2i]
      refine step_f (show ¬ (b2i false ≠ 0) by decide) ?_
      rfl
/-- drops -/
theorem m177 (S : AS) {s : Int} (hs : i32 s) : mOp 177 [vI s] S (dropA S s) := by
  intro d σ h hy ht hm
  obtain ⟨d, rfl⟩ := ob1 (show 1 ≤ d by omega)
  have y1 := hy.1; have k101 := y101_m1 hy
  have e178 := s178 (d := d) (by omega) σ hs
  unfold dropA
  by_cases z : 0 ≤ s ∧ s < 3
  · rw [if_pos z]
    rw [decide_eq_true (show 0 ≤ s ∧ s ≤ 2 by omega)] at e178
    have e1 : ((s.toNat : Nat) : Int) = s := by omega
    have hs3 : s.toNat < 3 := by omega
    have eg : gl S s = S.sl s.toNat := by unfold gl; rw [if_pos z]
    cases ho : S.sl s.toNat with
    | none =>
      rw [ho] at eg
      rw [if_neg (by decide)]
      refine ⟨σ, ?_, (FM.rf hy).fl, hm⟩
      rw [ce_177, sg_177_0]
      repeat (first | ((with_reducible refine step_t ?_ ?_); with_reducible exact True.intro) | ((with_reducible refine step_t ?_ ?_); omega) | ((with_reducible refine step_f ?_ ?_); omega))
      refine step_c (e178) ?_
      try dsimp only
      rw [wr_b2i]
      refine step_t (show b2i true ≠ 0 by decide) ?_
      repeat (first | ((with_reducible refine step_t ?_ ?_); with_reducible exact True.intro) | ((with_reducible refine step_t ?_ ?_); omega) | ((with_reducible refine step_f ?_ ?_); omega))
      refine step_c (s180n (by omega) hy hm hs eg) ?_
      try dsimp only
      (try simp (disch := omega) only [wr_id2])
      repeat (first | ((with_reducible refine step_t ?_ ?_); with_reducible exact True.intro) | ((with_reducible refine step_t ?_ ?_); omega) | ((with_reducible refine step_f ?_ ?_); omega))
      rfl
    | some L =>
      rw [ho] at eg
      rw [if_pos (by rfl)]
      have D0 := dm_0 hy
      obtain ⟨σ3, i1, i2, i3, i4, i5, i6⟩ := s182 (d := d) (by omega) D0.1.2 (D0.1.fq.mr hm) hs3 D0.2 (o := none) (a := 0) (b := 0) (c := 0) (e := 0) rfl rfl rfl rfl rfl (fun i _ => rfl)
      obtain ⟨σ5, g1, g2, g3⟩ := s184 (d := d) (by omega) i2.2 i3 hs3 (o := none) i4 i5 hm.wf (fun M e => by cases e) 1
      rw [e1] at i1
      have hy2 := D0.1.2
      have y1c := hy2.1; have k101c := y101_m1 hy2
      have hy3 := i2.2
      have y1d := hy3.1; have k101d := y101_m1 hy3
      refine ⟨σ5, ?_, ((D0.1.fq.fm.tr i2).tr g2).fl, g3⟩
      rw [ce_177, sg_177_0]
      repeat (first | ((with_reducible refine step_t ?_ ?_); with_reducible exact True.intro) | ((with_reducible refine step_t ?_ ?_); omega) | ((with_reducible refine step_f ?_ ?_); omega))
      refine step_c (e178) ?_
      try dsimp only
      rw [wr_b2i]
      refine step_t (show b2i true ≠ 0 by decide) ?_
      repeat (first | ((with_reducible refine step_t ?_ ?_); with_reducible exact True.intro) | ((with_reducible refine step_t ?_ ?_); omega) | ((with_reducible refine step_f ?_ ?_); omega))
      refine step_c (s180s (by omega) hy hm hs eg) ?_
      try dsimp only
      (try simp (disch := omega) only [wr_id2])
      repeat (first | ((with_reducible refine step_t ?_ ?_); with_reducible exact True.intro) | ((with_reducible refine step_t ?_ ?_); omega) | ((with_reducible refine step_f ?_ ?_); omega))
      refine step_c (i1) ?_
      try dsimp only
      repeat (first | ((with_reducible refine step_t ?_ ?_); with_reducible exact True.intro) | ((with_reducible refine step_t ?_ ?_); omega) | ((with_reducible refine step_f ?_ ?_); omega))
      refine step_c (g1) ?_
      try dsimp only
  · rw [if_neg z]
    rw [decide_eq_false (show ¬ (0 ≤ s ∧ s ≤ 2) by omega)] at e178
    refine ⟨σ, ?_, (FM.rf hy).fl, hm⟩
    rw [ce_177, sg_177_0]
    repeat (first | ((with_reducible refine step_t ?_ ?_); with_reducible exact True.intro) | ((with_reducible refine step_t ?_ ?_); omega) | ((with_reducible refine step_f ?_ ?_); omega))
    refine step_c (e178) ?_
    try dsimp only
    rw [wr_b2i]
    refine step_f (show ¬ (b2i false ≠ 0) by decide) ?_
    rfl
/-- undo -/
theorem s176l {d : Nat} {σ0 : HP} {c : Nat} (hc : c < 10) : ∀ (m k : Nat) (σ : HP), k + m = 783 → FM σ0 σ → σ 101 3 = c → (∀ j : Nat, j < k → σ 102 j = σ 104 ((783 * c + j : Nat) : Int)) → ∃ σ', rsP PG0 MX d 176 21 [vR 101, vI k] [] σ = some ((c : Int), σ') ∧ FM σ0 σ' ∧ (∀ a j, a ≠ 102 → σ' a j = σ a j) ∧ ∀ j : Nat, j < 783 → σ' 102 j = σ 104 ((783 * c + j : Nat) : Int) := by
  intro m
  induction m with
  | zero =>
    intro k σ hk hF h3 h1
    have hy := hF.2
    have y1 := hy.1; have k101 := y101_m1 hy
    refine ⟨σ, ?_, hF, fun _ _ _ => rfl, fun j hj => h1 j (by omega)⟩
    rw [sg_176_21]
    (try simp (disch := omega) only [h3, wr_id2])
    repeat (first | ((with_reducible refine step_t ?_ ?_); with_reducible exact True.intro) | ((with_reducible refine step_t ?_ ?_); omega) | ((with_reducible refine step_f ?_ ?_); omega))
    rfl
  | succ m ih =>
    intro k σ hk hF h3 h1
    have hy := hF.2
    have y1 := hy.1; have k101 := y101_m1 hy; have p102 := y101_0 hy; have k102 := y102_m1 hy; have l102 := y102_m2 hy; have p104 := y101_2 hy; have k104 := y104_m1 hy; have l104 := y104_m2 hy
    have hF1 : FM σ0 (up σ 102 (k : Nat) (σ 104 ((783 * c + k : Nat) : Int))) := hF.upd (by omega) okr_102 (by omega)
    obtain ⟨σ', k1, k2, k3, k4⟩ := ih (k + 1) _ (by omega) hF1 (by rw [up_n1 _ _ _ _ (by omega)]; exact h3) (fun j hj => by
      rw [up_n1 σ (a := 102) (b := 104) _ _ _ (by omega)]
      by_cases z : j = k
      · subst z; rw [up_s]
      · rw [up_n2 _ _ _ _ (by omega)]; exact h1 j (by omega))
    refine ⟨σ', ?_, k2, fun a j ha => by rw [k3 a j ha, up_n1 _ _ _ _ ha], fun j hj => by rw [k4 j hj, up_n1 _ _ _ _ (by omega)]⟩
    rw [show ((783 * c + k : Nat) : Int) = 783 * (c : Int) + (k : Int) by omega] at k1
    rw [sg_176_21]
    (try simp (disch := omega) only [p102, p104, h3, wr_id2])
    repeat (first | ((with_reducible refine step_t ?_ ?_); with_reducible exact True.intro) | ((with_reducible refine step_t ?_ ?_); omega) | ((with_reducible refine step_f ?_ ?_); omega))
    exact k1
theorem m176 (S : AS) : mOp 176 [] S (undoA S) := by
  intro d σ h hy ht hm
  obtain ⟨d, rfl⟩ := ob1 (show 1 ≤ d by omega)
  have y1 := hy.1; have k101 := y101_m1 hy
  have km := hm.km
  have dl := hm.dl
  unfold undoA
  cases hh : S.hs with
  | nil =>
    rw [hh] at km
    refine ⟨σ, ?_, (FM.rf hy).fl, hm⟩
    rw [ce_176, sg_176_0]
    (try simp (disch := omega) only [km, wr_id2])
    repeat (first | ((with_reducible refine step_t ?_ ?_); with_reducible exact True.intro) | ((with_reducible refine step_t ?_ ?_); omega) | ((with_reducible refine step_f ?_ ?_); omega))
    rfl
  | cons q hs' =>
    obtain ⟨s, o⟩ := q
    have kp := hm.kp
    have hhw := hm.hw
    rw [hh] at km dl kp hhw
    simp only [List.length_cons] at km dl kp
    obtain ⟨hs3, ho⟩ := hhw 0 s o rfl
    have hF1 : FM σ (up σ 101 3 (hs'.length : Nat)) := (FM.rf hy).upf okf_3
    obtain ⟨σ2, k1, k2, k3, k4⟩ := s176l (d := d) (c := hs'.length) (by omega) 783 0 _ (by omega) hF1 (up_s _ _ _ _) (fun j hj => by omega)
    have hsm : ∀ a j, a ≠ 102 → (a ≠ 101 ∨ j ≠ 3) → σ2 a j = σ a j := fun a j h1 h2 => by
      rw [k3 a j h1]
      rcases h2 with h2 | h2
      · rw [up_n1 _ _ _ _ h2]
      · rw [up_n2 _ _ _ _ h2]
    have e1 : unN S.sl ((s, o) :: hs') (0 + 1) = setS S.sl s o := by
      show unN (setS S.sl s o) hs' 0 = _
      cases hs' <;> rfl
    refine ⟨σ2, ?_, k2.fl, ⟨fun k hk => ?_, fun t L ht e => ?_, ?_, by show hs'.length ≤ 10; omega, fun i hi k hk => ?_, fun i t o' hi => hhw (i + 1) t o' (by simpa using hi), inR_same hm.tp (hsm _ _ (by omega) (by omega)) (fun j => hsm _ _ (by omega) (by omega)), ?_, ?_, inR_same hm.ot (hsm _ _ (by omega) (by omega)) (fun j => hsm _ _ (by omega) (by omega))⟩⟩
    · have e2 : (((hs'.length : Nat) : Int) + 1) - 1 = (hs'.length : Nat) := by omega
      rw [ce_176, sg_176_0]
      (try simp (disch := omega) only [km, wr_id2])
      repeat (first | ((with_reducible refine step_t ?_ ?_); with_reducible exact True.intro) | ((with_reducible refine step_t ?_ ?_); omega) | ((with_reducible refine step_f ?_ ?_); omega))
      rw [show ((hs'.length + 1 : Nat) : Int) - 1 = (hs'.length : Nat) by omega]
      exact k1
    · show σ2 102 k = encR (setS S.sl s o) k
      rw [k4 k hk, up_n1 _ _ _ _ (by omega), ← e1, ← kp 0 (by omega) k hk]
      congr 1
    · have e : setS S.sl s o t = some L := e
      by_cases z : t = s
      · rw [z, setS_s] at e; exact ho L e
      · rw [setS_n _ _ z] at e; exact hm.wf t L ht e
    · show σ2 101 3 = (hs'.length : Nat)
      rw [k3 _ _ (by omega), up_s]
    · have hi : i < hs'.length := hi
      show σ2 104 ((783 * (hs'.length - 1 - i) + k : Nat) : Int) = encR (unN (setS S.sl s o) hs' (i + 1)) k
      rw [hsm _ _ (by omega) (by omega)]
      have q := kp (i + 1) (by omega) k hk
      rw [show hs'.length + 1 - 1 - (i + 1) = hs'.length - 1 - i by omega] at q
      exact q
    · rw [hsm _ _ (by omega) (by omega)]; exact hm.fk
    · rw [hsm _ _ (by omega) (by omega)]; exact hm.fp
