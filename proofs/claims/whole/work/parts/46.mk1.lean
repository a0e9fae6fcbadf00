-- @after 30 31 35 36 40 41 42 43 44 45
/-! MAKING LISTS IN THE DRAFT -/
def DW (σ0 σ : HP) (M : LB) : Prop := (FS σ0 σ) ∧ (blr σ 43 M) ∧ (wf0 M) ∧ (σ 43 2 = 1)
theorem DW.fs {σ0 σ : HP} {M : LB} (h : DW σ0 σ M) : FS σ0 σ := h.1
theorem DW.bl {σ0 σ : HP} {M : LB} (h : DW σ0 σ M) : blr σ 43 M := h.2.1
theorem DW.wf {σ0 σ : HP} {M : LB} (h : DW σ0 σ M) : wf0 M := h.2.2.1
theorem DW.ex {σ0 σ : HP} {M : LB} (h : DW σ0 σ M) : σ 43 2 = 1 := h.2.2.2
theorem dw_beg {d : Nat} (h : 2 ≤ d) {σ0 σ : HP} {b : Int} {L : LB} (hF : FS σ0 σ) (hb : blr σ b L) (hw : wf0 L) {x : Nat} (hx : x < 2 ^ lN0 L) : ∃ σ', clR PG0 MX d 104 [vR 43, vR b, vI x] σ = some (0, σ') ∧ DW σ0 σ' (lN0 L, lA L, lB L, x, []) := by
  obtain ⟨σ', k1, k2, k3, k4⟩ := s104 (d := d) h (yb_43 hF.2) hb x
  exact ⟨σ', k1, hF.ag3 k2 k3.1, k3, ⟨hw.1, hw.2.1, hw.2.2.1, hx, Nat.zero_le _, fun b hb => by cases hb⟩, k4⟩
theorem dw_push {d : Nat} (h : 2 ≤ d) {σ0 σ : HP} {M : LB} (hD : DW σ0 σ M) {x : Nat} (hx : x < lN0 M) (hl : (lT M).length < 256) : ∃ σ', clR PG0 MX d 31 [vR 43, vI x] σ = some (0, σ') ∧ DW σ0 σ' (appL M [x]) := by
  obtain ⟨σ', k1, k2, k3, k4⟩ := s31 (d := d) h hD.bl hD.wf hx hl
  exact ⟨σ', k1, hD.fs.ag3 k2 k3.1, k3, wf_push hD.wf hx hl, by rw [k4]; exact hD.ex⟩
theorem DW.blr {σ0 σ : HP} {M L : LB} {b : Int} (hD : DW σ0 σ M) (hb : blr σ0 b L) (h : b + 2 < 43) : _root_.Jvm.Pilot.@@N@@.blr σ b L := hD.fs.blr hb (by omega) (by omega)
theorem slc_mem {L : LB} (hw : wf0 L) {i n x : Nat} (h : x ∈ slc L i n) : x < lN0 L := hw.2.2.2.2.2 x (List.mem_of_mem_drop (List.mem_of_mem_take h))
theorem map_0 (l : List Nat) : l.map (· + 0) = l := by simp
theorem dw_on {d : Nat} (h : 7 ≤ d) {σ0 σ : HP} {M L : LB} {b : Int} (hD : DW σ0 σ M) (hb : blr σ0 b L) (h43 : b + 2 < 43) (hw : wf0 L) {i j : Nat} (k : Nat) (hij : i ≤ j) (hj : j ≤ (lT L).length) (hn : (lT M).length + (j - i) ≤ 256) (hk : lN0 L + k ≤ lN0 M) : ∃ σ', clR PG0 MX d 107 [vR 43, vR b, vI i, vI j, vI k] σ = some (0, σ') ∧ DW σ0 σ' (appL M ((slc L i (j - i)).map (· + k))) := by
  have hq : ∀ x ∈ slc L i (j - i), x + k < lN0 M := fun x hx => by have := slc_mem hw hx; omega
  obtain ⟨σ', k1, k2, k3, k4⟩ := s107a (d := d) h (b := 43) (c := b) hw (by omega) (k := k) hij hj hD.bl hD.wf (hD.blr hb h43) hn hq
  refine ⟨σ', k1, hD.fs.ag3 k2 k3.1, k3, wf_app _ _ hD.wf ?_ ?_, by rw [k4]; exact hD.ex⟩
  · rw [List.length_map]
    have : (slc L i (j - i)).length ≤ j - i := List.length_take_le _ _
    omega
  · intro x hx
    obtain ⟨y, y1, y2⟩ := List.mem_map.mp hx
    have := hq y y1
    omega
theorem dw_bk {d : Nat} (h : 7 ≤ d) {σ0 σ : HP} {M L : LB} {b : Int} (hD : DW σ0 σ M) (hb : blr σ0 b L) (h43 : b + 2 < 43) (hw : wf0 L) {i j : Nat} (hij : i ≤ j) (hj : j ≤ (lT L).length) (hn : (lT M).length + (j - i) ≤ 256) (hk : lN0 L ≤ lN0 M) : ∃ σ', clR PG0 MX d 123 [vR 43, vR b, vI i, vI j] σ = some (0, σ') ∧ DW σ0 σ' (appL M (slc L i (j - i)).reverse) := by
  have hq : ∀ x ∈ slc L i (j - i), x < lN0 M := fun x hx => by have := slc_mem hw hx; omega
  obtain ⟨σ', k1, k2, k3, k4⟩ := s123a (d := d) h (b := 43) (c := b) hw (by omega) hij hj hD.bl hD.wf (hD.blr hb h43) hn hq
  refine ⟨σ', k1, hD.fs.ag3 k2 k3.1, k3, wf_app _ _ hD.wf ?_ ?_, by rw [k4]; exact hD.ex⟩
  · rw [List.length_reverse]
    have : (slc L i (j - i)).length ≤ j - i := List.length_take_le _ _
    omega
  · intro x hx
    have := hq x (List.mem_reverse.mp hx)
    omega
theorem dw_on0 {d : Nat} (h : 7 ≤ d) {σ0 σ : HP} {M L : LB} {b : Int} (hD : DW σ0 σ M) (hb : blr σ0 b L) (h43 : b + 2 < 43) (hw : wf0 L) {i j : Nat} (hij : i ≤ j) (hj : j ≤ (lT L).length) (hn : (lT M).length + (j - i) ≤ 256) (hk : lN0 L ≤ lN0 M) : ∃ σ', clR PG0 MX d 107 [vR 43, vR b, vI i, vI j, vI 0] σ = some (0, σ') ∧ DW σ0 σ' (appL M (slc L i (j - i))) := by
  obtain ⟨σ', k1, k2⟩ := dw_on (d := d) h hD hb h43 hw 0 hij hj hn (by omega)
  rw [map_0] at k2
  exact ⟨σ', k1, k2⟩
theorem dw_cp {d : Nat} (h : 7 ≤ d) {σ0 σ : HP} {b : Int} {L : LB} (hF : FS σ0 σ) (hb : blr σ b L) (h43 : b + 2 < 43) (hw : wf0 L) (hx : σ b 2 = 1) : ∃ σ', clR PG0 MX d 35 [vR 43, vR b] σ = some (0, σ') ∧ DW σ0 σ' L := by
  obtain ⟨σ', k1, k2, k3, k4⟩ := s35 (d := d) h (yb_43 hF.2) hb hw (by omega) (Or.inr hx)
  exact ⟨σ', k1, hF.ag3 k2 k3.1, k3, hw, by rw [k4]; exact hx⟩
theorem dw_set {d : Nat} (h : 9 ≤ d) {σ0 σ : HP} {S : AS} (hc : CR σ0 S) {M : LB} (hD : DW σ0 σ M) {s : Int} (h1 : 0 ≤ s) (h2 : s < 3) (h3 : 1 ≤ lN0 M) (h4 : lA M ≤ lB M) (h5 : lB M ≤ lN0 M) : ∃ σ', clR PG0 MX d 32 [vR 32, vI s] σ = some ((((lT M).length : Nat) : Int), σ') ∧ FC σ0 σ' ∧ CR σ' (setl S s.toNat (some M)) ∧ _root_.Jvm.Pilot.@@N@@.blr σ' (34 + 3 * s) M ∧ _root_.Jvm.Pilot.@@N@@.blr σ' 43 M := by
  obtain ⟨σ', k1, k2, k3, k4, k5⟩ := s32 (d := d) h hD.fs.2 (hD.fs.cr hc) (s := s.toNat) (by omega) hD.bl hD.ex ⟨hD.wf, h3, h4, h5⟩
  rw [show ((s.toNat : Nat) : Int) = s by omega] at k1 k4
  exact ⟨σ', k1, hD.fs.fc.tr k2, k3, k4, k5⟩
theorem CR.ex {σ : HP} {S : AS} (hc : CR σ S) {s : Int} {L : LB} (e : gl S s = some L) : σ (34 + 3 * s) 2 = 1 := by
  obtain ⟨g1, g2, g3, g4, g5⟩ := hc.got e
  obtain ⟨L', h1, h2, h3, h4⟩ := hc.slot s.toNat (by omega)
  rw [g5, show ((s.toNat : Nat) : Int) = s by omega] at h3
  exact h3
/-- an act on the list that a slot has -/
def aA (S : AS) (s : Int) (f : LB → Int × Option LB) : Int × AS := match gl S s with
  | none => (-2, S)
  | some L => match (f L).2 with
    | none => ((f L).1, S)
    | some M => ((f L).1, setl S s.toNat (some M))
/-- starts -/
def staF (w : Int) (L : LB) : Int × Option LB := if 0 ≤ w ∧ w < (2 ^ lN0 L : Nat) then ((lS L : Nat), some (lN0 L, lA L, lB L, w.toNat, lT L)) else (-2, none)
theorem slc_all (L : LB) : slc L 0 ((lT L).length - 0) = lT L := by unfold slc; simp
theorem c154 (S : AS) {s w : Int} (hs : i32 s) (hx : i32 w) : cOp 154 [vI s, vI w] S (aA S s (staF w)) := by
  intro d σ h hy ht hc
  obtain ⟨d, rfl⟩ := ob1 (show 1 ≤ d by omega)
  have y1 := hy.1
  have a1 := y32_m1 hy
  have a5 := y32_5 hy
  have b84 := y84_m1 hy
  have e41 := s41 (d := d) (by omega) hy hc hs
  have a43 := y32_1 hy
  obtain ⟨v1, v2, v3, -⟩ := yb_43 hy
  unfold aA
  cases e : gl S s with
  | none =>
    rw [lbA_n e] at e41
    refine ⟨σ, ?_, FC.rf hy, hc⟩
    rw [ce_154, sg_154_0]
    repeat (first | refine step_t trivial ?_ | refine step_t (by omega) ?_ | refine step_f (by omega) ?_)
    refine step_c (e41) ?_
    try dsimp only
    repeat (first | refine step_t trivial ?_ | refine step_t (by omega) ?_ | refine step_f (by omega) ?_)
    rfl
  | some L =>
    rw [lbA_s e] at e41
    obtain ⟨g1, g2, g3, g4, g5⟩ := hc.got e
    have hw := g4.1
    obtain ⟨⟨m1, m2, m3, m4, m5, m6, m7, m8, m9⟩, f3, f4, f5, f6, fs, fw⟩ := id g3
    have hl := wf_len hw
    have h9 := hw.1
    have hsh := shN_le L
    dsimp only
    have e68 := s68' (d := d) (by omega) g3 hw hx
    have hw0 := fw 0 (Nat.zero_le _)
    rw [wd_0] at hw0
    have hw0 : σ (34 + 3 * s + 2) 0 = (lS L : Nat) := hw0
    unfold staF
    by_cases z : 0 ≤ w ∧ w < (2 ^ lN0 L : Nat)
    · rw [if_pos z]
      dsimp only
      rw [decide_eq_true z] at e68
      obtain ⟨σ1, k1, D1⟩ := dw_beg (d := d) (by omega) (FS.rf hy) g3 hw (x := w.toNat) (by omega)
      rw [show ((w.toNat : Nat) : Int) = w by omega] at k1
      obtain ⟨σ2, k2, D2⟩ := dw_on0 (d := d) (by omega) D1 g3 (by omega) hw (i := 0) (j := (lT L).length) (by omega) (by omega) (by show 0 + _ ≤ _; omega) (Nat.le_refl _)
      rw [slc_all] at D2
      obtain ⟨σ3, k3, F3, C3, B3, _⟩ := dw_set (d := d) (by omega) hc D2 g1 g2 g4.2.1 g4.2.2.1 g4.2.2.2
      have hy1 := D1.fs.2
      have z1 := hy1.1
      have z2 := y32_m1 hy1
      have z3 := y32_1 hy1
      have z4 := yb_43 hy1
      obtain ⟨z5, z6, z7, -⟩ := z4
      obtain ⟨⟨p1, p2, p3, p4, -⟩, -, -, -, p6, -⟩ := D1.blr g3 (by omega)
      have hy2 := D2.fs.2
      have t1 := hy2.1
      have t2 := y32_m1 hy2
      refine ⟨σ3, ?_, F3, C3⟩
      rw [ce_154, sg_154_0]
      repeat (first | refine step_t trivial ?_ | refine step_t (by omega) ?_ | refine step_f (by omega) ?_)
      refine step_c (e41) ?_
      try dsimp only
      repeat (first | refine step_t trivial ?_ | refine step_t (by omega) ?_ | refine step_f (by omega) ?_)
      refine step_c (e68) ?_
      try dsimp only
      rw [wr_b2i]
      refine step_t (show b2i true ≠ 0 by decide) ?_
      (try simp (disch := omega) only [a43, m5, hw0, wr_id2])
      repeat (first | refine step_t trivial ?_ | refine step_t (by omega) ?_ | refine step_f (by omega) ?_)
      refine step_c (k1) ?_
      try dsimp only
      (try simp (disch := omega) only [z3, p6, wr_id2])
      repeat (first | refine step_t trivial ?_ | refine step_t (by omega) ?_ | refine step_f (by omega) ?_)
      refine step_c (k2) ?_
      try dsimp only
      rw [sg_154_52]
      repeat (first | refine step_t trivial ?_ | refine step_t (by omega) ?_ | refine step_f (by omega) ?_)
      refine step_c (k3) ?_
      try dsimp only
    · rw [if_neg z]
      dsimp only
      rw [decide_eq_false z] at e68
      refine ⟨σ, ?_, FC.rf hy, hc⟩
      rw [ce_154, sg_154_0]
      repeat (first | refine step_t trivial ?_ | refine step_t (by omega) ?_ | refine step_f (by omega) ?_)
      refine step_c (e41) ?_
      try dsimp only
      repeat (first | refine step_t trivial ?_ | refine step_t (by omega) ?_ | refine step_f (by omega) ?_)
      refine step_c (e68) ?_
      try dsimp only
      rw [wr_b2i]
      refine step_f (show ¬ (b2i false ≠ 0) by decide) ?_
      rfl
/-- reverse -/
def revF (L : LB) : Int × Option LB := ((wd L (lT L).length : Nat), some (lN0 L, lA L, lB L, wd L (lT L).length, (lT L).reverse))
theorem c157 (S : AS) {s : Int} (hs : i32 s) : cOp 157 [vI s] S (aA S s revF) := by
  intro d σ h hy ht hc
  obtain ⟨d, rfl⟩ := ob1 (show 1 ≤ d by omega)
  have y1 := hy.1
  have a1 := y32_m1 hy
  have a5 := y32_5 hy
  have b84 := y84_m1 hy
  have e41 := s41 (d := d) (by omega) hy hc hs
  have a43 := y32_1 hy
  obtain ⟨v1, v2, v3, -⟩ := yb_43 hy
  unfold aA
  cases e : gl S s with
  | none =>
    rw [lbA_n e] at e41
    refine ⟨σ, ?_, FC.rf hy, hc⟩
    rw [ce_157, sg_157_0]
    repeat (first | refine step_t trivial ?_ | refine step_t (by omega) ?_ | refine step_f (by omega) ?_)
    refine step_c (e41) ?_
    try dsimp only
    repeat (first | refine step_t trivial ?_ | refine step_t (by omega) ?_ | refine step_f (by omega) ?_)
    rfl
  | some L =>
    rw [lbA_s e] at e41
    obtain ⟨g1, g2, g3, g4, g5⟩ := hc.got e
    have hw := g4.1
    obtain ⟨⟨m1, m2, m3, m4, m5, m6, m7, m8, m9⟩, f3, f4, f5, f6, fs, fw⟩ := id g3
    have hl := wf_len hw
    have h9 := hw.1
    have hsh := shN_le L
    dsimp only
    unfold revF
    dsimp only
    obtain ⟨σ1, k1, D1⟩ := dw_beg (d := d) (by omega) (FS.rf hy) g3 hw (x := wd L (lT L).length) (wd_lt hw _)
    obtain ⟨σ2, k2, D2⟩ := dw_bk (d := d) (by omega) D1 g3 (by omega) hw (i := 0) (j := (lT L).length) (by omega) (by omega) (by show 0 + _ ≤ _; omega) (Nat.le_refl _)
    rw [slc_all] at D2
    obtain ⟨σ3, k3, F3, C3, B3, _⟩ := dw_set (d := d) (by omega) hc D2 g1 g2 g4.2.1 g4.2.2.1 g4.2.2.2
    have hy1 := D1.fs.2
    have z1 := hy1.1
    have z2 := y32_m1 hy1
    have z3 := y32_1 hy1
    obtain ⟨z5, z6, z7, -⟩ := yb_43 hy1
    obtain ⟨⟨p1, p2, p3, p4, -⟩, -, -, -, p6, -⟩ := D1.blr g3 (by omega)
    have hy2 := D2.fs.2
    have t1 := hy2.1
    have t2 := y32_m1 hy2
    obtain ⟨⟨q1, q2, q3, q4, q5, q6, q7, q8, q9⟩, -, -, -, -, -, q10⟩ := B3
    have q10 := q10 0 (Nat.zero_le _)
    rw [wd_0] at q10
    have q10 : σ3 (34 + 3 * s + 2) 0 = (wd L (lT L).length : Nat) := q10
    refine ⟨σ3, ?_, F3, C3⟩
    rw [ce_157, sg_157_0]
    repeat (first | refine step_t trivial ?_ | refine step_t (by omega) ?_ | refine step_f (by omega) ?_)
    refine step_c (e41) ?_
    try dsimp only
    repeat (first | refine step_t trivial ?_ | refine step_t (by omega) ?_ | refine step_f (by omega) ?_)
    refine step_c (s112 (by omega) g3 hw) ?_
    try dsimp only
    (try simp (disch := omega) only [a43, wr_id2])
    repeat (first | refine step_t trivial ?_ | refine step_t (by omega) ?_ | refine step_f (by omega) ?_)
    refine step_c (k1) ?_
    try dsimp only
    (try simp (disch := omega) only [z3, p6, wr_id2])
    repeat (first | refine step_t trivial ?_ | refine step_t (by omega) ?_ | refine step_f (by omega) ?_)
    refine step_c (k2) ?_
    try dsimp only
    rw [sg_157_38]
    repeat (first | refine step_t trivial ?_ | refine step_t (by omega) ?_ | refine step_f (by omega) ?_)
    refine step_c (k3) ?_
    try dsimp only
    (try simp (disch := omega) only [q5, q10, wr_id2])
    repeat (first | refine step_t trivial ?_ | refine step_t (by omega) ?_ | refine step_f (by omega) ?_)
    rfl
/-- rolls -/
def rolQ (p : Int) (L : LB) : Int × Option LB := if 0 ≤ p ∧ p < (lT L).length then (if lpB L = true then ((wd L p.toNat : Nat), some (lN0 L, lA L, lB L, wd L p.toNat, (lT L).drop p.toNat ++ (lT L).take p.toNat)) else (-6, none)) else (-2, none)
theorem c158 (S : AS) {s p : Int} (hs : i32 s) (hx : i32 p) : cOp 158 [vI s, vI p] S (aA S s (rolQ p)) := by
  intro d σ h hy ht hc
  obtain ⟨d, rfl⟩ := ob1 (show 1 ≤ d by omega)
  have y1 := hy.1
  have a1 := y32_m1 hy
  have a5 := y32_5 hy
  have b84 := y84_m1 hy
  have e41 := s41 (d := d) (by omega) hy hc hs
  have a43 := y32_1 hy
  obtain ⟨v1, v2, v3, -⟩ := yb_43 hy
  unfold aA
  cases e : gl S s with
  | none =>
    rw [lbA_n e] at e41
    refine ⟨σ, ?_, FC.rf hy, hc⟩
    rw [ce_158, sg_158_0]
    repeat (first | refine step_t trivial ?_ | refine step_t (by omega) ?_ | refine step_f (by omega) ?_)
    refine step_c (e41) ?_
    try dsimp only
    repeat (first | refine step_t trivial ?_ | refine step_t (by omega) ?_ | refine step_f (by omega) ?_)
    rfl
  | some L =>
    rw [lbA_s e] at e41
    obtain ⟨g1, g2, g3, g4, g5⟩ := hc.got e
    have hw := g4.1
    obtain ⟨⟨m1, m2, m3, m4, m5, m6, m7, m8, m9⟩, f3, f4, f5, f6, fs, fw⟩ := id g3
    have hl := wf_len hw
    have h9 := hw.1
    have hsh := shN_le L
    dsimp only
    have x1 := hx.1
    have x2 := hx.2
    have e43 := s43 (d := d) (by omega) g3 hw
    unfold rolQ
    by_cases z : 0 ≤ p ∧ p < (lT L).length
    · rw [if_pos z]
      cases hlp : lpB L with
      | false =>
        rw [if_neg (by decide)]
        dsimp only
        rw [hlp] at e43
        refine ⟨σ, ?_, FC.rf hy, hc⟩
        rw [ce_158, sg_158_0]
        repeat (first | refine step_t trivial ?_ | refine step_t (by omega) ?_ | refine step_f (by omega) ?_)
        refine step_c (e41) ?_
        try dsimp only
        (try simp (disch := omega) only [f6, wr_id2])
        repeat (first | refine step_t trivial ?_ | refine step_t (by omega) ?_ | refine step_f (by omega) ?_)
        refine step_c (e43) ?_
        try dsimp only
        rw [wr_b2i]
        refine step_f (show ¬ (b2i false ≠ 0) by decide) ?_
        rfl
      | true =>
        rw [if_pos rfl]
        dsimp only
        rw [hlp] at e43
        have hwp := fw p.toNat (by omega)
        have ep : ((p.toNat : Nat) : Int) = p := by omega
        rw [ep] at hwp
        obtain ⟨σ1, k1, D1⟩ := dw_beg (d := d) (by omega) (FS.rf hy) g3 hw (x := wd L p.toNat) (wd_lt hw _)
        obtain ⟨σ2, k2, D2⟩ := dw_on0 (d := d) (by omega) D1 g3 (by omega) hw (i := p.toNat) (j := (lT L).length) (by omega) (by omega) (by show 0 + _ ≤ _; omega) (Nat.le_refl _)
        have hlen : (slc L p.toNat ((lT L).length - p.toNat)).length ≤ (lT L).length - p.toNat := List.length_take_le _ _
        obtain ⟨σ3, k3, D3⟩ := dw_on0 (d := d) (by omega) D2 g3 (by omega) hw (i := 0) (j := p.toNat) (by omega) (by omega) (by show ([] ++ slc L p.toNat ((lT L).length - p.toNat)).length + _ ≤ _; rw [List.nil_append]; omega) (Nat.le_refl _)
        have eD : appL (appL (lN0 L, lA L, lB L, wd L p.toNat, []) (slc L p.toNat ((lT L).length - p.toNat))) (slc L 0 (p.toNat - 0)) = (lN0 L, lA L, lB L, wd L p.toNat, (lT L).drop p.toNat ++ (lT L).take p.toNat) := by
          have e1 : slc L p.toNat ((lT L).length - p.toNat) = (lT L).drop p.toNat := by
            unfold slc
            rw [List.take_of_length_le (by rw [List.length_drop]; omega)]
          have e2 : slc L 0 (p.toNat - 0) = (lT L).take p.toNat := by unfold slc; simp
          rw [e1, e2]
          rfl
        rw [eD] at D3
        obtain ⟨σ4, k4, F4, C4, B4, _⟩ := dw_set (d := d) (by omega) hc D3 g1 g2 g4.2.1 g4.2.2.1 g4.2.2.2
        rw [ep] at k2 k3
        have hy1 := D1.fs.2
        have z1 := hy1.1
        have z2 := y32_m1 hy1
        have z3 := y32_1 hy1
        obtain ⟨z5, z6, z7, -⟩ := yb_43 hy1
        obtain ⟨⟨p1, p2, p3, p4, -⟩, -, -, -, p6, -⟩ := D1.blr g3 (by omega)
        have hy2 := D2.fs.2
        have t1 := hy2.1
        have t2 := y32_m1 hy2
        have t3 := y32_1 hy2
        obtain ⟨t5, t6, t7, -⟩ := yb_43 hy2
        have hy3 := D3.fs.2
        have u1 := hy3.1
        have u2 := y32_m1 hy3
        obtain ⟨⟨q1, q2, q3, q4, q5, q6, q7, q8, q9⟩, -, -, -, -, -, q10⟩ := B4
        have q10 := q10 0 (Nat.zero_le _)
        rw [wd_0] at q10
        have q10 : σ4 (34 + 3 * s + 2) 0 = (wd L p.toNat : Nat) := q10
        refine ⟨σ4, ?_, F4, C4⟩
        rw [ce_158, sg_158_0]
        repeat (first | refine step_t trivial ?_ | refine step_t (by omega) ?_ | refine step_f (by omega) ?_)
        refine step_c (e41) ?_
        try dsimp only
        (try simp (disch := omega) only [f6, wr_id2])
        repeat (first | refine step_t trivial ?_ | refine step_t (by omega) ?_ | refine step_f (by omega) ?_)
        refine step_c (e43) ?_
        try dsimp only
        rw [wr_b2i]
        refine step_t (show b2i true ≠ 0 by decide) ?_
        (try simp (disch := omega) only [a43, m5, hwp, wr_id2])
        repeat (first | refine step_t trivial ?_ | refine step_t (by omega) ?_ | refine step_f (by omega) ?_)
        refine step_c (k1) ?_
        try dsimp only
        (try simp (disch := omega) only [z3, p6, wr_id2])
        repeat (first | refine step_t trivial ?_ | refine step_t (by omega) ?_ | refine step_f (by omega) ?_)
        refine step_c (k2) ?_
        try dsimp only
        rw [sg_158_63]
        (try simp (disch := omega) only [t3, wr_id2])
        repeat (first | refine step_t trivial ?_ | refine step_t (by omega) ?_ | refine step_f (by omega) ?_)
        refine step_c (k3) ?_
        try dsimp only
        repeat (first | refine step_t trivial ?_ | refine step_t (by omega) ?_ | refine step_f (by omega) ?_)
        refine step_c (k4) ?_
        try dsimp only
        (try simp (disch := omega) only [q5, q10, wr_id2])
        repeat (first | refine step_t trivial ?_ | refine step_t (by omega) ?_ | refine step_f (by omega) ?_)
        rfl
    · rw [if_neg z]
      dsimp only
      refine ⟨σ, ?_, FC.rf hy, hc⟩
      rw [ce_158, sg_158_0]
      repeat (first | refine step_t trivial ?_ | refine step_t (by omega) ?_ | refine step_f (by omega) ?_)
      refine step_c (e41) ?_
      try dsimp only
      (try simp (disch := omega) only [f6, wr_id2])
      repeat (first | refine step_t trivial ?_ | refine step_t (by omega) ?_ | refine step_f (by omega) ?_)
      refine step_i (fun q => ?_) (fun q => ?_)
      · rfl
      · repeat (first | refine step_t trivial ?_ | refine step_t (by omega) ?_ | refine step_f (by omega) ?_)
        rfl
/-- adds -/
def addF (x : Int) (L : LB) : Int × Option LB := if 0 ≤ x ∧ x < lN0 L then (if (lT L).length < 256 then ((wd (appL L [x.toNat]) ((lT L).length + 1) : Nat), some (appL L [x.toNat])) else (-5, none)) else (-2, none)
theorem c159 (S : AS) {s x : Int} (hs : i32 s) (hx : i32 x) : cOp 159 [vI s, vI x] S (aA S s (addF x)) := by
  intro d σ h hy ht hc
  obtain ⟨d, rfl⟩ := ob1 (show 1 ≤ d by omega)
  have y1 := hy.1
  have a1 := y32_m1 hy
  have a5 := y32_5 hy
  have b84 := y84_m1 hy
  have e41 := s41 (d := d) (by omega) hy hc hs
  have a43 := y32_1 hy
  obtain ⟨v1, v2, v3, -⟩ := yb_43 hy
  unfold aA
  cases e : gl S s with
  | none =>
    rw [lbA_n e] at e41
    refine ⟨σ, ?_, FC.rf hy, hc⟩
    rw [ce_159, sg_159_0]
    repeat (first | refine step_t trivial ?_ | refine step_t (by omega) ?_ | refine step_f (by omega) ?_)
    refine step_c (e41) ?_
    try dsimp only
    repeat (first | refine step_t trivial ?_ | refine step_t (by omega) ?_ | refine step_f (by omega) ?_)
    rfl
  | some L =>
    rw [lbA_s e] at e41
    obtain ⟨g1, g2, g3, g4, g5⟩ := hc.got e
    have hw := g4.1
    obtain ⟨⟨m1, m2, m3, m4, m5, m6, m7, m8, m9⟩, f3, f4, f5, f6, fs, fw⟩ := id g3
    have hl := wf_len hw
    have h9 := hw.1
    have hsh := shN_le L
    dsimp only
    have e30 := s30' (d := d) (by omega) g3 hw hx
    unfold addF
    by_cases z : 0 ≤ x ∧ x < lN0 L
    · rw [if_pos z]
      rw [decide_eq_true z] at e30
      by_cases z2 : (lT L).length < 256
      · rw [if_pos z2]
        dsimp only
        obtain ⟨σ1, k1, D1⟩ := dw_cp (d := d) (by omega) (FS.rf hy) g3 (by omega) hw (hc.ex e)
        obtain ⟨σ2, k2, D2⟩ := dw_push (d := d) (by omega) D1 (x := x.toNat) (by omega) z2
        rw [show ((x.toNat : Nat) : Int) = x by omega] at k2
        obtain ⟨σ3, k3, F3, C3, B3, _⟩ := dw_set (d := d) (by omega) hc D2 g1 g2 g4.2.1 g4.2.2.1 g4.2.2.2
        have hy1 := D1.fs.2
        have z1 := hy1.1
        have z3 := y32_m1 hy1
        have z4 := y32_1 hy1
        obtain ⟨z5, z6, z7, -⟩ := yb_43 hy1
        have hy2 := D2.fs.2
        have t1 := hy2.1
        have t2 := y32_m1 hy2
        have e112 := s112 (d := d) (by omega) B3 D2.wf
        have el : (lT (appL L [x.toNat])).length = (lT L).length + 1 := by show (lT L ++ [x.toNat]).length = _; rw [List.length_append]; rfl
        rw [el] at e112
        obtain ⟨⟨q1, q2, q3, q4, -⟩, -⟩ := B3
        refine ⟨σ3, ?_, F3, C3⟩
        rw [ce_159, sg_159_0]
        repeat (first | refine step_t trivial ?_ | refine step_t (by omega) ?_ | refine step_f (by omega) ?_)
        refine step_c (e41) ?_
        try dsimp only
        repeat (first | refine step_t trivial ?_ | refine step_t (by omega) ?_ | refine step_f (by omega) ?_)
        refine step_c (e30) ?_
        try dsimp only
        rw [wr_b2i]
        refine step_t (show b2i true ≠ 0 by decide) ?_
        (try simp (disch := omega) only [f6, a43, wr_id2])
        repeat (first | refine step_t trivial ?_ | refine step_t (by omega) ?_ | refine step_f (by omega) ?_)
        refine step_c (k1) ?_
        try dsimp only
        (try simp (disch := omega) only [z4, wr_id2])
        repeat (first | refine step_t trivial ?_ | refine step_t (by omega) ?_ | refine step_f (by omega) ?_)
        refine step_c (k2) ?_
        try dsimp only
        rw [sg_159_50]
        repeat (first | refine step_t trivial ?_ | refine step_t (by omega) ?_ | refine step_f (by omega) ?_)
        refine step_c (k3) ?_
        try dsimp only
        repeat (first | refine step_t trivial ?_ | refine step_t (by omega) ?_ | refine step_f (by omega) ?_)
        refine step_c (e112) ?_
        try dsimp only
      · rw [if_neg z2]
        dsimp only
        refine ⟨σ, ?_, FC.rf hy, hc⟩
        rw [ce_159, sg_159_0]
        repeat (first | refine step_t trivial ?_ | refine step_t (by omega) ?_ | refine step_f (by omega) ?_)
        refine step_c (e41) ?_
        try dsimp only
        repeat (first | refine step_t trivial ?_ | refine step_t (by omega) ?_ | refine step_f (by omega) ?_)
        refine step_c (e30) ?_
        try dsimp only
        rw [wr_b2i]
        refine step_t (show b2i true ≠ 0 by decide) ?_
        (try simp (disch := omega) only [f6, a43, wr_id2])
        repeat (first | refine step_t trivial ?_ | refine step_t (by omega) ?_ | refine step_f (by omega) ?_)
        rfl
    · rw [if_neg z]
      rw [decide_eq_false z] at e30
      dsimp only
      refine ⟨σ, ?_, FC.rf hy, hc⟩
      rw [ce_159, sg_159_0]
      repeat (first | refine step_t trivial ?_ | refine step_t (by omega) ?_ | refine step_f (by omega) ?_)
      refine step_c (e41) ?_
      try dsimp only
      repeat (first | refine step_t trivial ?_ | refine step_t (by omega) ?_ | refine step_f (by omega) ?_)
      refine step_c (e30) ?_
      try dsimp only
      rw [wr_b2i]
      refine step_f (show ¬ (b2i false ≠ 0) by decide) ?_
      rfl
/-- cuts -/
def cutF (n : Int) (L : LB) : Int × Option LB := if 1 ≤ n ∧ n ≤ (lT L).length then ((((lT L).length - n.toNat : Nat) : Int), some (lN0 L, lA L, lB L, lS L, (lT L).take ((lT L).length - n.toNat))) else (-2, none)
theorem wdL_take : ∀ (l : List Nat) (s n i : Nat), i ≤ n → wdL s (l.take n) i = wdL s l i := by
  intro l
  induction l with
  | nil => intro s n i h; rw [List.take_nil]
  | cons c l ih =>
    intro s n i h
    match i, n with
    | 0, n => cases (c :: l).take n <;> rfl
    | i + 1, 0 => omega
    | i + 1, n + 1 => exact ih _ n i (by omega)
theorem c160 (S : AS) {s n : Int} (hs : i32 s) (hx : i32 n) : cOp 160 [vI s, vI n] S (aA S s (cutF n)) := by
  intro d σ h hy ht hc
  obtain ⟨d, rfl⟩ := ob1 (show 1 ≤ d by omega)
  have y1 := hy.1
  have a1 := y32_m1 hy
  have a5 := y32_5 hy
  have b84 := y84_m1 hy
  have e41 := s41 (d := d) (by omega) hy hc hs
  have a43 := y32_1 hy
  obtain ⟨v1, v2, v3, -⟩ := yb_43 hy
  unfold aA
  cases e : gl S s with
  | none =>
    rw [lbA_n e] at e41
    refine ⟨σ, ?_, FC.rf hy, hc⟩
    rw [ce_160, sg_160_0]
    repeat (first | refine step_t trivial ?_ | refine step_t (by omega) ?_ | refine step_f (by omega) ?_)
    refine step_c (e41) ?_
    try dsimp only
    repeat (first | refine step_t trivial ?_ | refine step_t (by omega) ?_ | refine step_f (by omega) ?_)
    rfl
  | some L =>
    rw [lbA_s e] at e41
    obtain ⟨g1, g2, g3, g4, g5⟩ := hc.got e
    have hw := g4.1
    obtain ⟨⟨m1, m2, m3, m4, m5, m6, m7, m8, m9⟩, f3, f4, f5, f6, fs, fw⟩ := id g3
    have hl := wf_len hw
    have h9 := hw.1
    have hsh := shN_le L
    dsimp only
    have x1 := hx.1
    have x2 := hx.2
    unfold cutF
    by_cases z : 1 ≤ n ∧ n ≤ (lT L).length
    · rw [if_pos z]
      dsimp only
      obtain ⟨σ1, k1, D1⟩ := dw_cp (d := d) (by omega) (FS.rf hy) g3 (by omega) hw (hc.ex e)
      have hy1 := D1.fs.2
      have hy2 : Lay (up σ1 43 6 (((lT L).length - n.toNat : Nat) : Int)) := hy1.upf (by decide +kernel) (by decide)
      have hD2 : DW σ (up σ1 43 6 (((lT L).length - n.toNat : Nat) : Int)) (lN0 L, lA L, lB L, lS L, (lT L).take ((lT L).length - n.toNat)) := by
        obtain ⟨-, w3, w4, w5, w6, ws, ww⟩ := D1.bl
        have elen : ((lT L).take ((lT L).length - n.toNat)).length = (lT L).length - n.toNat := by rw [List.length_take]; omega
        refine ⟨D1.fs.ag3 (fun a j q => up_n1 _ _ _ _ (by omega)) (yb_43 hy2), ⟨yb_43 hy2, ?_, ?_, ?_, ?_, fun i x hx => ?_, fun i hi => ?_⟩, ⟨hw.1, hw.2.1, hw.2.2.1, hw.2.2.2.1, ?_, fun b hb => hw.2.2.2.2.2 b (List.mem_of_mem_take hb)⟩, ?_⟩
        · rw [up_n2 _ _ _ _ (by omega)]; exact w3
        · rw [up_n2 _ _ _ _ (by omega)]; exact w4
        · rw [up_n2 _ _ _ _ (by omega)]; exact w5
        · rw [up_s]; show _ = ((((lT L).take ((lT L).length - n.toNat)).length : Nat) : Int); rw [elen]
        · rw [up_n1 _ _ _ _ (by omega)]
          refine ws i x ?_
          have hx : ((lT L).take ((lT L).length - n.toNat))[i]? = some x := hx
          by_cases zi : i < (lT L).length - n.toNat
          · rw [List.getElem?_take_of_lt zi] at hx; exact hx
          · rw [List.getElem?_eq_none (by omega)] at hx; cases hx
        · have hi : i ≤ ((lT L).take ((lT L).length - n.toNat)).length := hi
          rw [up_n1 _ _ _ _ (by omega), ww i (by omega)]
          show _ = ((wdL (lS L) ((lT L).take ((lT L).length - n.toNat)) i : Nat) : Int)
          rw [wdL_take _ _ _ _ (by omega)]
        · show ((lT L).take ((lT L).length - n.toNat)).length ≤ 256; omega
        · rw [up_n2 _ _ _ _ (by omega)]; exact D1.ex
      obtain ⟨σ3, k3, F3, C3, B3, _⟩ := dw_set (d := d) (by omega) hc hD2 g1 g2 g4.2.1 g4.2.2.1 g4.2.2.2
      have z1 := hy1.1
      have z3 := y32_m1 hy1
      have z4 := y32_1 hy1
      obtain ⟨z5, z6, z7, -⟩ := yb_43 hy1
      obtain ⟨⟨p1, p2, p3, p4, -⟩, -, -, -, p6, -⟩ := D1.blr g3 (by omega)
      have t1 := hy2.1
      have t2 := y32_m1 hy2
      have e9 : (((lT L).length : Nat) : Int) - n = (((lT L).length - n.toNat : Nat) : Int) := by omega
      have elen : ((lT L).take ((lT L).length - n.toNat)).length = (lT L).length - n.toNat := by rw [List.length_take]; omega
      have k3 : clR PG0 MX d 32 [vR 32, vI s] (up σ1 43 6 (((lT L).length - n.toNat : Nat) : Int)) = some (((((lT L).take ((lT L).length - n.toNat)).length : Nat) : Int), σ3) := k3
      rw [elen] at k3
      refine ⟨σ3, ?_, F3, C3⟩
      rw [ce_160, sg_160_0]
      repeat (first | refine step_t trivial ?_ | refine step_t (by omega) ?_ | refine step_f (by omega) ?_)
      refine step_c (e41) ?_
      try dsimp only
      (try simp (disch := omega) only [f6, a43, wr_id2])
      repeat (first | refine step_t trivial ?_ | refine step_t (by omega) ?_ | refine step_f (by omega) ?_)
      refine step_c (k1) ?_
      try dsimp only
      (try simp (disch := omega) only [z4, p6, e9, wr_id2])
      repeat (first | refine step_t trivial ?_ | refine step_t (by omega) ?_ | refine step_f (by omega) ?_)
      refine step_c (k3) ?_
      try dsimp only
    · rw [if_neg z]
      dsimp only
      refine ⟨σ, ?_, FC.rf hy, hc⟩
      rw [ce_160, sg_160_0]
      repeat (first | refine step_t trivial ?_ | refine step_t (by omega) ?_ | refine step_f (by omega) ?_)
      refine step_c (e41) ?_
      try dsimp only
      (try simp (disch := omega) only [f6, a43, wr_id2])
      repeat (first | refine step_t trivial ?_ | refine step_t (by omega) ?_ | refine step_f (by omega) ?_)
      refine step_i (fun q => ?_) (fun q => ?_)
      · rfl
      · repeat (first | refine step_t trivial ?_ | refine step_t (by omega) ?_ | refine step_f (by omega) ?_)
        rfl
