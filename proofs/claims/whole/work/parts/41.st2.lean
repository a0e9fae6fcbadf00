-- @after 30 31 35 40
/-! BYTES -/
theorem b255 : ∀ i : Nat, i < 32 → (255#32).getLsbD i = decide (i < 8) := by decide
theorem byte32 (z : Int32) : z.toInt8.toInt32 &&& 255 = z &&& 255 := by
  apply Int32.toBitVec_inj.mp
  rw [Int32.toBitVec_and, Int32.toBitVec_and]
  have e : (255 : Int32).toBitVec = 255#32 := rfl
  have e2 : z.toInt8.toInt32.toBitVec = (z.toBitVec.signExtend 8).signExtend 32 := by simp
  rw [e, e2]
  apply BitVec.eq_of_getLsbD_eq
  intro i hi
  rw [BitVec.getLsbD_and, BitVec.getLsbD_and, b255 i hi]
  by_cases h : i < 8
  · rw [BitVec.getLsbD_signExtend, BitVec.getLsbD_signExtend]
    simp [h, hi]
  · rw [decide_eq_false h, Bool.and_false, Bool.and_false]
theorem byte_and (x : Int) : i_and (i_byte x) 255 = i_and x 255 := by
  unfold i_and i_byte
  have e : Int32.ofInt ((Int32.ofInt x).toInt8.toInt32).toInt = (Int32.ofInt x).toInt8.toInt32 := Int32.ofInt_toInt _
  rw [e]
  exact congrArg Int32.toInt (byte32 _)
theorem and255 (x : Int) : 0 ≤ i_and x 255 ∧ i_and x 255 < 256 := by
  unfold i_and
  have h : (Int32.ofInt x &&& 255).toBitVec.toNat ≤ 255 := by
    rw [Int32.toBitVec_and, BitVec.toNat_and]
    exact Nat.and_le_right
  have e := bv_int (z := Int32.ofInt x &&& Int32.ofInt 255) rfl (by
    have : (Int32.ofInt x &&& Int32.ofInt 255) = (Int32.ofInt x &&& 255) := rfl
    rw [this]
    omega)
  rw [e]
  have e3 : (Int32.ofInt x &&& Int32.ofInt 255).toBitVec.toNat = (Int32.ofInt x &&& 255).toBitVec.toNat := rfl
  omega
/-- the byte that an int puts -/
def byX (x : Int) : Nat := (i_and x 255).toNat
theorem byX_i (x : Int) : ((byX x : Nat) : Int) = i_and x 255 := by have := (and255 x).1; unfold byX; omega
theorem byX_lt (x : Int) : byX x < 256 := by have := and255 x; unfold byX; omega
/-- put: into the tape (80, 81, 400) or into what is told (82, 83, 2400) -/
def bym (σ : HP) (a m : Int) : Prop := 32 ≤ a ∧ a + 1 < σ (-1) 0 ∧ σ a (-1) = 1 ∧ σ a 0 = a + 1 ∧ σ (a + 1) (-1) = 21 ∧ σ (a + 1) (-2) = m
theorem ym_80 {σ : HP} (h : Lay σ) : bym σ 80 400 := ⟨by decide, by have := h.1; omega, y80_m1 h, y80_0 h, y81_m1 h, y81_m2 h⟩
theorem ym_82 {σ : HP} (h : Lay σ) : bym σ 82 2400 := ⟨by decide, by have := h.1; omega, y82_m1 h, y82_0 h, y83_m1 h, y83_m2 h⟩
theorem s13 {d : Nat} (h : 1 ≤ d) {σ : HP} {a m : Int} {l : List Nat} (hm : bym σ a m) (hl : byR σ a (a + 1) m l) (h2 : m ≤ 2400) (hr : (l.length : Int) < m) (x : Int) : ∃ σ', clR PG0 MX d 13 [vR a, vI x] σ = some (0, σ') ∧ (∀ c j, c < a ∨ a + 1 < c → σ' c j = σ c j) ∧ bym σ' a m ∧ byR σ' a (a + 1) m (l ++ [byX x]) := by
  obtain ⟨d, rfl⟩ := ob1 (show 1 ≤ d by omega)
  obtain ⟨m1, m2, m3, m4, m5, m6⟩ := hm
  obtain ⟨l1, l2, l3⟩ := hl
  refine ⟨up (up σ (a + 1) (l.length : Nat) (i_byte (i_byte x))) a 1 ((l.length : Nat) + 1), ?_, fun c j hc => ?_, ⟨m1, ?_, ?_, ?_, ?_, ?_⟩, ?_, ?_, fun i y hy => ?_⟩
  · rw [ce_13, sg_13_0]
    (try simp (disch := omega) only [m4, m6, l1, up_n1, up_n2, up_s, wr_id2])
    repeat (first | refine step_t trivial ?_ | refine step_t (by omega) ?_ | refine step_f (by omega) ?_)
    rfl
  · rw [up_n1 _ _ _ _ (by omega), up_n1 _ _ _ _ (by omega)]
  · rw [up_n1 _ _ _ _ (by omega), up_n1 _ _ _ _ (by omega)]; exact m2
  · rw [up_n2 _ _ _ _ (by omega), up_n1 _ _ _ _ (by omega)]; exact m3
  · rw [up_n2 _ _ _ _ (by omega), up_n1 _ _ _ _ (by omega)]; exact m4
  · rw [up_n1 _ _ _ _ (by omega), up_n2 _ _ _ _ (by omega)]; exact m5
  · rw [up_n1 _ _ _ _ (by omega), up_n2 _ _ _ _ (by omega)]; exact m6
  · rw [up_s, List.length_append]; rfl
  · rw [List.length_append]; show ((l.length + 1 : Nat) : Int) ≤ m; omega
  · rw [up_n1 _ _ _ _ (by omega)]
    by_cases z : i < l.length
    · rw [List.getElem?_append_left z] at hy
      rw [up_n2 _ _ _ _ (by omega)]
      exact l3 i y hy
    · by_cases z2 : i = l.length
      · subst z2
        rw [List.getElem?_append_right (by omega), Nat.sub_self] at hy
        cases hy
        rw [up_s, byte_and, byte_and, byX_i]
        exact ⟨byX_lt x, rfl⟩
      · rw [List.getElem?_eq_none (by rw [List.length_append]; show l.length + 1 ≤ i; omega)] at hy
        cases hy
/-- at -/
theorem s19 {d : Nat} (h : 1 ≤ d) {σ : HP} {a m : Int} {l : List Nat} (hm : bym σ a m) (hl : byR σ a (a + 1) m l) (h2 : m ≤ 2400) {x : Int} (hx : i32 x) : clR PG0 MX d 19 [vR a, vI x] σ = some (if 0 ≤ x then (match l[x.toNat]? with | some y => (y : Int) | none => -1) else -1, σ) := by
  obtain ⟨d, rfl⟩ := ob1 (show 1 ≤ d by omega)
  obtain ⟨m1, m2, m3, m4, m5, m6⟩ := hm
  obtain ⟨l1, l2, l3⟩ := hl
  have h1 := hx.1
  have h2 := hx.2
  rw [ce_19, sg_19_0]
  (try simp (disch := omega) only [m4, m6, l1, wr_id2])
  refine step_i (fun g => ?_) (fun g => ?_)
  · rw [if_neg (show ¬ 0 ≤ x by omega)]
  · rw [if_pos (show 0 ≤ x by omega)]
    refine step_t (by omega) ?_
    refine step_i (fun g2 => ?_) (fun g2 => ?_)
    · obtain ⟨y, hy⟩ : ∃ y, l[x.toNat]? = some y := ⟨_, List.getElem?_eq_getElem (by omega)⟩
      have := (l3 _ y hy).2
      rw [show ((x.toNat : Nat) : Int) = x by omega] at this
      rw [hy]
      repeat (first | refine step_t trivial ?_ | refine step_t (by omega) ?_ | refine step_f (by omega) ?_)
      rw [this]
    · rw [List.getElem?_eq_none (by omega)]
/-! CALLS OF THE CLASS -/
def cOp (k : Nat) (as : List MV) (S : AS) (q : Int × AS) : Prop := ∀ (d : Nat) (σ : HP), 1000 ≤ d → Lay σ → Txt σ → CR σ S → ∃ σ', clR PG0 MX d k (vR 32 :: as) σ = some (q.1, σ') ∧ FC σ σ' ∧ CR σ' q.2
/-- undo -/
def undoA (S : AS) : Int × AS := match S.hs with
  | [] => (-1, S)
  | (s, o) :: h => ((h.length : Nat), (mkA (setS S.sl s o) h S.tp S.fk S.fp S.ot))
theorem s167 {d : Nat} (h : 1 ≤ d) {σ : HP} (hy : Lay σ) {n : Nat} (hn : n < 10) (e : σ 46 2 = n) : clR PG0 MX d 167 [vR 46] σ = some ((((n + 9) % 10 : Nat) : Int), σ) := by
  obtain ⟨d, rfl⟩ := ob1 (show 1 ≤ d by omega)
  have y1 := hy.1
  have a1 := y46_m1 hy
  rw [ce_167, sg_167_0]
  (try simp (disch := omega) only [e, wr_id2])
  repeat (first | refine step_t trivial ?_ | refine step_t (by omega) ?_ | refine step_f (by omega) ?_)
  refine step_i (fun g => ?_) (fun g => ?_)
  · repeat (first | refine step_t trivial ?_ | refine step_t (by omega) ?_ | refine step_f (by omega) ?_)
    congr 2
    omega
  · congr 2
    omega
theorem c165 (S : AS) : cOp 165 [] S (undoA S) := by
  intro d σ h hy ht hc
  obtain ⟨d, rfl⟩ := ob1 (show 1 ≤ d by omega)
  have y1 := hy.1
  have a1 := y32_m1 hy
  have a2 := y32_2 hy
  have a3 := y46_m1 hy
  have a4 := y46_1 hy
  have a5 := y78_m1 hy
  have a6 := y78_m2 hy
  have a7 := y32_0 hy
  have a8 := y33_m1 hy
  have a9 := y33_m2 hy
  have b1 := y46_0 hy
  have b2 := y47_m1 hy
  have b3 := y47_m2 hy
  have dp := hc.dp
  have dl := hc.dl
  obtain ⟨n, n1, n2, n3⟩ := hc.nx
  unfold undoA
  cases hh : S.hs with
  | nil =>
    rw [hh] at dp
    refine ⟨σ, ?_, FC.rf hy, hc⟩
    rw [ce_165, sg_165_0]
    (try simp (disch := omega) only [a2, dp, wr_id2])
    repeat (first | refine step_t trivial ?_ | refine step_t (by omega) ?_ | refine step_f (by omega) ?_)
    rfl
  | cons q hs' =>
    obtain ⟨s, o⟩ := q
    rw [hh] at dp dl
    simp only [List.length_cons] at dp dl
    obtain ⟨k1, k2, k3⟩ := n3 0 s o (by rw [hh]; rfl)
    have e10 : (n + 9 - 0) % 10 = (n + 9) % 10 := by omega
    rw [e10] at k2 k3
    have hr : (n + 9) % 10 < 10 := Nat.mod_lt _ (by omega)
    generalize hre : (n + 9) % 10 = r at *
    have e33 := y33_s hy k1
    obtain ⟨x1, x2, x3, x4, -⟩ := yb_s hy k1
    have hy1 : Lay (up σ 46 2 r) := hy.upf (by decide +kernel) (by decide)
    have hy2 : Lay (up (up σ 46 2 r) 46 3 (hs'.length : Nat)) := hy1.upf (by decide +kernel) (by decide)
    have hsm : ∀ a j, a ≠ 46 → (up (up σ 46 2 r) 46 3 (hs'.length : Nat)) a j = σ a j := fun a j h1 => by rw [up_n1 _ _ _ _ h1, up_n1 _ _ _ _ h1]
    have hns : σ (-1) 0 ≤ (up (up σ 46 2 r) 46 3 (hs'.length : Nat)) (-1) 0 := by rw [hsm _ _ (by omega)]; exact Int.le_refl _
    have hc2 : CR (up (up σ 46 2 r) 46 3 (hs'.length : Nat)) (mkA S.sl hs' S.tp S.fk S.fp S.ot) := by
      have hrow : ∀ (b : Int) (o : Option LB), rowO σ b o → (b + 2 < 46 ∨ 46 < b) → rowO (up (up σ 46 2 r) 46 3 (hs'.length : Nat)) b o := fun b o hr h1 => rowO_same hr hns (fun a j q1 q2 => hsm _ _ (by omega))
      refine ⟨hrow _ _ hc.s0 (by omega), hrow _ _ hc.s1 (by omega), hrow _ _ hc.s2 (by omega), ⟨r, hr, ?_, fun i s' o' hi => ?_⟩, ?_, by show hs'.length ≤ 10; omega, byR_same hc.tp (fun j => hsm _ _ (by omega)) (fun j => hsm _ _ (by omega)), ?_, ?_, byR_same hc.ot (fun j => hsm _ _ (by omega)) (fun j => hsm _ _ (by omega))⟩
      · rw [up_n2 _ _ _ _ (by omega), up_s]
      · obtain ⟨t1, t2, t3⟩ := n3 (i + 1) s' o' (by rw [hh]; simpa using hi)
        have e : (r + 9 - i) % 10 = (n + 9 - (i + 1)) % 10 := by
          have hi2 : i < hs'.length := by
            rcases Nat.lt_or_ge i hs'.length with z | z
            · exact z
            · have hi : hs'[i]? = some (s', o') := hi
              rw [List.getElem?_eq_none z] at hi; cases hi
          omega
        have e3 : (n + 9 - (i + 1)) % 10 < 10 := by omega
        rw [e]
        refine ⟨t1, ?_, ?_⟩
        · rw [hsm _ _ (by omega)]; exact t2
        · exact hrow _ _ t3 (by omega)
      · rw [up_s]
      · rw [hsm _ _ (by omega)]; exact hc.fk
      · rw [hsm _ _ (by omega)]; exact hc.fp
    obtain ⟨L, r1, r2, r3, r4⟩ := rowO_same k3 hns (fun a j q1 q2 => hsm _ _ (by omega))
    obtain ⟨σ2, j1, j2, j3, j4⟩ := s35 (d := d - 1) (by omega) (σ := up (up σ 46 2 r) 46 3 (hs'.length : Nat)) (b := 34 + 3 * (s : Int)) (c := 48 + 3 * (r : Int)) (yb_s hy2 k1) r1 r2 (by omega) (by rw [r3]; exact b2i_01 _)
    have hy3 := hy2.ag3 j2 j3.1 (okB_s s k1)
    have hc3 := hc2.set k1 (o := o) j2 ⟨L, j3, r2, by rw [j4]; exact r3, r4⟩
    have z1 := hy3.1
    have z2 := y32_m1 hy3
    have z3 := y32_2 hy3
    have z4 := y46_m1 hy3
    have z5 : σ2 46 3 = (hs'.length : Nat) := by rw [j2 _ _ (by omega), up_s]
    refine ⟨σ2, ?_, ⟨fun a j q => ?_, hy3⟩, hc3⟩
    · obtain ⟨d, rfl⟩ := ob1 (show 1 ≤ d by omega)
      rw [ce_165, sg_165_0]
      (try simp (disch := omega) only [a2, dp, wr_id2])
      repeat (first | refine step_t trivial ?_ | refine step_t (by omega) ?_ | refine step_f (by omega) ?_)
      have e166 : clR PG0 MX (d + 1) 166 [vR 46] σ = some ((s : Int), σ) := by
        have e167 := s167 (d := d) (by omega) hy n1 n2
        rw [hre] at e167
        rw [ce_166, sg_166_0]
        repeat (first | refine step_t trivial ?_ | refine step_t (by omega) ?_ | refine step_f (by omega) ?_)
        refine step_c (e167) ?_
        try dsimp only
        (try simp (disch := omega) only [a4, wr_id2])
        repeat (first | refine step_t trivial ?_ | refine step_t (by omega) ?_ | refine step_f (by omega) ?_)
        rw [k2]
      refine step_c (e166) ?_
      try dsimp only
      refine step_c (s16 (by omega) σ (show i32 (s : Int) from ⟨by omega, by omega⟩)) ?_
      try dsimp only
      rw [decide_eq_true (show 0 ≤ (s : Int) ∧ (s : Int) < 3 by omega)]
      (try simp (disch := omega) only [wr_b2i, wr_id2])
      refine step_f (show ¬ (b2i true = 0) by decide) ?_
      (try simp (disch := omega) only [a2, a7, e33, wr_id2])
      repeat (first | refine step_t trivial ?_ | refine step_t (by omega) ?_ | refine step_f (by omega) ?_)
      have e168 : clR PG0 MX (d + 1) 168 [vR 46, vR (34 + 3 * (s : Int))] σ = some (0, σ2) := by
        have e167 := s167 (d := d) (by omega) hy n1 n2
        rw [hre] at e167
        have t1 := hy1.1
        have t2 := y46_m1 hy1
        have t3 := hy2.1
        have t4 := y46_m1 hy2
        have t5 := y46_0 hy2
        have t6 := y47_m1 hy2
        have t7 := y47_m2 hy2
        have t8 := y47_i hy2 hr
        have t9 : (up σ 46 2 (r : Int)) 46 3 = (hs'.length : Nat) + 1 := by rw [up_n2 _ _ _ _ (by omega)]; exact dp
        have t10 : (up (up σ 46 2 (r : Int)) 46 3 (hs'.length : Nat)) 46 2 = r := by rw [up_n2 _ _ _ _ (by omega), up_s]
        obtain ⟨p1, p2, p3, p4, -⟩ := yb_s hy2 k1
        rw [ce_168, sg_168_0]
        (try simp (disch := omega) only [dp, wr_id2])
        repeat (first | refine step_t trivial ?_ | refine step_t (by omega) ?_ | refine step_f (by omega) ?_)
        refine step_c (e167) ?_
        try dsimp only
        have t11 : ((hs'.length : Nat) : Int) + 1 - 1 = (hs'.length : Nat) := by omega
        (try simp (disch := omega) only [t9, t11, t5, t10, t8, wr_id2])
        repeat (first | refine step_t trivial ?_ | refine step_t (by omega) ?_ | refine step_f (by omega) ?_)
        refine step_c (j1) ?_
        try dsimp only
      refine step_c (e168) ?_
      try dsimp only
      (try simp (disch := omega) only [z3, z5, wr_id2])
      repeat (first | refine step_t trivial ?_ | refine step_t (by omega) ?_ | refine step_f (by omega) ?_)
      rfl
    · rw [j2 _ _ (by omega), hsm _ _ (by omega)]
/-- drops -/
def dropA (S : AS) (s : Int) : Int × AS := if 0 ≤ s ∧ s < 3 then (if (S.sl s.toNat).isSome = true then (1, actS S s.toNat none) else (0, S)) else (-2, S)
theorem c164 (S : AS) {s : Int} (hs : i32 s) : cOp 164 [vI s] S (dropA S s) := by
  intro d σ h hy ht hc
  obtain ⟨d, rfl⟩ := ob1 (show 1 ≤ d by omega)
  have h1 := hs.1
  have h2 := hs.2
  have y1 := hy.1
  have a1 := y32_m1 hy
  have a2 := y32_0 hy
  have a3 := y33_m1 hy
  have a4 := y33_m2 hy
  have a5 := y32_2 hy
  have a6 := y46_m1 hy
  unfold dropA
  by_cases z : 0 ≤ s ∧ s < 3
  · rw [if_pos z]
    have e1 : ((s.toNat : Nat) : Int) = s := by omega
    have hs3 : s.toNat < 3 := by omega
    generalize s.toNat = n at *
    subst e1
    obtain ⟨L, r1, r2, r3, r4⟩ := hc.slot n hs3
    have e2 := y33_s hy (s := n) hs3
    obtain ⟨⟨m1, m2, m3, m4, m5, m6, m7, m8, m9⟩, f3, f4, f5, f6, fs, fw⟩ := id r1
    cases ho : (S.sl n).isSome with
    | false =>
      rw [ho] at r3
      refine ⟨σ, ?_, FC.rf hy, hc⟩
      rw [ce_164, sg_164_0]
      refine step_c (s16 (by omega) σ hs) ?_
      try dsimp only
      rw [decide_eq_true z, wr_b2i]
      refine step_t (show b2i true ≠ 0 by decide) ?_
      (try simp (disch := omega) only [a2, e2, r3, wr_b2i, wr_id2])
      repeat (first | refine step_t trivial ?_ | refine step_t (by omega) ?_ | refine step_f (by omega) ?_)
      refine step_f (show ¬ (b2i false ≠ 0) by decide) ?_
      rfl
    | true =>
      rw [ho] at r3
      obtain ⟨σ1, g1, g2, g3, g4⟩ := s34 (d := d) (by omega) hy hc hs3
      have z1 := g3.1
      obtain ⟨p1, p2, p3, p4, -⟩ := yb_s g3 hs3
      have hy2 : Lay (up σ1 (34 + 3 * (n : Int)) 2 0) := by
        rcases (show n = 0 ∨ n = 1 ∨ n = 2 by omega) with e | e | e <;> subst e
        · exact g3.upf (by decide +kernel) (by decide)
        · exact g3.upf (by decide +kernel) (by decide)
        · exact g3.upf (by decide +kernel) (by decide)
      have hag : ag3 σ1 (up σ1 (34 + 3 * (n : Int)) 2 0) (34 + 3 * (n : Int)) := fun a j q => up_n1 _ _ _ _ (by omega)
      obtain ⟨L1, q1, q2, q3, q4⟩ := g4.slot n hs3
      have hrow : rowO (up σ1 (34 + 3 * (n : Int)) 2 0) (34 + 3 * (n : Int)) none := by
        refine ⟨L1, ?_, q2, up_s _ _ _ _, fun M e => by cases e⟩
        obtain ⟨-, w3, w4, w5, w6, ws, ww⟩ := q1
        refine ⟨yb_s hy2 hs3, ?_, ?_, ?_, ?_, fun i x hx => ?_, fun i hi => ?_⟩
        · rw [up_n2 _ _ _ _ (by omega)]; exact w3
        · rw [up_n2 _ _ _ _ (by omega)]; exact w4
        · rw [up_n2 _ _ _ _ (by omega)]; exact w5
        · rw [up_n2 _ _ _ _ (by omega)]; exact w6
        · rw [up_n1 _ _ _ _ (by omega)]; exact ws i x hx
        · rw [up_n1 _ _ _ _ (by omega)]; exact ww i hi
      have hc2 := g4.set hs3 hag hrow
      refine ⟨up σ1 (34 + 3 * (n : Int)) 2 0, ?_, ⟨fun a j q => ?_, hy2⟩, hc2⟩
      · rw [ce_164, sg_164_0]
        refine step_c (s16 (by omega) σ hs) ?_
        try dsimp only
        rw [decide_eq_true z, wr_b2i]
        refine step_t (show b2i true ≠ 0 by decide) ?_
        (try simp (disch := omega) only [a2, e2, r3, wr_b2i, wr_id2])
        repeat (first | refine step_t trivial ?_ | refine step_t (by omega) ?_ | refine step_f (by omega) ?_)
        refine step_t (show b2i true ≠ 0 by decide) ?_
        (try simp (disch := omega) only [a2, e2, a5, wr_id2])
        repeat (first | refine step_t trivial ?_ | refine step_t (by omega) ?_ | refine step_f (by omega) ?_)
        refine step_c (g1) ?_
        try dsimp only
        repeat (first | refine step_t trivial ?_ | refine step_t (by omega) ?_ | refine step_f (by omega) ?_)
        rfl
      · rw [up_n1 _ _ _ _ (by omega), g2 _ _ (by omega)]
  · rw [if_neg z]
    refine ⟨σ, ?_, FC.rf hy, hc⟩
    rw [ce_164, sg_164_0]
    refine step_c (s16 (by omega) σ hs) ?_
    try dsimp only
    rw [decide_eq_false z, wr_b2i]
    refine step_f (show ¬ (b2i false ≠ 0) by decide) ?_
    rfl
/-- end -/
def endA (S : AS) (n : Int) : Int × AS := if 0 ≤ n ∧ n ≤ S.tp.length then (n, (mkA S.sl S.hs (S.tp.take n.toNat) S.fk S.fp S.ot)) else (-1, S)
theorem c14 (S : AS) {n : Int} (hn : i32 n) : cOp 14 [vI n] S (endA S n) := by
  intro d σ h hy ht hc
  obtain ⟨d, rfl⟩ := ob1 (show 1 ≤ d by omega)
  have h1 := hn.1
  have h2 := hn.2
  have y1 := hy.1
  have a1 := y32_m1 hy
  have a2 := y32_3 hy
  have a3 := y79_m1 hy
  have a4 := y79_0 hy
  have a5 := y80_m1 hy
  obtain ⟨l1, l2, l3⟩ := hc.tp
  unfold endA
  by_cases z : 0 ≤ n ∧ n ≤ S.tp.length
  · rw [if_pos z]
    have hy1 : Lay (up σ 80 1 n) := hy.upf (by decide +kernel) (by decide)
    have hsm : ∀ a j, a ≠ 80 → (up σ 80 1 n) a j = σ a j := fun a j h1 => up_n1 _ _ _ _ h1
    have hns : σ (-1) 0 ≤ (up σ 80 1 n) (-1) 0 := by rw [hsm _ _ (by omega)]; exact Int.le_refl _
    obtain ⟨m, n1, n2, n3⟩ := hc.nx
    refine ⟨up σ 80 1 n, ?_, ⟨fun a j q => hsm _ _ (by omega), hy1⟩, ⟨rowO_same hc.s0 hns (fun a j q1 q2 => hsm _ _ (by omega)), rowO_same hc.s1 hns (fun a j q1 q2 => hsm _ _ (by omega)), rowO_same hc.s2 hns (fun a j q1 q2 => hsm _ _ (by omega)), ⟨m, n1, ?_, fun i s o hi => ?_⟩, ?_, hc.dl, ⟨?_, ?_, fun i x hx => ?_⟩, ?_, ?_, byR_same hc.ot (fun j => hsm _ _ (by omega)) (fun j => hsm _ _ (by omega))⟩⟩
    · rw [ce_14, sg_14_0]
      (try simp (disch := omega) only [a2, a4, l1, wr_id2])
      repeat (first | refine step_t trivial ?_ | refine step_t (by omega) ?_ | refine step_f (by omega) ?_)
      rfl
    · rw [hsm _ _ (by omega)]; exact n2
    · obtain ⟨t1, t2, t3⟩ := n3 i s o hi
      exact ⟨t1, by rw [hsm _ _ (by omega)]; exact t2, rowO_same t3 hns (fun a j q1 q2 => hsm _ _ (by omega))⟩
    · rw [hsm _ _ (by omega)]; exact hc.dp
    · rw [up_s, List.length_take]; omega
    · rw [List.length_take]; omega
    · rw [hsm _ _ (by omega)]
      refine l3 i x ?_
      by_cases z2 : i < n.toNat
      · rw [List.getElem?_take_of_lt z2] at hx; exact hx
      · rw [List.getElem?_eq_none (by rw [List.length_take]; omega)] at hx; cases hx
    · rw [hsm _ _ (by omega)]; exact hc.fk
    · rw [hsm _ _ (by omega)]; exact hc.fp
  · rw [if_neg z]
    refine ⟨σ, ?_, FC.rf hy, hc⟩
    rw [ce_14, sg_14_0]
    (try simp (disch := omega) only [a2, a4, l1, wr_id2])
    refine step_i (fun g => ?_) (fun g => ?_)
    · rfl
    · repeat (first | refine step_t trivial ?_ | refine step_t (by omega) ?_ | refine step_f (by omega) ?_)
      rfl
/-- fault -/
def fltA (S : AS) (w : Int) : Int := if w = 0 then S.fk else if w = 1 then S.fp else -1
theorem c37 (S : AS) {w : Int} (hw : i32 w) : cOp 37 [vI w] S (fltA S w, S) := by
  intro d σ h hy ht hc
  obtain ⟨d, rfl⟩ := ob1 (show 1 ≤ d by omega)
  have h1 := hw.1
  have h2 := hw.2
  have y1 := hy.1
  have a1 := y32_m1 hy
  have a2 := y32_3 hy
  have a3 := y79_m1 hy
  have f1 := hc.fk
  have f2 := hc.fp
  refine ⟨σ, ?_, FC.rf hy, hc⟩
  rw [ce_37, sg_37_0]
  unfold fltA
  (try simp (disch := omega) only [a2, f1, f2, wr_id2])
  refine step_i (fun g => ?_) (fun g => ?_)
  · repeat (first | refine step_t trivial ?_ | refine step_t (by omega) ?_ | refine step_f (by omega) ?_)
    rw [if_pos g]
  · rw [if_neg g]
    refine step_i (fun g2 => ?_) (fun g2 => ?_)
    · repeat (first | refine step_t trivial ?_ | refine step_t (by omega) ?_ | refine step_f (by omega) ?_)
      rw [if_pos g2]
    · rw [if_neg g2]
/-- count -/
def cntA (S : AS) (w : Int) : Int := if w = 0 then (sbF S 3 0 0 : Nat) else if w = 1 then (S.hs.length : Nat) else if w = 2 then (S.tp.length : Nat) else if w = 3 then (S.ot.length : Nat) else -1
theorem c38 (S : AS) {w : Int} (hw : i32 w) : cOp 38 [vI w] S (cntA S w, S) := by
  intro d σ h hy ht hc
  obtain ⟨d, rfl⟩ := ob1 (show 1 ≤ d by omega)
  have h1 := hw.1
  have h2 := hw.2
  have y1 := hy.1
  have a1 := y32_m1 hy
  have a2 := y32_2 hy
  have a3 := y46_m1 hy
  have a4 := y32_3 hy
  have a5 := y79_m1 hy
  have a6 := y79_0 hy
  have a7 := y80_m1 hy
  have a8 := y32_4 hy
  have a9 := y82_m1 hy
  have f1 := hc.dp
  have f2 := hc.tp.1
  have f3 := hc.ot.1
  refine ⟨σ, ?_, FC.rf hy, hc⟩
  rw [ce_38, sg_38_0]
  unfold cntA
  (try simp (disch := omega) only [a2, f1, a4, a6, f2, a8, f3, wr_id2])
  refine step_i (fun g => ?_) (fun g => ?_)
  · repeat (first | refine step_t trivial ?_ | refine step_t (by omega) ?_ | refine step_f (by omega) ?_)
    refine step_c (s39 (by omega) hy hc) ?_
    try dsimp only
    rw [if_pos g]
  · rw [if_neg g]
    refine step_i (fun g2 => ?_) (fun g2 => ?_)
    · repeat (first | refine step_t trivial ?_ | refine step_t (by omega) ?_ | refine step_f (by omega) ?_)
      rw [if_pos g2]
    · rw [if_neg g2]
      refine step_i (fun g3 => ?_) (fun g3 => ?_)
      · repeat (first | refine step_t trivial ?_ | refine step_t (by omega) ?_ | refine step_f (by omega) ?_)
        rw [if_pos g3]
      · rw [if_neg g3]
        refine step_i (fun g4 => ?_) (fun g4 => ?_)
        · repeat (first | refine step_t trivial ?_ | refine step_t (by omega) ?_ | refine step_f (by omega) ?_)
          rw [if_pos g4]
        · rw [if_neg g4]
/-- octet -/
def octA (S : AS) (i : Int) : Int := if 0 ≤ i then (match S.ot[i.toNat]? with | some y => (y : Int) | none => -1) else -1
