-- @after 30 31 35 40 41 42
/-- putText -/
def txtH (L : LB) : List Nat := [98, 105, 116, 115, 32] ++ dgs (lN0 L) ++ [32, 108, 101, 118, 101, 108, 115, 32] ++ dgs (lA L) ++ [32, 116, 111, 32] ++ dgs (lB L) ++ [32, 115, 116, 97, 114, 116, 32] ++ dgs (lS L) ++ [58]
def txtL (L : LB) : List Nat := txtH L ++ (lT L).map (48 + ·) ++ [59]
theorem bw.blr {σ0 σ : HP} {l : List Nat} {b : Int} {L : LB} (hb : bwr σ0 σ 82 2400 l) (hl : blr σ0 b L) (h : b + 2 < 82) : blr σ b L := blr_same hl (by rw [hb.1 _ _ (by omega)]; exact Int.le_refl _) (fun a j q1 q2 => hb.1 _ _ (by omega))
theorem lS_256 {L : LB} (hw : wf0 L) : lS L < 256 := Nat.lt_of_lt_of_le hw.2.2.2.1 (pow8 hw.1)
theorem wd_0 (L : LB) : wd L 0 = lS L := by show wdL _ _ 0 = _; cases lT L <;> rfl
theorem txtH_len {L : LB} : (txtH L).length ≤ 37 := by
  have h1 := dgs_len (lN0 L)
  have h2 := dgs_len (lA L)
  have h3 := dgs_len (lB L)
  have h4 := dgs_len (lS L)
  unfold txtH
  simp only [List.length_append, List.length_cons, List.length_nil]
  omega
theorem s170l {d : Nat} (h : 1 ≤ d) {σ0 : HP} {b : Int} {L : LB} (hb0 : blr σ0 b L) (hw : wf0 L) (h82 : b + 2 < 82) : ∀ (m i : Nat) (σ : HP) (l : List Nat), i + m = (lT L).length → bwr σ0 σ 82 2400 l → l.length + m + 1 ≤ 2400 → ∃ σ', rsP PG0 MX d 170 66 [vR 82, vR b, vI i] [] σ = some (0, σ') ∧ bwr σ0 σ' 82 2400 (l ++ ((lT L).drop i).map (48 + ·) ++ [59]) := by
  have hl := wf_len hw
  intro m
  induction m with
  | zero =>
    intro i σ l hi hb hr
    have hbl := bw.blr hb hb0 h82
    obtain ⟨⟨m1, m2, m3, m4, m5, m6, m7, m8, m9⟩, f3, f4, f5, f6, fs, fw⟩ := id hbl
    obtain ⟨-, ⟨n1, n2, n3, n4, -⟩, -⟩ := id hb
    obtain ⟨σ1, g1, g2⟩ := bw13 (d := d) (by omega) hb (by omega) (by omega) 59
    refine ⟨σ1, ?_, ?_⟩
    · rw [sg_170_66]
      (try simp (disch := omega) only [f6, wr_id2])
      repeat (first | refine step_t trivial ?_ | refine step_t (by omega) ?_ | refine step_f (by omega) ?_)
      refine step_c (g1) ?_
      try dsimp only
    · rw [List.drop_eq_nil_of_le (by omega), List.map_nil, List.append_nil]
      exact g2
  | succ m ih =>
    intro i σ l hi hb hr
    have hbl := bw.blr hb hb0 h82
    obtain ⟨⟨m1, m2, m3, m4, m5, m6, m7, m8, m9⟩, f3, f4, f5, f6, fs, fw⟩ := id hbl
    obtain ⟨x, x1, x2⟩ := st_at hbl (i := i) (by omega)
    have x3 := st_lt hw x1
    have h9 := hw.1
    obtain ⟨-, ⟨n1, n2, n3, n4, -⟩, -⟩ := id hb
    obtain ⟨σ1, g1, g2⟩ := bw13 (d := d) (by omega) hb (by omega) (by omega) ((48 + x : Nat) : Int)
    rw [byX_n (by omega)] at g2
    obtain ⟨σ2, j1, j2⟩ := ih (i + 1) σ1 _ (by omega) g2 (by rw [List.length_append]; show l.length + 1 + m + 1 ≤ 2400; omega)
    have e2 : (lT L).drop i = x :: (lT L).drop (i + 1) := by
      rw [List.drop_eq_getElem_cons (by omega)]
      have := List.getElem?_eq_getElem (l := lT L) (i := i) (by omega)
      rw [x1] at this
      rw [Option.some.inj this]
    refine ⟨σ2, ?_, by rw [e2, List.map_cons, show l ++ (48 + x) :: List.map (48 + ·) ((lT L).drop (i + 1)) = l ++ [48 + x] ++ List.map (48 + ·) ((lT L).drop (i + 1)) by simp]; exact j2⟩
    rw [sg_170_66]
    (try simp (disch := omega) only [f6, m4, x2, wr_id2])
    repeat (first | refine step_t trivial ?_ | refine step_t (by omega) ?_ | refine step_f (by omega) ?_)
    refine step_c (q := (0, σ1)) ?_ j1
    rw [← g1, Int.natCast_add]; rfl
theorem s170 {d : Nat} (h : 9 ≤ d) {σ0 σ : HP} {b : Int} {L : LB} (ht0 : Txt σ0) (hb0 : blr σ0 b L) (hw : wf0 L) (h82 : b + 2 < 82) (hb : bwr σ0 σ 82 2400 []) : ∃ σ', clR PG0 MX d 170 [vR 82, vR b] σ = some (0, σ') ∧ bwr σ0 σ' 82 2400 (txtL L) := by
  obtain ⟨d, rfl⟩ := ob1 (show 1 ≤ d by omega)
  have hl := wf_len hw
  have hA := hw.2.1
  have hB := hw.2.2.1
  have hN := hw.1
  have hS := lS_256 hw
  obtain ⟨σ1, a1, b1⟩ := s171 (d := d) (by omega) (i := 6) rfl (ht0.bw hb) hb (by decide)
  obtain ⟨σ2, a2, b2⟩ := bw172 (d := d) (by omega) b1 (n := lN0 L) (by omega) (by simp)
  have dN := dgs_len (lN0 L)
  have dA := dgs_len (lA L)
  have dB := dgs_len (lB L)
  have dS := dgs_len (lS L)
  obtain ⟨σ3, a3, b3⟩ := s171 (d := d) (by omega) (i := 0) rfl (ht0.bw b2) b2 (by simp only [List.length_append, List.length_cons, List.length_nil]; omega)
  obtain ⟨σ4, a4, b4⟩ := bw172 (d := d) (by omega) b3 (n := lA L) (by omega) (by simp only [List.length_append, List.length_cons, List.length_nil]; omega)
  obtain ⟨σ5, a5, b5⟩ := s171 (d := d) (by omega) (i := 2) rfl (ht0.bw b4) b4 (by simp only [List.length_append, List.length_cons, List.length_nil]; omega)
  obtain ⟨σ6, a6, b6⟩ := bw172 (d := d) (by omega) b5 (n := lB L) (by omega) (by simp only [List.length_append, List.length_cons, List.length_nil]; omega)
  obtain ⟨σ7, a7, b7⟩ := s171 (d := d) (by omega) (i := 1) rfl (ht0.bw b6) b6 (by simp only [List.length_append, List.length_cons, List.length_nil]; omega)
  obtain ⟨σ8, a8, b8⟩ := bw172 (d := d) (by omega) b7 (n := lS L) (by omega) (by simp only [List.length_append, List.length_cons, List.length_nil]; omega)
  obtain ⟨σ9, a9, b9⟩ := bw13 (d := d) (by omega) b8 (by omega) (by simp only [List.length_append, List.length_cons, List.length_nil]; omega) 58
  have e58 : byX 58 = 58 := byX_n (n := 58) (by omega)
  rw [e58] at b9
  obtain ⟨σ', k1, k2⟩ := s170l (d := d) (by omega) hb0 hw h82 (lT L).length 0 σ9 _ (by omega) b9 (by simp only [List.length_append, List.length_cons, List.length_nil]; omega)
  obtain ⟨-, ⟨n1, n2, n3, n4, -⟩, -⟩ := id hb
  obtain ⟨-, ⟨p1, p2, p3, p4, -⟩, -⟩ := id b1
  obtain ⟨-, ⟨q1, q2, q3, q4, -⟩, -⟩ := id b2
  obtain ⟨-, ⟨r1, r2, r3, r4, -⟩, -⟩ := id b3
  obtain ⟨-, ⟨t1, t2, t3, t4, -⟩, -⟩ := id b4
  obtain ⟨-, ⟨u1, u2, u3, u4, -⟩, -⟩ := id b5
  obtain ⟨-, ⟨v1, v2, v3, v4, -⟩, -⟩ := id b6
  obtain ⟨-, ⟨w1, w2, w3, w4, -⟩, -⟩ := id b7
  obtain ⟨-, ⟨x1, x2, x3, x4, -⟩, -⟩ := id b8
  have l1 := bw.blr b1 hb0 h82
  have l3 := bw.blr b3 hb0 h82
  have l5 := bw.blr b5 hb0 h82
  have l7 := bw.blr b7 hb0 h82
  refine ⟨σ', ?_, ?_⟩
  · obtain ⟨⟨c1, c2, c3, c4, c5, -⟩, c6, -⟩ := id l1
    obtain ⟨⟨d1, d2, d3, d4, d5, -⟩, d6, d7, -⟩ := id l3
    obtain ⟨⟨g1, g2, g3, g4, g5, -⟩, g6, g7, g8, -⟩ := id l5
    obtain ⟨⟨h1, h2, h3, h4, h5, h6, h7, h8, h9⟩, -, -, -, -, -, h10⟩ := id l7
    have h10 := h10 0 (Nat.zero_le _)
    rw [wd_0] at h10
    have h10 : σ7 (b + 2) 0 = (lS L : Nat) := h10
    rw [ce_170, sg_170_0]
    repeat (first | refine step_t trivial ?_ | refine step_t (by omega) ?_ | refine step_f (by omega) ?_)
    refine step_c (a1) ?_
    try dsimp only
    (try simp (disch := omega) only [c6, wr_id2])
    repeat (first | refine step_t trivial ?_ | refine step_t (by omega) ?_ | refine step_f (by omega) ?_)
    refine step_c (a2) ?_
    try dsimp only
    repeat (first | refine step_t trivial ?_ | refine step_t (by omega) ?_ | refine step_f (by omega) ?_)
    refine step_c (a3) ?_
    try dsimp only
    (try simp (disch := omega) only [d7, wr_id2])
    repeat (first | refine step_t trivial ?_ | refine step_t (by omega) ?_ | refine step_f (by omega) ?_)
    refine step_c (a4) ?_
    try dsimp only
    rw [sg_170_28]
    repeat (first | refine step_t trivial ?_ | refine step_t (by omega) ?_ | refine step_f (by omega) ?_)
    refine step_c (a5) ?_
    try dsimp only
    (try simp (disch := omega) only [g8, wr_id2])
    repeat (first | refine step_t trivial ?_ | refine step_t (by omega) ?_ | refine step_f (by omega) ?_)
    refine step_c (a6) ?_
    try dsimp only
    repeat (first | refine step_t trivial ?_ | refine step_t (by omega) ?_ | refine step_f (by omega) ?_)
    refine step_c (a7) ?_
    try dsimp only
    (try simp (disch := omega) only [h5, h10, wr_id2])
    repeat (first | refine step_t trivial ?_ | refine step_t (by omega) ?_ | refine step_f (by omega) ?_)
    refine step_c (a8) ?_
    try dsimp only
    rw [sg_170_58]
    repeat (first | refine step_t trivial ?_ | refine step_t (by omega) ?_ | refine step_f (by omega) ?_)
    refine step_c (a9) ?_
    try dsimp only
    exact k1
  · have e : txtL L = ([] ++ [98, 105, 116, 115, 32] ++ dgs (lN0 L) ++ [32, 108, 101, 118, 101, 108, 115, 32] ++ dgs (lA L) ++ [32, 116, 111, 32] ++ dgs (lB L) ++ [32, 115, 116, 97, 114, 116, 32] ++ dgs (lS L) ++ [58]) ++ ((lT L).drop 0).map (48 + ·) ++ [59] := by
      unfold txtL txtH
      rw [List.nil_append, List.drop_zero]
    rw [e]
    exact k2
/-- putWords -/
def bitL (L : LB) (i : Nat) : Nat → List Nat
  | 0 => []
  | k + 1 => (48 + btN (wd L i) k) :: bitL L i k
def wrdF (L : LB) : Nat → Nat → List Nat
  | 0, _ => []
  | m + 1, i => bitL L i (lN0 L) ++ [10] ++ wrdF L m (i + 1)
theorem bitL_len (L : LB) (i : Nat) : ∀ k, (bitL L i k).length = k := by
  intro k
  induction k with
  | zero => rfl
  | succ k ih => show (bitL L i k).length + 1 = k + 1; rw [ih]
theorem s173i {d : Nat} (h : 1 ≤ d) {σ0 : HP} {b : Int} {L : LB} (hb0 : blr σ0 b L) (hw : wf0 L) (h82 : b + 2 < 82) {i : Nat} (hi : i < shN L) : ∀ (k : Nat) (σ : HP) (l : List Nat), k ≤ 8 → bwr σ0 σ 82 2400 l → l.length + k + 1 ≤ 2400 → ∃ σ', rsP PG0 MX d 173 20 [vR 82, vR b, vI (shN L : Nat), vI i, vI ((k : Int) - 1)] [] σ = rsP PG0 MX d 173 7 [vR 82, vR b, vI (shN L : Nat), vI ((i + 1 : Nat) : Int), vI (-1)] [] σ' ∧ bwr σ0 σ' 82 2400 (l ++ (bitL L i k ++ [10])) := by
  have hl := wf_len hw
  have hs := shN_le L
  intro k
  induction k with
  | zero =>
    intro σ l hk hb hr
    obtain ⟨-, ⟨n1, n2, n3, n4, -⟩, -⟩ := id hb
    obtain ⟨σ1, g1, g2⟩ := bw13 (d := d) (by omega) hb (by omega) (by omega) 10
    refine ⟨σ1, ?_, g2⟩
    rw [sg_173_20]
    (try simp (disch := omega) only [wr_id2])
    repeat (first | refine step_t trivial ?_ | refine step_t (by omega) ?_ | refine step_f (by omega) ?_)
    refine step_c (g1) ?_
    try dsimp only
    rfl
  | succ k ih =>
    intro σ l hk hb hr
    have hbl := bw.blr hb hb0 h82
    obtain ⟨⟨m1, m2, m3, m4, m5, m6, m7, m8, m9⟩, f3, f4, f5, f6, fs, fw⟩ := id hbl
    have b1 : btN (wd L i) k < 2 := Nat.mod_lt _ (by omega)
    obtain ⟨-, ⟨n1, n2, n3, n4, -⟩, -⟩ := id hb
    obtain ⟨σ1, g1, g2⟩ := bw13 (d := d) (by omega) hb (by omega) (by omega) ((48 + btN (wd L i) k : Nat) : Int)
    rw [byX_n (by omega)] at g2
    obtain ⟨σ2, j1, j2⟩ := ih σ1 _ (by omega) g2 (by rw [List.length_append]; show l.length + 1 + k + 1 ≤ 2400; omega)
    refine ⟨σ2, ?_, ?_⟩
    · have ek : ((k + 1 : Nat) : Int) - 1 = (k : Int) := by omega
      rw [ek, sg_173_20]
      (try simp (disch := omega) only [wr_id2])
      repeat (first | refine step_t trivial ?_ | refine step_t (by omega) ?_ | refine step_f (by omega) ?_)
      refine step_c (s64 (d := d) h hbl hw (show i ≤ (lT L).length by omega) (show k < 32 by omega)) ?_
      try dsimp only
      repeat (first | refine step_t trivial ?_ | refine step_t (by omega) ?_ | refine step_f (by omega) ?_)
      refine step_c (q := (0, σ1)) ?_ ?_
      · rw [← g1, Int.natCast_add]; rfl
      · exact j1
    · have e : l ++ (bitL L i (k + 1) ++ [10]) = l ++ [48 + btN (wd L i) k] ++ (bitL L i k ++ [10]) := by
        show l ++ ((48 + btN (wd L i) k) :: bitL L i k ++ [10]) = _
        simp
      rw [e]
      exact j2
theorem s173l {d : Nat} (h : 1 ≤ d) {σ0 : HP} {b : Int} {L : LB} (hb0 : blr σ0 b L) (hw : wf0 L) (h82 : b + 2 < 82) : ∀ (m i : Nat) (σ : HP) (l : List Nat) (u : MV), i + m = shN L → bwr σ0 σ 82 2400 l → l.length + 9 * m ≤ 2400 → ∃ σ', rsP PG0 MX d 173 7 [vR 82, vR b, vI (shN L : Nat), vI i, u] [] σ = some (0, σ') ∧ bwr σ0 σ' 82 2400 (l ++ wrdF L m i) := by
  have hl := wf_len hw
  have hs := shN_le L
  have h9 := hw.1
  intro m
  induction m with
  | zero =>
    intro i σ l u hi hb hr
    refine ⟨σ, ?_, by show bwr σ0 σ 82 2400 (l ++ []); rw [List.append_nil]; exact hb⟩
    rw [sg_173_7]
    (try simp (disch := omega) only [wr_id2])
    repeat (first | refine step_t trivial ?_ | refine step_t (by omega) ?_ | refine step_f (by omega) ?_)
    rfl
  | succ m ih =>
    intro i σ l u hi hb hr
    have hbl := bw.blr hb hb0 h82
    obtain ⟨⟨m1, m2, m3, m4, m5, m6, m7, m8, m9⟩, f3, f4, f5, f6, fs, fw⟩ := id hbl
    obtain ⟨σ1, g1, g2⟩ := s173i (d := d) h hb0 hw h82 (i := i) (by omega) (lN0 L) σ l (by omega) hb (by omega)
    have hbL := bitL_len L i (lN0 L)
    obtain ⟨σ2, j1, j2⟩ := ih (i + 1) σ1 _ (vI (-1)) (by omega) g2 (by simp only [List.length_append, List.length_cons, List.length_nil, hbL]; omega)
    refine ⟨σ2, ?_, ?_⟩
    · rw [sg_173_7]
      (try simp (disch := omega) only [f3, wr_id2])
      repeat (first | refine step_t trivial ?_ | refine step_t (by omega) ?_ | refine step_f (by omega) ?_)
      exact g1.trans j1
    · show bwr σ0 σ2 82 2400 (l ++ (bitL L i (lN0 L) ++ [10] ++ wrdF L m (i + 1)))
      rw [← List.append_assoc]
      exact j2
theorem s173 {d : Nat} (h : 9 ≤ d) {σ0 σ : HP} {b : Int} {L : LB} (hb0 : blr σ0 b L) (hw : wf0 L) (h82 : b + 2 < 82) (hb : bwr σ0 σ 82 2400 []) : ∃ σ', clR PG0 MX d 173 [vR 82, vR b] σ = some (0, σ') ∧ bwr σ0 σ' 82 2400 (wrdF L (shN L) 0) := by
  obtain ⟨d, rfl⟩ := ob1 (show 1 ≤ d by omega)
  have hl := wf_len hw
  have hs := shN_le L
  obtain ⟨σ', k1, k2⟩ := s173l (d := d) (by omega) hb0 hw h82 (shN L) 0 σ [] vU (by omega) hb (by show 0 + _ ≤ _; omega)
  have hbl := bw.blr hb hb0 h82
  obtain ⟨⟨m1, m2, m3, m4, m5, m6, m7, m8, m9⟩, f3, f4, f5, f6, fs, fw⟩ := id hbl
  refine ⟨σ', ?_, k2⟩
  rw [ce_173, sg_173_0]
  repeat (first | refine step_t trivial ?_ | refine step_t (by omega) ?_ | refine step_f (by omega) ?_)
  refine step_c (s42 (by omega) hbl hw) ?_
  try dsimp only
  exact k1
/-- tell -/
def telA (S : AS) (s w : Int) : Int × AS := match gl S s with
  | none => (-2, S)
  | some L => if w = 0 then (((txtL L).length : Nat), (mkA S.sl S.hs S.tp S.fk S.fp (txtL L))) else if w = 1 then (((wrdF L (shN L) 0).length : Nat), (mkA S.sl S.hs S.tp S.fk S.fp (wrdF L (shN L) 0))) else (-2, S)
theorem lbA_n {S : AS} {s : Int} (e : gl S s = none) : lbA S s = 0 := by unfold lbA; rw [e]; rfl
theorem lbA_s {S : AS} {s : Int} {L : LB} (e : gl S s = some L) : lbA S s = 34 + 3 * s := by unfold lbA; rw [e]; rfl
theorem c169 (S : AS) {s w : Int} (hs : i32 s) (hw2 : i32 w) : cOp 169 [vI s, vI w] S (telA S s w) := by
  intro d σ h hy ht hc
  obtain ⟨d, rfl⟩ := ob1 (show 1 ≤ d by omega)
  have h1 := hw2.1
  have h2 := hw2.2
  have y1 := hy.1
  have a1 := y32_m1 hy
  have a2 := y32_4 hy
  have a3 := y82_m1 hy
  have e41 := s41 (d := d) (by omega) hy hc hs
  have e82 := s82 (d := d) (by omega) σ hw2
  unfold telA
  cases e : gl S s with
  | none =>
    rw [lbA_n e] at e41
    refine ⟨σ, ?_, FC.rf hy, hc⟩
    rw [ce_169, sg_169_0]
    repeat (first | refine step_t trivial ?_ | refine step_t (by omega) ?_ | refine step_f (by omega) ?_)
    refine step_c (e41) ?_
    try dsimp only
    repeat (first | refine step_t trivial ?_ | refine step_t (by omega) ?_ | refine step_f (by omega) ?_)
    rfl
  | some L =>
    rw [lbA_s e] at e41
    obtain ⟨g1, g2, g3, g4, g5⟩ := hc.got e
    have hy1 : Lay (up σ 82 1 0) := hy.upf (by decide +kernel) (by decide)
    have hb0 : bwr σ (up σ 82 1 0) 82 2400 [] := ⟨fun c j q => up_n1 _ _ _ _ (by omega), ym_82 hy1, up_s _ _ _ _, by decide, fun i x hx => by cases hx⟩
    have z1 := hy1.1
    have z2 := y32_m1 hy1
    have z3 := y32_4 hy1
    have z4 := y82_m1 hy1
    by_cases w0 : w = 0
    · obtain ⟨σ1, k1, k2⟩ := s170 (d := d) (by omega) ht g3 g4.1 (by omega) hb0
      have hy2 := k2.lay hy okY_82
      have u1 := hy2.1
      have u2 := y32_m1 hy2
      have u3 := y32_4 hy2
      have u4 := y82_m1 hy2
      have u5 := k2.2.2.1
      rw [decide_eq_true (by omega)] at e82
      dsimp only
      rw [if_pos w0]
      refine ⟨σ1, ?_, ⟨fun a j q => k2.1 a j (by omega), hy2⟩, hc.out k2⟩
      rw [ce_169, sg_169_0]
      repeat (first | refine step_t trivial ?_ | refine step_t (by omega) ?_ | refine step_f (by omega) ?_)
      refine step_c (e41) ?_
      try dsimp only
      repeat (first | refine step_t trivial ?_ | refine step_t (by omega) ?_ | refine step_f (by omega) ?_)
      refine step_c (e82) ?_
      try dsimp only
      rw [wr_b2i]
      refine step_t (show b2i true ≠ 0 by decide) ?_
      (try simp (disch := omega) only [a2, z3, wr_id2])
      repeat (first | refine step_t trivial ?_ | refine step_t (by omega) ?_ | refine step_f (by omega) ?_)
      refine step_c (k1) ?_
      try dsimp only
      (try simp (disch := omega) only [u3, u5, wr_id2])
      repeat (first | refine step_t trivial ?_ | refine step_t (by omega) ?_ | refine step_f (by omega) ?_)
      rfl
    · dsimp only
      rw [if_neg w0]
      by_cases w1 : w = 1
      · obtain ⟨σ1, k1, k2⟩ := s173 (d := d) (by omega) g3 g4.1 (by omega) hb0
        have hy2 := k2.lay hy okY_82
        have u1 := hy2.1
        have u2 := y32_m1 hy2
        have u3 := y32_4 hy2
        have u4 := y82_m1 hy2
        have u5 := k2.2.2.1
        rw [decide_eq_true (by omega)] at e82
        rw [if_pos w1]
        refine ⟨σ1, ?_, ⟨fun a j q => k2.1 a j (by omega), hy2⟩, hc.out k2⟩
        rw [ce_169, sg_169_0]
        repeat (first | refine step_t trivial ?_ | refine step_t (by omega) ?_ | refine step_f (by omega) ?_)
        refine step_c (e41) ?_
        try dsimp only
        repeat (first | refine step_t trivial ?_ | refine step_t (by omega) ?_ | refine step_f (by omega) ?_)
        refine step_c (e82) ?_
        try dsimp only
        rw [wr_b2i]
        refine step_t (show b2i true ≠ 0 by decide) ?_
        (try simp (disch := omega) only [a2, z3, wr_id2])
        repeat (first | refine step_t trivial ?_ | refine step_t (by omega) ?_ | refine step_f (by omega) ?_)
        refine step_c (k1) ?_
        try dsimp only
        (try simp (disch := omega) only [u3, u5, wr_id2])
        repeat (first | refine step_t trivial ?_ | refine step_t (by omega) ?_ | refine step_f (by omega) ?_)
        rfl
      · rw [if_neg w1]
        rw [decide_eq_false (by omega)] at e82
        refine ⟨σ, ?_, FC.rf hy, hc⟩
        rw [ce_169, sg_169_0]
        repeat (first | refine step_t trivial ?_ | refine step_t (by omega) ?_ | refine step_f (by omega) ?_)
        refine step_c (e41) ?_
        try dsimp only
        repeat (first | refine step_t trivial ?_ | refine step_t (by omega) ?_ | refine step_f (by omega) ?_)
        refine step_c (e82) ?_
        try dsimp only
        rw [wr_b2i]
        refine step_f (show ¬ (b2i false ≠ 0) by decide) ?_
        rfl
