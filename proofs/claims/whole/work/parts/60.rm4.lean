/-- tell -/
theorem dgs_1 {x : Nat} (h : x < 10) : dgs x = [48 + x] := by
  unfold dgs
  rw [if_neg (by omega), if_neg (by omega), Nat.mod_eq_of_lt h]
  rfl
theorem s282l {d : Nat} (h : 7 ≤ d) {σ0 : HP} (ht0 : Txt σ0) {n : Nat} (hn : n < 3) {L : LB} (hr0 : slR σ0 n L) (hw : wf0 L) : ∀ (m i : Nat) (σ : HP) (l : List Nat) (u2 u4 : MV), i + m = (lT L).length → OW σ0 σ l → l.length + m + 3 ≤ 2400 → ∃ σ', rsP PG0 MX d 282 106 [vR 101, vI n, u2, vI i, u4] [] σ = some ((((l ++ ((lT L).drop i).map (48 + ·) ++ [59]).length : Nat) : Int), σ') ∧ OW σ0 σ' (l ++ ((lT L).drop i).map (48 + ·) ++ [59]) := by
  have hl := wf_len hw
  have h9 := hw.1
  intro m
  induction m with
  | zero =>
    intro i σ l u2 u4 hi hO hlen
    have hy := hO.1.2
    have y1 := hy.1; have k101 := y101_m1 hy
    obtain ⟨σ1, k1, O1⟩ := ow_t (d := d) h ht0 (i := 4) rfl hO (by show l.length + 1 ≤ 2400; omega)
    have hy1 := O1.1.2
    have y1b := hy1.1; have k101b := y101_m1 hy1
    have e1 := O1.2.1
    have k1 : clR PG0 MX d 283 [vR 101, vR 6] σ = some (0, σ1) := k1
    have ed : l ++ ((lT L).drop i).map (48 + ·) ++ [59] = l ++ [59] := by rw [List.drop_eq_nil_of_le (by omega), List.map_nil, List.append_nil]
    rw [ed]
    refine ⟨σ1, ?_, O1⟩
    rw [sg_282_106]
    repeat (first | ((with_reducible refine step_t ?_ ?_); with_reducible exact True.intro) | ((with_reducible refine step_t ?_ ?_); omega) | ((with_reducible refine step_f ?_ ?_); omega))
    refine step_c (s204 (by omega) hy hn (ow_slr hO hr0)) ?_
    try dsimp only
    (try simp (disch := omega) only [wr_id2])
    repeat (first | ((with_reducible refine step_t ?_ ?_); with_reducible exact True.intro) | ((with_reducible refine step_t ?_ ?_); omega) | ((with_reducible refine step_f ?_ ?_); omega))
    refine step_c (k1) ?_
    try dsimp only
    (try simp (disch := omega) only [e1, wr_id2])
    repeat (first | ((with_reducible refine step_t ?_ ?_); with_reducible exact True.intro) | ((with_reducible refine step_t ?_ ?_); omega) | ((with_reducible refine step_f ?_ ?_); omega))
    rfl
  | succ m ih =>
    intro i σ l u2 u4 hi hO hlen
    have hy := hO.1.2
    have y1 := hy.1; have k101 := y101_m1 hy
    obtain ⟨x, hx⟩ := st_get (L := L) (i := i) (by omega)
    have hxN := st_lt hw hx
    obtain ⟨σ1, k1, O1⟩ := ow_n (d := d) (by omega) hO (by omega) (n := x) (by omega)
    rw [dgs_1 (by omega)] at O1
    obtain ⟨σ2, j1, O2⟩ := ih (i + 1) σ1 _ vU vU (by omega) O1 (by rw [List.length_append]; show l.length + 1 + m + 3 ≤ 2400; omega)
    have e2 : (lT L).drop i = x :: (lT L).drop (i + 1) := by
      rw [List.drop_eq_getElem_cons (by omega)]
      have := List.getElem?_eq_getElem (l := lT L) (i := i) (by omega)
      rw [hx] at this
      rw [Option.some.inj this]
    have ed : l ++ ((lT L).drop i).map (48 + ·) ++ [59] = l ++ [48 + x] ++ ((lT L).drop (i + 1)).map (48 + ·) ++ [59] := by
      rw [e2, List.map_cons]
      simp only [List.append_assoc, List.cons_append, List.nil_append]
    rw [ed]
    refine ⟨σ2, ?_, O2⟩
    rw [sg_282_106]
    repeat (first | ((with_reducible refine step_t ?_ ?_); with_reducible exact True.intro) | ((with_reducible refine step_t ?_ ?_); omega) | ((with_reducible refine step_f ?_ ?_); omega))
    refine step_c (s204 (by omega) hy hn (ow_slr hO hr0)) ?_
    try dsimp only
    (try simp (disch := omega) only [wr_id2])
    repeat (first | ((with_reducible refine step_t ?_ ?_); with_reducible exact True.intro) | ((with_reducible refine step_t ?_ ?_); omega) | ((with_reducible refine step_f ?_ ?_); omega))
    refine step_c (s205 (by omega) hy hn (ow_slr hO hr0) hw hx) ?_
    try dsimp only
    repeat (first | ((with_reducible refine step_t ?_ ?_); with_reducible exact True.intro) | ((with_reducible refine step_t ?_ ?_); omega) | ((with_reducible refine step_f ?_ ?_); omega))
    refine step_c (k1) ?_
    try dsimp only
    exact j1
theorem s282i {d : Nat} (h : 3 ≤ d) {σ0 : HP} {n : Nat} {L : LB} (hq0 : wdR σ0 L) (hw : wf0 L) {i : Nat} (hi : i < shN L) : ∀ (k : Nat) (σ : HP) (l : List Nat), k ≤ 8 → OW σ0 σ l → l.length + k + 3 ≤ 2400 → ∃ σ', rsP PG0 MX d 282 167 [vR 101, vI n, vU, vI i, vI ((k : Int) - 1)] [] σ = rsP PG0 MX d 282 150 [vR 101, vI n, vU, vI ((i + 1 : Nat) : Int), vI (-1)] [] σ' ∧ OW σ0 σ' (l ++ (bitL L i k ++ [10])) := by
  have hl := wf_len hw
  have hs := shN_le L
  intro k
  induction k with
  | zero =>
    intro σ l hk hO hlen
    have hy := hO.1.2
    have y1 := hy.1; have k101 := y101_m1 hy; have p114 := y101_27 hy; have k114 := y114_m1 hy; have l114 := y114_m2 hy
    have m1 := hO.2.1
    have O1 := ow_up hO (by omega) (v := 10) (by omega)
    have hy1 : Lay (up σ 114 (l.length : Nat) 10) := hy.upd okr_114 (by omega) (by omega)
    have y1b := hy1.1; have k101b := y101_m1 hy1
    have e3 := ow_at hO (by omega) 10
    refine ⟨_, ?_, O1⟩
    rw [sg_282_167]
    (try simp (disch := omega) only [m1, p114, e3, wr_id2])
    repeat (first | ((with_reducible refine step_t ?_ ?_); with_reducible exact True.intro) | ((with_reducible refine step_t ?_ ?_); omega) | ((with_reducible refine step_f ?_ ?_); omega))
    rfl
  | succ k ih =>
    intro σ l hk hO hlen
    have hy := hO.1.2
    have y1 := hy.1; have k101 := y101_m1 hy; have p107 := y101_15 hy; have k107 := y107_m1 hy; have l107 := y107_m2 hy
    have hq := ow_wdr hO hq0
    have w1 := wd_256 hw i
    have e1 := hq.1 i (by omega)
    have b2 := btN_2 (wd L i) k
    obtain ⟨σ1, k1, O1⟩ := ow_n (d := d) (by omega) hO (by omega) (n := btN (wd L i) k) (by omega)
    rw [dgs_1 (by omega)] at O1
    obtain ⟨σ2, j1, O2⟩ := ih σ1 _ (by omega) O1 (by rw [List.length_append]; show l.length + 1 + k + 3 ≤ 2400; omega)
    have e216 := s216 (d := d) (by omega) σ (x := wd L i) (k := k) (by omega) (by omega)
    have ek : ((k + 1 : Nat) : Int) - 1 = (k : Int) := by omega
    have key : ∀ v : Nat, v = btN (wd L i) k → rsP PG0 MX d 282 192 [vR 101, vI n, vU, vI i, vI k] [vI v, vR 101] σ = rsP PG0 MX d 282 150 [vR 101, vI n, vU, vI ((i + 1 : Nat) : Int), vI (-1)] [] σ2 := by
      intro v hv
      subst hv
      rw [sg_282_192]
      repeat (first | ((with_reducible refine step_t ?_ ?_); with_reducible exact True.intro) | ((with_reducible refine step_t ?_ ?_); omega) | ((with_reducible refine step_f ?_ ?_); omega))
      refine step_c (k1) ?_
      try dsimp only
      exact j1
    refine ⟨σ2, ?_, ?_⟩
    · rw [sg_282_167, ek]
      (try simp (disch := omega) only [p107, e1, wr_id2])
      repeat (first | ((with_reducible refine step_t ?_ ?_); with_reducible exact True.intro) | ((with_reducible refine step_t ?_ ?_); omega) | ((with_reducible refine step_f ?_ ?_); omega))
      refine step_c (e216) ?_
      try dsimp only
      rw [wr_b2i]
      by_cases z : btN (wd L i) k = 1
      · rw [decide_eq_true z]
        refine step_f (show ¬ (b2i true = 0) by decide) ?_
        exact key 1 (by omega)
      · rw [decide_eq_false z]
        refine step_t (show b2i false = 0 by decide) ?_
        exact key 0 (by omega)
    · show OW σ0 σ2 (l ++ (((48 + btN (wd L i) k) :: bitL L i k) ++ [10]))
      rw [List.cons_append, List.append_cons]
      exact O2
theorem s282w {d : Nat} (h : 3 ≤ d) {σ0 : HP} {n : Nat} (hn : n < 3) {L : LB} (hr0 : slR σ0 n L) (hq0 : wdR σ0 L) (hw : wf0 L) : ∀ (m i : Nat) (σ : HP) (l : List Nat) (u2 u4 : MV), i + m = shN L → OW σ0 σ l → l.length + 9 * m + 3 ≤ 2400 → ∃ σ', rsP PG0 MX d 282 150 [vR 101, vI n, u2, vI i, u4] [] σ = some ((((l ++ wrdF L m i).length : Nat) : Int), σ') ∧ OW σ0 σ' (l ++ wrdF L m i) := by
  have hl := wf_len hw
  have hs := shN_le L
  have h9 := hw.1
  intro m
  induction m with
  | zero =>
    intro i σ l u2 u4 hi hO hlen
    have hy := hO.1.2
    have y1 := hy.1; have k101 := y101_m1 hy
    have q3 := (ow_wdr hO hq0).2.2.1
    have m1 := hO.2.1
    have ed : l ++ wrdF L 0 i = l := List.append_nil l
    rw [ed]
    refine ⟨σ, ?_, hO⟩
    rw [sg_282_150]
    (try simp (disch := omega) only [q3, m1, wr_id2])
    repeat (first | ((with_reducible refine step_t ?_ ?_); with_reducible exact True.intro) | ((with_reducible refine step_t ?_ ?_); omega) | ((with_reducible refine step_f ?_ ?_); omega))
    rfl
  | succ m ih =>
    intro i σ l u2 u4 hi hO hlen
    have hy := hO.1.2
    have y1 := hy.1; have k101 := y101_m1 hy
    have q3 := (ow_wdr hO hq0).2.2.1
    obtain ⟨σ1, k1, O1⟩ := s282i (d := d) h (n := n) hq0 hw (i := i) (by omega) (lN0 L) σ l h9 hO (by omega)
    obtain ⟨σ2, j1, O2⟩ := ih (i + 1) σ1 _ vU (vI (-1)) (by omega) O1 (by rw [List.length_append, List.length_append, bitL_len]; show l.length + (lN0 L + 1) + 9 * m + 3 ≤ 2400; omega)
    have ed : l ++ wrdF L (m + 1) i = l ++ (bitL L i (lN0 L) ++ [10]) ++ wrdF L m (i + 1) := by
      show l ++ (bitL L i (lN0 L) ++ [10] ++ wrdF L m (i + 1)) = _
      rw [List.append_assoc, List.append_assoc, List.append_assoc]
    rw [ed]
    refine ⟨σ2, ?_, O2⟩
    rw [sg_282_150]
    (try simp (disch := omega) only [q3, wr_id2])
    repeat (first | ((with_reducible refine step_t ?_ ?_); with_reducible exact True.intro) | ((with_reducible refine step_t ?_ ?_); omega) | ((with_reducible refine step_f ?_ ?_); omega))
    refine step_c (s207 (by omega) hy hn (ow_slr hO hr0)) ?_
    try dsimp only
    exact k1.trans j1
theorem m282 (S : AS) {s w : Int} (hs : i32 s) (hx : i32 w) : mOp 282 [vI s, vI w] S (telA S s w) := by
  intro d σ h hy ht hm
  obtain ⟨d, rfl⟩ := ob1 (show 1 ≤ d by omega)
  have y1 := hy.1; have k101 := y101_m1 hy; have p102 := y101_0 hy; have k102 := y102_m1 hy; have l102 := y102_m2 hy
  unfold telA
  cases e : gl S s with
  | none =>
    refine ⟨σ, ?_, (FM.rf hy).fl, hm⟩
    rw [ce_282, sg_282_0]
    repeat (first | ((with_reducible refine step_t ?_ ?_); with_reducible exact True.intro) | ((with_reducible refine step_t ?_ ?_); omega) | ((with_reducible refine step_f ?_ ?_); omega))
    refine step_c (s180n (by omega) hy hm hs e) ?_
    try dsimp only
    (try simp (disch := omega) only [wr_id2])
    repeat (first | ((with_reducible refine step_t ?_ ?_); with_reducible exact True.intro) | ((with_reducible refine step_t ?_ ?_); omega) | ((with_reducible refine step_f ?_ ?_); omega))
    rfl
  | some L =>
    have e180 := s180s (d := d) (by omega) hy hm hs e
    obtain ⟨n, rfl, hn, hr, hw, en⟩ := hm.got e
    have hl := wf_len hw.1
    have hA := hw.1.2.1
    have hB := hw.1.2.2.1
    have hN := hw.1.1
    have hS := lS_256 hw.1
    have hsh := shN_le L
    have e1 := s179 (d := d) (by omega) σ hx (y := 0) (z := 1) ⟨by decide, by decide⟩ ⟨by decide, by decide⟩
    have wx := hx.wr
    have hF0 : FM σ (up σ 101 28 0) := (FM.rf hy).upf okf_28
    have hy0 := hF0.2
    have y1b := hy0.1; have k101b := y101_m1 hy0
    have f0 : ∀ a j, (a ≠ 101 ∨ j ≠ 28) → (up σ 101 28 0) a j = σ a j := fun a j h2 => by
      rcases h2 with h2 | h2
      · rw [up_n1 _ _ _ _ h2]
      · rw [up_n2 _ _ _ _ h2]
    have hr0 : slR (up σ 101 28 0) n L := by
      have e : ∀ j, (up σ 101 28 0) 102 j = σ 102 j := fun j => f0 _ _ (by omega)
      unfold slR
      simp only [e]
      exact hr
    have hm0 : inR (up σ 101 28 0) 101 114 2400 28 [] := ⟨up_s _ _ _ _, by decide, fun i x hx => by simp at hx⟩
    dsimp only
    by_cases z0 : w = 0
    · subst z0
      rw [if_pos rfl]
      rw [decide_eq_true (by decide)] at e1
      have ht0 : Txt (up σ 101 28 0) := by
        intro i t e
        obtain ⟨q1, q2, q3⟩ := ht i t e
        have hg := ht.get e
        exact ⟨by rw [f0 _ _ (by omega)]; exact q1, by rw [f0 _ _ (by omega)]; exact q2, fun j y hy => by rw [f0 _ _ (by omega)]; exact q3 j y hy⟩
      have O0 : OW (up σ 101 28 0) (up σ 101 28 0) [] := ⟨⟨fun _ _ _ _ => rfl, hy0⟩, hm0⟩
      have dN := dgs_len (lN0 L)
      have dA := dgs_len (lA L)
      have dB := dgs_len (lB L)
      have dS := dgs_len (lS L)
      obtain ⟨σ1, a1, O1⟩ := ow_t (d := d) (by omega) ht0 (i := 6) rfl O0 (by decide)
      rw [List.nil_append] at O1
      obtain ⟨σ2, a2, O2⟩ := ow_n (d := d) (by omega) O1 (by simp) (n := lN0 L) (by omega)
      obtain ⟨σ3, a3, O3⟩ := ow_t (d := d) (by omega) ht0 (i := 0) rfl O2 (by simp only [List.length_append, List.length_cons, List.length_nil]; omega)
      obtain ⟨σ4, a4, O4⟩ := ow_n (d := d) (by omega) O3 (by simp only [List.length_append, List.length_cons, List.length_nil]; omega) (n := lA L) (by omega)
      obtain ⟨σ5, a5, O5⟩ := ow_t (d := d) (by omega) ht0 (i := 2) rfl O4 (by simp only [List.length_append, List.length_cons, List.length_nil]; omega)
      obtain ⟨σ6, a6, O6⟩ := ow_n (d := d) (by omega) O5 (by simp only [List.length_append, List.length_cons, List.length_nil]; omega) (n := lB L) (by omega)
      obtain ⟨σ7, a7, O7⟩ := ow_t (d := d) (by omega) ht0 (i := 1) rfl O6 (by simp only [List.length_append, List.length_cons, List.length_nil]; omega)
      obtain ⟨σ8, a8, O8⟩ := ow_n (d := d) (by omega) O7 (by simp only [List.length_append, List.length_cons, List.length_nil]; omega) (n := lS L) (by omega)
      obtain ⟨σ9, a9, O9⟩ := ow_t (d := d) (by omega) ht0 (i := 3) rfl O8 (by simp only [List.length_append, List.length_cons, List.length_nil]; omega)
      have hH := txtH_len (L := L)
      have O9 : OW (up σ 101 28 0) σ9 (txtH L) := O9
      obtain ⟨σT, b1, OT⟩ := s282l (d := d) (by omega) ht0 hn hr0 hw.1 (lT L).length 0 σ9 _ (vI 0) vU (by omega) O9 (by omega)
      have OT : OW (up σ 101 28 0) σT (txtL L) := OT
      have y2 := O1.1.2
      have y1c := y2.1; have k101c := y101_m1 y2
      have y3 := O2.1.2
      have y1d := y3.1; have k101d := y101_m1 y3
      have y4 := O3.1.2
      have y1e := y4.1; have k101e := y101_m1 y4
      have y5 := O4.1.2
      have y1f := y5.1; have k101f := y101_m1 y5
      have y6 := O5.1.2
      have y1g := y6.1; have k101g := y101_m1 y6
      have y7 := O6.1.2
      have y1h := y7.1; have k101h := y101_m1 y7
      have y8 := O7.1.2
      have y1i := y8.1; have k101i := y101_m1 y8
      have y9 := O8.1.2
      have y1j := y9.1; have k101j := y101_m1 y9
      have a1 : clR PG0 MX d 283 [vR 101, vR 8] (up σ 101 28 0) = some (0, σ1) := a1
      have a3 : clR PG0 MX d 283 [vR 101, vR 2] σ2 = some (0, σ3) := a3
      have a5 : clR PG0 MX d 283 [vR 101, vR 4] σ4 = some (0, σ5) := a5
      have a7 : clR PG0 MX d 283 [vR 101, vR 3] σ6 = some (0, σ7) := a7
      have a9 : clR PG0 MX d 283 [vR 101, vR 5] σ8 = some (0, σ9) := a9
      have r3 := ow_slr O3 hr0
      have r5 := ow_slr O5 hr0
      have r7 := ow_slr O7 hr0
      refine ⟨σT, ?_, (show FM σ σT from ⟨fun a j q => by rw [OT.1.1 _ _ (by omega) (by omega)]; exact f0 _ _ (by omega), OT.1.2⟩).fl, hm.out OT.2 (fun a j q => by rw [OT.1.1 _ _ (by omega) (by omega)]; exact f0 _ _ (by omega))⟩
      rw [ce_282, sg_282_0]
      repeat (first | ((with_reducible refine step_t ?_ ?_); with_reducible exact True.intro) | ((with_reducible refine step_t ?_ ?_); omega) | ((with_reducible refine step_f ?_ ?_); omega))
      refine step_c (e180) ?_
      try dsimp only
      (try simp (disch := omega) only [wr_id2])
      repeat (first | ((with_reducible refine step_t ?_ ?_); with_reducible exact True.intro) | ((with_reducible refine step_t ?_ ?_); omega) | ((with_reducible refine step_f ?_ ?_); omega))
      refine step_c (e1) ?_
      try dsimp only
      rw [wr_b2i]
      refine step_t (show b2i true ≠ 0 by decide) ?_
      (try simp (disch := omega) only [wr_id2])
      repeat (first | ((with_reducible refine step_t ?_ ?_); with_reducible exact True.intro) | ((with_reducible refine step_t ?_ ?_); omega) | ((with_reducible refine step_f ?_ ?_); omega))
      refine step_c (a1) ?_
      try dsimp only
      repeat (first | ((with_reducible refine step_t ?_ ?_); with_reducible exact True.intro) | ((with_reducible refine step_t ?_ ?_); omega) | ((with_reducible refine step_f ?_ ?_); omega))
      refine step_c (s207 (by omega) y2 hn (ow_slr O1 hr0)) ?_
      try dsimp only
      repeat (first | ((with_reducible refine step_t ?_ ?_); with_reducible exact True.intro) | ((with_reducible refine step_t ?_ ?_); omega) | ((with_reducible refine step_f ?_ ?_); omega))
      refine step_c (a2) ?_
      try dsimp only
      rw [sg_282_46]
      repeat (first | ((with_reducible refine step_t ?_ ?_); with_reducible exact True.intro) | ((with_reducible refine step_t ?_ ?_); omega) | ((with_reducible refine step_f ?_ ?_); omega))
      refine step_c (a3) ?_
      try dsimp only
      repeat (first | ((with_reducible refine step_t ?_ ?_); with_reducible exact True.intro) | ((with_reducible refine step_t ?_ ?_); omega) | ((with_reducible refine step_f ?_ ?_); omega))
      refine step_c (s181 (by omega) y4 hn (j := 1) (by omega) (by omega)) ?_
      try dsimp only
      rw [r3.2.1]
      repeat (first | ((with_reducible refine step_t ?_ ?_); with_reducible exact True.intro) | ((with_reducible refine step_t ?_ ?_); omega) | ((with_reducible refine step_f ?_ ?_); omega))
      refine step_c (a4) ?_
      try dsimp only
      repeat (first | ((with_reducible refine step_t ?_ ?_); with_reducible exact True.intro) | ((with_reducible refine step_t ?_ ?_); omega) | ((with_reducible refine step_f ?_ ?_); omega))
      refine step_c (a5) ?_
      try dsimp only
      rw [sg_282_70]
      repeat (first | ((with_reducible refine step_t ?_ ?_); with_reducible exact True.intro) | ((with_reducible refine step_t ?_ ?_); omega) | ((with_reducible refine step_f ?_ ?_); omega))
      refine step_c (s181 (by omega) y6 hn (j := 2) (by omega) (by omega)) ?_
      try dsimp only
      rw [r5.2.2.1]
      repeat (first | ((with_reducible refine step_t ?_ ?_); with_reducible exact True.intro) | ((with_reducible refine step_t ?_ ?_); omega) | ((with_reducible refine step_f ?_ ?_); omega))
      refine step_c (a6) ?_
      try dsimp only
      repeat (first | ((with_reducible refine step_t ?_ ?_); with_reducible exact True.intro) | ((with_reducible refine step_t ?_ ?_); omega) | ((with_reducible refine step_f ?_ ?_); omega))
      refine step_c (a7) ?_
      try dsimp only
      repeat (first | ((with_reducible refine step_t ?_ ?_); with_reducible exact True.intro) | ((with_reducible refine step_t ?_ ?_); omega) | ((with_reducible refine step_f ?_ ?_); omega))
      refine step_c (s181 (by omega) y8 hn (j := 3) (by omega) (by omega)) ?_
      try dsimp only
      rw [r7.2.2.2.1]
      repeat (first | ((with_reducible refine step_t ?_ ?_); with_reducible exact True.intro) | ((with_reducible refine step_t ?_ ?_); omega) | ((with_reducible refine step_f ?_ ?_); omega))
      refine step_c (a8) ?_
      try dsimp only
      rw [sg_282_97]
      repeat (first | ((with_reducible refine step_t ?_ ?_); with_reducible exact True.intro) | ((with_reducible refine step_t ?_ ?_); omega) | ((with_reducible refine step_f ?_ ?_); omega))
      refine step_c (a9) ?_
      try dsimp only
      exact b1
    · rw [if_neg z0]
      by_cases z1 : w = 1
      · subst z1
        rw [if_pos rfl]
        rw [decide_eq_true (by decide)] at e1
        obtain ⟨σ1, k1, k2, k3, k4⟩ := s203 (d := d) (by omega) hy0 hn hr0 hw.1
        have O0 : OW σ1 σ1 [] := ⟨⟨fun _ _ _ _ => rfl, k2.2⟩, inR_same hm0 (k2.1 _ _ (by omega)) (fun j => k2.1 _ _ (by omega))⟩
        obtain ⟨σT, b1, OT⟩ := s282w (d := d) (by omega) hn k3 k4 hw.1 (shN L) 0 σ1 [] (vI 1) vU (by omega) O0 (by show 0 + _ + _ ≤ _; omega)
        rw [List.nil_append] at b1 OT
        refine ⟨σT, ?_, (show FM σ σT from ⟨fun a j q => by rw [OT.1.1 _ _ (by omega) (by omega), k2.1 _ _ (by omega)]; exact f0 _ _ (by omega), OT.1.2⟩).fl, hm.out OT.2 (fun a j q => by rw [OT.1.1 _ _ (by omega) (by omega), k2.1 _ _ (by omega)]; exact f0 _ _ (by omega))⟩
        rw [ce_282, sg_282_0]
        repeat (first | ((with_reducible refine step_t ?_ ?_); with_reducible exact True.intro) | ((with_reducible refine step_t ?_ ?_); omega) | ((with_reducible refine step_f ?_ ?_); omega))
        refine step_c (e180) ?_
        try dsimp only
        (try simp (disch := omega) only [wr_id2])
        repeat (first | ((with_reducible refine step_t ?_ ?_); with_reducible exact True.intro) | ((with_reducible refine step_t ?_ ?_); omega) | ((with_reducible refine step_f ?_ ?_); omega))
        refine step_c (e1) ?_
        try dsimp only
        rw [wr_b2i]
        refine step_t (show b2i true ≠ 0 by decide) ?_
        (try simp (disch := omega) only [wr_id2])
        repeat (first | ((with_reducible refine step_t ?_ ?_); with_reducible exact True.intro) | ((with_reducible refine step_t ?_ ?_); omega) | ((with_reducible refine step_f ?_ ?_); omega))
        refine step_c (k1) ?_
        try dsimp only
        exact b1
      · rw [if_neg z1]
        rw [decide_eq_false (by omega)] at e1
        refine ⟨σ, ?_, (FM.rf hy).fl, hm⟩
        rw [ce_282, sg_282_0]
        repeat (first | ((with_reducible refine step_t ?_ ?_); with_reducible exact True.intro) | ((with_reducible refine step_t ?_ ?_); omega) | ((with_reducible refine step_f ?_ ?_); omega))
        refine step_c (e180) ?_
        try dsimp only
        (try simp (disch := omega) only [wx, wr_id2])
        repeat (first | ((with_reducible refine step_t ?_ ?_); with_reducible exact True.intro) | ((with_reducible refine step_t ?_ ?_); omega) | ((with_reducible refine step_f ?_ ?_); omega))
        refine step_c (e1) ?_
        try dsimp only
        rw [wr_b2i]
        refine step_f (show ¬ (b2i false ≠ 0) by decide) ?_
        rfl
