/-- told: the reference -/
theorem MM.tol {σ σ1 : HP} {S : AS} (hm : MM σ S) {T : List Nat} {r : RD} (hR : RN σ σ1 T r) : MM (up σ1 101 7 0) (mkA S.sl S.hs [] (rK r) (rP r) S.ot) := by
  obtain ⟨hF, hT, ⟨q1, q2, q3, q4, q5, q6, q7⟩, hok⟩ := hR
  have e : ∀ a j, a = 102 ∨ a = 104 ∨ a = 114 ∨ (a = 101 ∧ (j = 3 ∨ j = 28)) → (up σ1 101 7 0) a j = σ a j := fun a j h => by
    by_cases z : a = 101
    · rw [up_n2 _ _ _ _ (by omega)]; exact hF.1 a j (by omega) (by omega)
    · rw [up_n1 _ _ _ _ z]; exact hF.1 a j (by omega) (by omega)
  refine ⟨fun k hk => ?_, hm.wf, ?_, hm.dl, fun i hi k hk => ?_, hm.hw, (show inR (up σ1 101 7 0) 101 106 400 7 [] from ⟨up_s _ _ _ _, by decide, fun i x hx => by simp at hx⟩), ?_, ?_, inR_same hm.ot (e _ _ (by omega)) (fun j => e _ _ (by omega))⟩
  · rw [e _ _ (by omega)]; exact hm.row k hk
  · rw [e _ _ (by omega)]; exact hm.km
  · rw [e _ _ (by omega)]; exact hm.kp i hi k hk
  · rw [up_n2 _ _ _ _ (by omega)]; exact q5
  · rw [up_n2 _ _ _ _ (by omega)]; exact q6
theorem RM.tr {σ0 σ σ' : HP} {T : List Nat} {r r' : RD} (h : RM σ0 σ T r) (h2 : RM σ σ' T r') : RM σ0 σ' T r' := ⟨⟨fun a j h3 => by rw [h2.1.1 a j h3]; exact h.1.1 a j h3, h2.1.2⟩, h2.2⟩
theorem s187a {d : Nat} (h : 20 ≤ d) {σ0 σ : HP} {T : List Nat} {r : RD} (hR : RM σ0 σ T r) (ht : Txt σ0) {s : Int} (u2 u3 u4 u5 : MV) : ∃ σ', rsP PG0 MX d 187 44 [vR 101, vI s, u2, u3, u4, u5] [] σ = rsP PG0 MX d 187 95 [vR 101, vI s, vI ((rdN T 1 8 r).1 : Nat), vI ((hdA T (rdN T 1 8 r).1 (rdN T 1 8 r).2).1 : Nat), vI ((hdA T (rdN T 1 8 r).1 (rdN T 1 8 r).2).2.1 : Nat), u5] [] σ' ∧ RM σ0 σ' T (hdA T (rdN T 1 8 r).1 (rdN T 1 8 r).2).2.2 := by
  have wb := rdN_b (T := T) (lo := 1) (hi := 8) (by omega) r
  have hp := pow8 wb.2
  have hy := hR.lay
  have y1 := hy.1; have k101 := y101_m1 hy
  obtain ⟨σ3, k3, R3⟩ := s193 (d := d) (by omega) hR (lo := 1) (hi := 8) (by omega) (by omega)
  have k3 : clR PG0 MX d 193 [vR 101, vI 1, vI 8] σ = some ((((rdN T 1 8 r).1 : Nat) : Int), σ3) := k3
  generalize rdN T 1 8 r = w at *
  obtain ⟨W, r3⟩ := w
  have R3 : RM σ0 σ3 T r3 := R3
  have k3 : clR PG0 MX d 193 [vR 101, vI 1, vI 8] σ = some (((W : Nat) : Int), σ3) := k3
  have wb : 1 ≤ W ∧ W ≤ 8 := wb
  have e3 := s190 (d := d) (by omega) R3 ht (i := 7) (t := tLevs) rfl
  have e3 : clR PG0 MX d 190 [vR 101, vR 9] σ3 = some (b2i (decide (rK r3 = 0) && isL T tLevs r3), σ3) := e3
  have g3 := R3.lay
  have y1h := g3.1; have k101h := y101_m1 g3
  show ∃ σ', rsP PG0 MX d 187 44 [vR 101, vI s, u2, u3, u4, u5] [] σ = rsP PG0 MX d 187 95 [vR 101, vI s, vI (W : Nat), vI ((hdA T W r3).1 : Nat), vI ((hdA T W r3).2.1 : Nat), u5] [] σ' ∧ RM σ0 σ' T (hdA T W r3).2.2
  by_cases z0 : rK r3 = 0 ∧ isL T tLevs r3 = true
  · have eb : (decide (rK r3 = 0) && isL T tLevs r3) = true := by rw [decide_eq_true z0.1, z0.2]; rfl
    rw [eb] at e3
    have eB : hdA T W r3 = ((rdN T 0 W (rdAdv T r3)).1, (rdN T (rdN T 0 W (rdAdv T r3)).1 W (rdL T tTo (rdN T 0 W (rdAdv T r3)).2)).1, (rdN T (rdN T 0 W (rdAdv T r3)).1 W (rdL T tTo (rdN T 0 W (rdAdv T r3)).2)).2) := by
      unfold hdA
      rw [if_pos z0]
    obtain ⟨σ4, k4, R4⟩ := s188 (d := d) (by omega) R3
    obtain ⟨σ5, k5, R5⟩ := s193 (d := d) (by omega) R4 (lo := 0) (hi := W) (by omega) (by omega)
    have bl := rdN_b (T := T) (lo := 0) (hi := W) (Nat.zero_le _) (rdAdv T r3)
    rw [eB]
    generalize rdN T 0 W (rdAdv T r3) = w5 at *
    obtain ⟨l5, r5⟩ := w5
    have R5 : RM σ0 σ5 T r5 := R5
    have bl : 0 ≤ l5 ∧ l5 ≤ W := bl
    have k5 : clR PG0 MX d 193 [vR 101, vI 0, vI (W : Nat)] σ4 = some (((l5 : Nat) : Int), σ5) := k5
    have e5 := s190 (d := d) (by omega) R5 ht (i := 9) (t := tTo) rfl
    have e5 : clR PG0 MX d 190 [vR 101, vR 11] σ5 = some (_, σ5) := e5
    obtain ⟨σ6, k6, R6⟩ := s191L (d := d) (by omega) R5 (t := tTo)
    obtain ⟨σ7, k7, R7⟩ := s193 (d := d) (by omega) R6 (lo := l5) (hi := W) (by omega) (by omega)
    have g4 := R4.lay
    have y1i := g4.1; have k101i := y101_m1 g4
    have g5 := R5.lay
    have y1j := g5.1; have k101j := y101_m1 g5
    have g6 := R6.lay
    have y1k := g6.1; have k101k := y101_m1 g6
    refine ⟨σ7, ?_, R7⟩
    rw [sg_187_44]
    repeat (first | ((with_reducible refine step_t ?_ ?_); with_reducible exact True.intro) | ((with_reducible refine step_t ?_ ?_); omega) | ((with_reducible refine step_f ?_ ?_); omega))
    refine step_c (k3) ?_
    try dsimp only
    repeat (first | ((with_reducible refine step_t ?_ ?_); with_reducible exact True.intro) | ((with_reducible refine step_t ?_ ?_); omega) | ((with_reducible refine step_f ?_ ?_); omega))
    refine step_c (e3) ?_
    try dsimp only
    refine step_f (show ¬ wr (b2i true) = 0 by decide) ?_
    repeat (first | ((with_reducible refine step_t ?_ ?_); with_reducible exact True.intro) | ((with_reducible refine step_t ?_ ?_); omega) | ((with_reducible refine step_f ?_ ?_); omega))
    refine step_c (k4) ?_
    try dsimp only
    repeat (first | ((with_reducible refine step_t ?_ ?_); with_reducible exact True.intro) | ((with_reducible refine step_t ?_ ?_); omega) | ((with_reducible refine step_f ?_ ?_); omega))
    refine step_c (k5) ?_
    try dsimp only
    rw [sg_187_77]
    repeat (first | ((with_reducible refine step_t ?_ ?_); with_reducible exact True.intro) | ((with_reducible refine step_t ?_ ?_); omega) | ((with_reducible refine step_f ?_ ?_); omega))
    refine step_c (e5) ?_
    try dsimp only
    repeat (first | ((with_reducible refine step_t ?_ ?_); with_reducible exact True.intro) | ((with_reducible refine step_t ?_ ?_); omega) | ((with_reducible refine step_f ?_ ?_); omega))
    refine step_c (k6) ?_
    try dsimp only
    repeat (first | ((with_reducible refine step_t ?_ ?_); with_reducible exact True.intro) | ((with_reducible refine step_t ?_ ?_); omega) | ((with_reducible refine step_f ?_ ?_); omega))
    refine step_c (k7) ?_
    try dsimp only
  · have eb : (decide (rK r3 = 0) && isL T tLevs r3) = false := by
      cases q : (decide (rK r3 = 0) && isL T tLevs r3) with
      | false => rfl
      | true =>
        rw [Bool.and_eq_true] at q
        exact absurd ⟨of_decide_eq_true q.1, q.2⟩ z0
    rw [eb] at e3
    have eB : hdA T W r3 = (0, W, r3) := by
      unfold hdA
      rw [if_neg z0]
    rw [eB]
    refine ⟨σ3, ?_, R3⟩
    rw [sg_187_44]
    repeat (first | ((with_reducible refine step_t ?_ ?_); with_reducible exact True.intro) | ((with_reducible refine step_t ?_ ?_); omega) | ((with_reducible refine step_f ?_ ?_); omega))
    refine step_c (k3) ?_
    try dsimp only
    repeat (first | ((with_reducible refine step_t ?_ ?_); with_reducible exact True.intro) | ((with_reducible refine step_t ?_ ?_); omega) | ((with_reducible refine step_f ?_ ?_); omega))
    refine step_c (e3) ?_
    try dsimp only
    refine step_t (show wr (b2i false) = 0 by decide) ?_
    rfl
theorem s187b {d : Nat} (h : 20 ≤ d) {σ0 σ : HP} {T : List Nat} {r : RD} (hR : RM σ0 σ T r) (ht : Txt σ0) {s : Int} {W : Nat} (hW : 1 ≤ W ∧ W ≤ 8) {l5 u6 : Int} (u5 : MV) : ∃ σ', rsP PG0 MX d 187 95 [vR 101, vI s, vI (W : Nat), vI l5, vI u6, u5] [] σ = rsP PG0 MX d 187 123 [vR 101, vI s, vI (W : Nat), vI l5, vI u6, vI ((rdN T 0 (2 ^ W - 1) (rdL T tStart r)).1 : Nat)] [] σ' ∧ RM σ0 σ' T (rdS T 58 (rdN T 0 (2 ^ W - 1) (rdL T tStart r)).2) := by
  have hp := pow8 hW.2
  have hp0 := Nat.two_pow_pos W
  have e6 := s190 (d := d) (by omega) hR ht (i := 8) (t := tStart) rfl
  have e6 : clR PG0 MX d 190 [vR 101, vR 10] σ = some (_, σ) := e6
  obtain ⟨σ6, k6, R6⟩ := s191L (d := d) (by omega) hR (t := tStart)
  obtain ⟨σ7, k7, R7⟩ := s193 (d := d) (by omega) R6 (lo := 0) (hi := 2 ^ W - 1) (by omega) (by omega)
  rw [show ((2 ^ W - 1 : Nat) : Int) = ((2 ^ W : Nat) : Int) - 1 by omega] at k7
  generalize rdN T 0 (2 ^ W - 1) (rdL T tStart r) = w7 at *
  obtain ⟨x7, r7⟩ := w7
  have R7 : RM σ0 σ7 T r7 := R7
  have k7 : clR PG0 MX d 193 [vR 101, vI 0, vI (((2 ^ W : Nat) : Int) - 1)] σ6 = some (((x7 : Nat) : Int), σ7) := k7
  obtain ⟨σ8, k8, R8⟩ := s194 (d := d) (by omega) R7 (c := 58) (by omega)
  have k8 : clR PG0 MX d 194 [vR 101, vI 58] σ7 = some (0, σ8) := k8
  have sh := shl1 (x := W) (by omega)
  have hy := hR.lay
  have y1 := hy.1; have k101 := y101_m1 hy
  have g6 := R6.lay
  have y1j := g6.1; have k101j := y101_m1 g6
  have g7 := R7.lay
  have y1k := g7.1; have k101k := y101_m1 g7
  refine ⟨σ8, ?_, R8⟩
  rw [sg_187_95, sh]
  repeat (first | ((with_reducible refine step_t ?_ ?_); with_reducible exact True.intro) | ((with_reducible refine step_t ?_ ?_); omega) | ((with_reducible refine step_f ?_ ?_); omega))
  refine step_c (e6) ?_
  try dsimp only
  repeat (first | ((with_reducible refine step_t ?_ ?_); with_reducible exact True.intro) | ((with_reducible refine step_t ?_ ?_); omega) | ((with_reducible refine step_f ?_ ?_); omega))
  refine step_c (k6) ?_
  try dsimp only
  repeat (first | ((with_reducible refine step_t ?_ ?_); with_reducible exact True.intro) | ((with_reducible refine step_t ?_ ?_); omega) | ((with_reducible refine step_f ?_ ?_); omega))
  refine step_c (k7) ?_
  try dsimp only
  repeat (first | ((with_reducible refine step_t ?_ ?_); with_reducible exact True.intro) | ((with_reducible refine step_t ?_ ?_); omega) | ((with_reducible refine step_f ?_ ?_); omega))
  refine step_c (k8) ?_
  try dsimp only
theorem s187c {d : Nat} (h : 20 ≤ d) {σ0 σ : HP} {T : List Nat} {r : RD} (hR : RM σ0 σ T r) {s l5 u6 x7 : Int} {W : Nat} (hW : W ≤ 8) : ∃ σ', rsP PG0 MX d 187 123 [vR 101, vI s, vI (W : Nat), vI l5, vI u6, vI x7] [] σ = rsP PG0 MX d 187 154 [vR 101, vI s, vI (W : Nat), vI l5, vI u6, vI x7] [vI (b2i (decide (rK (rdS T 59 (if rK r = 0 then rdB T W r else ([], r)).2) ≠ 0) || decide (rD (rdS T 59 (if rK r = 0 then rdB T W r else ([], r)).2) = 0))), vR 101] σ' ∧ RN σ0 σ' T (rdS T 59 (if rK r = 0 then rdB T W r else ([], r)).2) ∧ mdR σ' (if rK r = 0 then rdB T W r else ([], r)).1 := by
  obtain ⟨σ9, k9, R9, D9⟩ := s195 (d := d) (by omega) hW hR.rn
  generalize (if rK r = 0 then rdB T W r else ([], r)) = w9 at *
  obtain ⟨l9, r9⟩ := w9
  have R9 : RN σ0 σ9 T r9 := R9
  have D9 : mdR σ9 l9 := D9
  obtain ⟨σA, kA, RA'⟩ := s194 (d := d) (by omega) R9.rm (c := 59) (by omega)
  have kA : clR PG0 MX d 194 [vR 101, vI 59] σ9 = some (0, σA) := kA
  have RA := R9.tr RA'
  have DA := md_rm D9 RA'
  refine ⟨σA, ?_, RA, DA⟩
  show rsP PG0 MX d 187 123 [vR 101, vI s, vI (W : Nat), vI l5, vI u6, vI x7] [] σ = rsP PG0 MX d 187 154 [vR 101, vI s, vI (W : Nat), vI l5, vI u6, vI x7] [vI (b2i (decide (rK (rdS T 59 r9) ≠ 0) || decide (rD (rdS T 59 r9) = 0))), vR 101] σA
  generalize rdS T 59 r9 = rA at *
  have hy := hR.lay
  have y1 := hy.1; have k101 := y101_m1 hy
  have g9 := R9.1.2
  have y1m := g9.1; have k101m := y101_m1 g9
  have gA := RA.1.2
  have y1n := gA.1; have k101n := y101_m1 gA
  obtain ⟨-, -, ⟨t1, t2, t3, t4, t5, t6, t7⟩, tok⟩ := id RA
  have o5 := tok.2.2.2.2.1
  rw [sg_187_123]
  repeat (first | ((with_reducible refine step_t ?_ ?_); with_reducible exact True.intro) | ((with_reducible refine step_t ?_ ?_); omega) | ((with_reducible refine step_f ?_ ?_); omega))
  refine step_c (k9) ?_
  try dsimp only
  repeat (first | ((with_reducible refine step_t ?_ ?_); with_reducible exact True.intro) | ((with_reducible refine step_t ?_ ?_); omega) | ((with_reducible refine step_f ?_ ?_); omega))
  refine step_c (kA) ?_
  try dsimp only
  by_cases z : rK rA ≠ 0
  · rw [decide_eq_true z] at t4
    rw [decide_eq_true z, Bool.true_or]
    (try simp (disch := omega) only [t4, wr_id2])
    repeat (first | ((with_reducible refine step_t ?_ ?_); with_reducible exact True.intro) | ((with_reducible refine step_t ?_ ?_); omega) | ((with_reducible refine step_f ?_ ?_); omega))
    refine step_t (show wr (b2i true) ≠ 0 by decide) ?_
    rw [sg_187_149]
    rfl
  · rw [decide_eq_false z] at t4
    rw [decide_eq_false z, Bool.false_or]
    (try simp (disch := omega) only [t4, wr_id2])
    repeat (first | ((with_reducible refine step_t ?_ ?_); with_reducible exact True.intro) | ((with_reducible refine step_t ?_ ?_); omega) | ((with_reducible refine step_f ?_ ?_); omega))
    refine step_f (show ¬ (wr (b2i false) ≠ 0) by decide) ?_
    (try simp (disch := omega) only [t3, wr_id2])
    repeat (first | ((with_reducible refine step_t ?_ ?_); with_reducible exact True.intro) | ((with_reducible refine step_t ?_ ?_); omega) | ((with_reducible refine step_f ?_ ?_); omega))
    by_cases z2 : rD rA = 0
    · rw [decide_eq_true z2]
      refine step_f (by omega) ?_
      rw [sg_187_149]
      rfl
    · rw [decide_eq_false z2]
      refine step_t (by omega) ?_
      rfl
theorem rdM_end {T : List Nat} {r : RD} : rK (rdM T (decide (rK r ≠ 0) || decide (rD r = 0)) r) = rK (if rK r = 0 ∧ rD r ≠ 0 then rdBl 1 (rF r : Nat) r else r) ∧ rP (rdM T (decide (rK r ≠ 0) || decide (rD r = 0)) r) = rP (if rK r = 0 ∧ rD r ≠ 0 then rdBl 1 (rF r : Nat) r else r) := by
  have a1 : rK (rdAdv T r) = rK r := rfl
  have a2 : rP (rdAdv T r) = rP r := rfl
  unfold rdM
  by_cases z : rK r ≠ 0
  · rw [if_pos z, if_neg (fun q => z q.1)]; exact ⟨rfl, rfl⟩
  · rw [if_neg z, decide_eq_false z, Bool.false_or]
    by_cases z2 : rD r = 0
    · rw [decide_eq_true z2, if_pos rfl, if_neg (fun q => q.2 z2)]; exact ⟨a1, a2⟩
    · rw [decide_eq_false z2, if_neg (by decide), if_pos ⟨by omega, z2⟩]; exact ⟨rfl, rfl⟩
set_option maxHeartbeats 4000000 in
theorem m187 (S : AS) {s : Int} (hs : i32 s) : mOp 187 [vI s] S (tolA S s) := by
  intro d σ h hy ht hm
  obtain ⟨d, rfl⟩ := ob1 (show 1 ≤ d by omega)
  have y1 := hy.1; have k101 := y101_m1 hy
  have e178 := s178 (d := d) (by omega) σ hs
  unfold tolA
  by_cases zs : 0 ≤ s ∧ s < 3
  · rw [if_pos zs]
    rw [decide_eq_true (show 0 ≤ s ∧ s ≤ 2 by omega)] at e178
    have F0 : FT σ σ := ⟨fun _ _ _ => rfl, hy⟩
    have F1 : FT σ (up σ 101 8 0) := F0.upf (by omega) okf_8
    have F2 : FT σ (up (up σ 101 8 0) 101 9 (-1)) := F1.upf (by omega) okf_9
    have F3 : FT σ (up (up (up σ 101 8 0) 101 9 (-1)) 101 14 0) := F2.upf (by omega) okf_14
    have F4 : FT σ (up (up (up (up σ 101 8 0) 101 9 (-1)) 101 14 0) 101 10 0) := F3.upf (by omega) okf_10
    have hT4 : inR (up (up (up (up σ 101 8 0) 101 9 (-1)) 101 14 0) 101 10 0) 101 106 400 7 S.tp := inT_up (inT_up (inT_up (inT_up hm.tp (by omega)) (by omega)) (by omega)) (by omega)
    generalize hT : S.tp = T at *
    obtain ⟨σ1, k1, R1⟩ := s188y (d := d) (by omega) (r := (0, -1, 0, 0, 0)) F4 hT4 (up_s _ _ _ _) (by rw [up_n2 _ _ _ _ (by omega), up_s]; rfl) (by rw [up_n2 _ _ _ _ (by omega), up_n2 _ _ _ _ (by omega), up_n2 _ _ _ _ (by omega), up_s]; rfl) (by rw [up_n2 _ _ _ _ (by omega), up_n2 _ _ _ _ (by omega), up_s]) (hd_ok0 T)
    have wb := hdW_b T
    have e2 := s190 (d := d) (by omega) R1 ht (i := 5) (t := tBits) rfl
    have e2 : clR PG0 MX d 190 [vR 101, vR 7] σ1 = some (_, σ1) := e2
    obtain ⟨σ2, k2, R2⟩ := s191L (d := d) (by omega) R1 (t := tBits)
    obtain ⟨σ5, p5, R5⟩ := s187a (d := d) (by omega) R2 ht (s := s) vU vU vU vU
    have p5 : rsP PG0 MX d 187 44 [vR 101, vI s, vU, vU, vU, vU] [] σ2 = rsP PG0 MX d 187 95 [vR 101, vI s, vI ((hdW T).1 : Nat), vI ((hdB T).1 : Nat), vI ((hdB T).2.1 : Nat), vU] [] σ5 := p5
    have R5 : RM σ σ5 T (hdB T).2.2 := R5
    obtain ⟨σ8, p8, R8⟩ := s187b (d := d) (by omega) R5 ht (s := s) wb (l5 := ((hdB T).1 : Nat)) (u6 := ((hdB T).2.1 : Nat)) vU
    have p8 : _ = rsP PG0 MX d 187 123 [vR 101, vI s, vI ((hdW T).1 : Nat), vI ((hdB T).1 : Nat), vI ((hdB T).2.1 : Nat), vI ((hdS T).1 : Nat)] [] σ8 := p8
    have R8 : RM σ σ8 T (hdR T) := R8
    obtain ⟨σA, pA, RA, DA⟩ := s187c (d := d) (by omega) R8 (s := s) wb.2 (l5 := ((hdB T).1 : Nat)) (u6 := ((hdB T).2.1 : Nat)) (x7 := ((hdS T).1 : Nat))
    have tb : (if rK (hdR T) = 0 then rdB T (hdW T).1 (hdR T) else ([], hdR T)) = tolB T := by unfold tolB; rfl
    have te : rdS T 59 (tolB T).2 = tolE T := by unfold tolE; rfl
    rw [tb] at pA RA DA
    rw [te] at pA RA
    have start : clR PG0 MX (d + 1) 187 [vR 101, vI s] σ = rsP PG0 MX d 187 154 [vR 101, vI s, vI ((hdW T).1 : Nat), vI ((hdB T).1 : Nat), vI ((hdB T).2.1 : Nat), vI ((hdS T).1 : Nat)] [vI (b2i (decide (rK (tolE T) ≠ 0) || decide (rD (tolE T) = 0))), vR 101] σA := by
      have hy1 := F1.2
      have y1b := hy1.1; have k101b := y101_m1 hy1
      have hy2 := F2.2
      have y1c := hy2.1; have k101c := y101_m1 hy2
      have hy3 := F3.2
      have y1d := hy3.1; have k101d := y101_m1 hy3
      have hy4 := F4.2
      have y1e := hy4.1; have k101e := y101_m1 hy4
      have g1 := R1.lay
      have y1f := g1.1; have k101f := y101_m1 g1
      have g2 := R2.lay
      have y1g := g2.1; have k101g := y101_m1 g2
      rw [ce_187, sg_187_0]
      repeat (first | ((with_reducible refine step_t ?_ ?_); with_reducible exact True.intro) | ((with_reducible refine step_t ?_ ?_); omega) | ((with_reducible refine step_f ?_ ?_); omega))
      refine step_c (e178) ?_
      try dsimp only
      rw [wr_b2i]
      refine step_t (show b2i true ≠ 0 by decide) ?_
      repeat (first | ((with_reducible refine step_t ?_ ?_); with_reducible exact True.intro) | ((with_reducible refine step_t ?_ ?_); omega) | ((with_reducible refine step_f ?_ ?_); omega))
      refine step_c (k1) ?_
      try dsimp only
      repeat (first | ((with_reducible refine step_t ?_ ?_); with_reducible exact True.intro) | ((with_reducible refine step_t ?_ ?_); omega) | ((with_reducible refine step_f ?_ ?_); omega))
      refine step_c (e2) ?_
      try dsimp only
      repeat (first | ((with_reducible refine step_t ?_ ?_); with_reducible exact True.intro) | ((with_reducible refine step_t ?_ ?_); omega) | ((with_reducible refine step_f ?_ ?_); omega))
      refine step_c (k2) ?_
      try dsimp only
      exact p5.trans (p8.trans pA)
    obtain ⟨σB, kB, RB'⟩ := s191 (d := d) (by omega) RA.rm (decide (rK (tolE T) ≠ 0) || decide (rD (tolE T) = 0))
    have RB := RA.tr RB'
    have DB2 := md_rm DA RB'
    have tr : (if rK (tolE T) = 0 ∧ rD (tolE T) ≠ 0 then rdBl 1 (rF (tolE T) : Nat) (tolE T) else tolE T) = tolR T := by unfold tolR; rfl
    have eKP := rdM_end (T := T) (r := tolE T)
    rw [tr] at eKP
    obtain ⟨eK, eP⟩ := eKP
    have gA := RA.1.2
    have y1n := gA.1; have k101n := y101_m1 gA
    have gB := RB.1.2
    have y1o := gB.1; have k101o := y101_m1 gB
    have MB := hm.tol RB
    have q14 := RB.2.2.1.2.2.2.1
    rw [eK, eP] at MB
    rw [eK] at q14
    have gC : Lay (up σB 101 7 0) := gB.upf okf_7 (by omega)
    have y1q := gC.1; have k101q := y101_m1 gC
    have FB : FM σ (up σB 101 7 0) := ⟨fun a j w => by rw [up_n1 _ _ _ _ (by omega)]; exact RB.1.1 a j (by omega) (by omega), gC⟩
    have w14 : (up σB 101 7 0) 101 14 = b2i (decide (rK (tolR T) ≠ 0)) := by rw [up_n2 _ _ _ _ (by omega)]; exact q14
    by_cases z : rK (tolR T) = 0
    · rw [if_pos z]
      rw [decide_eq_false (fun q => q z)] at w14
      have DC : mdR (up σB 101 7 0) (tolB T).1 := mdR_same DB2 (up_n2 _ _ _ _ (by omega)) (fun j => up_n1 _ _ _ _ (by omega))
      obtain ⟨σC, i1, i2, i3, i4, i5, i6⟩ := s182 (d := d) (by omega) gC MB (s := s.toNat) (by omega) DC (o := some (tolL T)) (a := ((hdW T).1 : Nat)) (b := ((hdB T).1 : Nat)) (c := ((hdB T).2.1 : Nat)) (e := ((hdS T).1 : Nat)) rfl rfl rfl rfl rfl (fun i _ => encA_st _ i)
      obtain ⟨σD, j1, j2, j3⟩ := s197 (d := d) (by omega) i2.2 i3 (s := s.toNat) (by omega) i4 i5 hm.wf (fun Q e => by cases e; exact tolL_wf T) ((tolB T).1.length : Nat)
      rw [show ((s.toNat : Nat) : Int) = s by omega] at i1
      have gD := i2.2
      have y1r := gD.1; have k101r := y101_m1 gD
      have e5 := i6.1
      refine ⟨σD, start.trans ?_, ((FB.tr i2).tr j2).fl, j3⟩
      rw [sg_187_154]
      repeat (first | ((with_reducible refine step_t ?_ ?_); with_reducible exact True.intro) | ((with_reducible refine step_t ?_ ?_); omega) | ((with_reducible refine step_f ?_ ?_); omega))
      refine step_c (kB) ?_
      try dsimp only
      (try simp (disch := omega) only [w14, wr_id2])
      repeat (first | ((with_reducible refine step_t ?_ ?_); with_reducible exact True.intro) | ((with_reducible refine step_t ?_ ?_); omega) | ((with_reducible refine step_f ?_ ?_); omega))
      refine step_t (show wr (b2i false) = 0 by decide) ?_
      repeat (first | ((with_reducible refine step_t ?_ ?_); with_reducible exact True.intro) | ((with_reducible refine step_t ?_ ?_); omega) | ((with_reducible refine step_f ?_ ?_); omega))
      refine step_c (i1) ?_
      try dsimp only
      (try simp (disch := omega) only [e5, wr_id2])
      repeat (first | ((with_reducible refine step_t ?_ ?_); with_reducible exact True.intro) | ((with_reducible refine step_t ?_ ?_); omega) | ((with_reducible refine step_f ?_ ?_); omega))
      refine step_c (j1) ?_
      try dsimp only
    · rw [if_neg z]
      rw [decide_eq_true z] at w14
      refine ⟨_, start.trans ?_, FB.fl, MB⟩
      rw [sg_187_154]
      repeat (first | ((with_reducible refine step_t ?_ ?_); with_reducible exact True.intro) | ((with_reducible refine step_t ?_ ?_); omega) | ((with_reducible refine step_f ?_ ?_); omega))
      refine step_c (kB) ?_
      try dsimp only
      (try simp (disch := omega) only [w14, wr_id2])
      repeat (first | ((with_reducible refine step_t ?_ ?_); with_reducible exact True.intro) | ((with_reducible refine step_t ?_ ?_); omega) | ((with_reducible refine step_f ?_ ?_); omega))
      refine step_f (show ¬ wr (b2i true) = 0 by decide) ?_
      rfl
  · rw [if_neg zs]
    rw [decide_eq_false (show ¬ (0 ≤ s ∧ s ≤ 2) by omega)] at e178
    refine ⟨σ, ?_, (FM.rf hy).fl, hm⟩
    rw [ce_187, sg_187_0]
    repeat (first | ((with_reducible refine step_t ?_ ?_); with_reducible exact True.intro) | ((with_reducible refine step_t ?_ ?_); omega) | ((with_reducible refine step_f ?_ ?_); omega))
    refine step_c (e178) ?_
    try dsimp only
    rw [wr_b2i]
    refine step_f (show ¬ (b2i false ≠ 0) by decide) ?_
    rfl
