/-! THE SHORTEST WAY: the class -/
def alW (L : LB) (b v : Nat) : Bool := decide (v = b) || (inSc L v && decide (cW L v = 0))
def WQ (σ0 σ : HP) (L : LB) (Q : Nat → Nat) (len : Nat) : Prop := FS σ0 σ ∧ (∀ w : Nat, w < 256 → σ 85 w = (cW L w : Nat)) ∧ ∀ i : Nat, i < len → σ 88 i = (Q i : Nat)
theorem s127p {d : Nat} {σ0 σ : HP} {b : Int} {L : LB} (hw : wf0 L) {a bb : Nat} (ha : a < 2 ^ lN0 L) {Q : Nat → Nat} {len hd k : Nat} (hq : WQ σ0 σ L Q len) (h : QN (lN0 L) (alW L bb) a (fun v => σ 87 v) Q len hd k) (hk : k < lN0 L) : ∃ σ' Q' len', rsP PG0 MX d 127 110 [vR 84, vR b, vU, vI bb, vI len, vI hd, vI (Q hd : Nat), vI k, vI ((Q hd ^^^ 2 ^ k : Nat) : Int), vU] [vI (b2i (alW L bb (Q hd ^^^ 2 ^ k)))] σ = rsP PG0 MX d 127 62 [vR 84, vR b, vU, vI bb, vI (len' : Nat), vI hd, vI (Q hd : Nat), vI ((k : Int) + 1), vU, vU] [] σ' ∧ WQ σ0 σ' L Q' len' ∧ QN (lN0 L) (alW L bb) a (fun v => σ' 87 v) Q' len' hd (k + 1) ∧ Q' hd = Q hd := by
  obtain ⟨hF, h85, h88⟩ := hq
  obtain ⟨hI, hlt, -, -, -⟩ := id h
  have h9 := hw.1
  have hp8 := pow8 hw.1
  have hle := hI.1
  have hk2 : 2 ^ k < 2 ^ lN0 L := Nat.pow_lt_pow_right (by omega) hk
  have hQ := (hI.2.1 hd hlt)
  have vb : Q hd ^^^ 2 ^ k < 2 ^ lN0 L := Nat.xor_lt_two_pow hQ.1 hk2
  have hfl := h.fl h9 (hk := hk)
  have hpu := fun D' Q' => h.push (v := Q hd ^^^ 2 ^ k) (D' := D') (Q' := Q') h9 ha (hk := hk) (ev := rfl)
  have hsk := h.sk
  have dv := hI.2.2.1 (Q hd ^^^ 2 ^ k) (by omega)
  have vi : i32 (σ 87 ((Q hd ^^^ 2 ^ k : Nat) : Int)) ∧ i32 (σ 87 ((Q hd : Nat) : Int)) := by
    refine ⟨?_, ⟨by have := hQ.2.1; dsimp only at this; omega, by have := hQ.2.2; dsimp only at this; omega⟩⟩
    rcases dv with q | ⟨⟨i, i1, i2⟩, -⟩
    · dsimp only at q; rw [q]; exact ⟨by decide, by decide⟩
    · have := hI.2.1 i i1
      rw [i2] at this
      dsimp only at this
      exact ⟨by omega, by omega⟩
  have hqr := hQ.2
  dsimp only at hqr hfl
  generalize ev : Q hd ^^^ 2 ^ k = v at *
  have hy := hF.2
  have y1 := hy.1
  have a1 := y84_m1 hy
  have a3 := y84_2 hy
  have a4 := y84_3 hy
  have b1 := y87_m1 hy
  have b2 := y87_m2 hy
  have b3 := y88_m1 hy
  have b4 := y88_m2 hy
  obtain ⟨⟨v1, v2⟩, v3, v4⟩ := vi
  by_cases z1 : σ 87 (v : Int) ≠ -1
  · refine ⟨σ, Q, len, ?_, ⟨hF, h85, h88⟩, hsk (fun _ => z1), rfl⟩
    rw [sg_127_110]
    (try simp (disch := omega) only [a3, wr_id2])
    repeat (first | ((with_reducible refine step_t ?_ ?_); with_reducible exact True.intro) | ((with_reducible refine step_t ?_ ?_); omega) | ((with_reducible refine step_f ?_ ?_); omega))
    rfl
  · have z1 : σ 87 (v : Int) = -1 := Classical.byContradiction z1
    by_cases z2 : alW L bb v = true
    · have z3 : len < 256 := by
        by_cases z : len < 256
        · exact z
        · exact absurd z1 (hfl (by omega))
      have hF2 : FS σ0 (up (up σ 87 (v : Int) (σ 87 ((Q hd : Nat) : Int) + 1)) 88 (len : Int) (v : Int)) := (hF.upd (by decide) (by decide +kernel) (by omega)).upd (by decide) (by decide +kernel) (by omega)
      refine ⟨up (up σ 87 (v : Int) (σ 87 ((Q hd : Nat) : Int) + 1)) 88 (len : Int) (v : Int), fun i => if i = len then v else Q i, len + 1, ?_, ⟨hF2, fun w hw2 => ?_, fun i hi => ?_⟩, hpu _ _ z3 z2 z1 ?_ (fun u hu hne => ?_) (if_pos rfl) (fun i hi => if_neg (by omega)), if_neg (by omega)⟩
      · rw [z2, sg_127_110, wr_b2i]
        (try simp (disch := omega) only [a3, wr_id2])
        repeat (first | ((with_reducible refine step_t ?_ ?_); with_reducible exact True.intro) | ((with_reducible refine step_t ?_ ?_); omega) | ((with_reducible refine step_f ?_ ?_); omega))
        refine step_f (show ¬ (b2i true = 0) by decide) ?_
        (try simp (disch := omega) only [a3, a4, up_n1, wr_id2])
        repeat (first | ((with_reducible refine step_t ?_ ?_); with_reducible exact True.intro) | ((with_reducible refine step_t ?_ ?_); omega) | ((with_reducible refine step_f ?_ ?_); omega))
        rw [sg_127_161]
        rfl
      · rw [up_n1 _ _ _ _ (by omega), up_n1 _ _ _ _ (by omega)]; exact h85 w hw2
      · by_cases z : i = len
        · rw [z, up_s]; dsimp only; rw [if_pos rfl]
        · rw [up_n2 _ _ _ _ (by omega), up_n1 _ _ _ _ (by omega)]; dsimp only; rw [if_neg z]; exact h88 i (by omega)
      · rw [up_n1 _ _ _ _ (by omega), up_s]
      · rw [up_n1 _ _ _ _ (by omega), up_n2 _ _ _ _ (by omega)]
    · refine ⟨σ, Q, len, ?_, ⟨hF, h85, h88⟩, hsk (fun q => absurd q z2), rfl⟩
      rw [Bool.eq_false_iff.mpr z2, sg_127_110, wr_b2i]
      (try simp (disch := omega) only [a3, wr_id2])
      repeat (first | ((with_reducible refine step_t ?_ ?_); with_reducible exact True.intro) | ((with_reducible refine step_t ?_ ?_); omega) | ((with_reducible refine step_f ?_ ?_); omega))
      refine step_t (show b2i false = 0 by decide) ?_
      rfl
theorem s127i {d : Nat} (h : 3 ≤ d) {σ0 : HP} {b : Int} {L : LB} (hb0 : blr σ0 b L) (hb43 : b + 2 < 43) (hw : wf0 L) {a bb : Nat} (ha : a < 2 ^ lN0 L) (hbb : bb < 2 ^ lN0 L) {hd : Nat} : ∀ (m k : Nat) (σ : HP) (Q : Nat → Nat) (len : Nat), k + m = lN0 L → WQ σ0 σ L Q len → QN (lN0 L) (alW L bb) a (fun v => σ 87 v) Q len hd k → ∃ σ' Q' len', rsP PG0 MX d 127 62 [vR 84, vR b, vU, vI bb, vI len, vI hd, vI (Q hd : Nat), vI k, vU, vU] [] σ = rsP PG0 MX d 127 33 [vR 84, vR b, vU, vI bb, vI (len' : Nat), vI ((hd : Int) + 1), vI (Q hd : Nat), vI (lN0 L : Nat), vU, vU] [] σ' ∧ WQ σ0 σ' L Q' len' ∧ QN (lN0 L) (alW L bb) a (fun v => σ' 87 v) Q' len' hd (lN0 L) := by
  have h9 := hw.1
  have hp8 := pow8 hw.1
  intro m
  induction m with
  | zero =>
    intro k σ Q len hk hq hn
    have hb := hq.1.blr hb0 (by omega) (by omega)
    obtain ⟨⟨m1, m2, m3, m4, m5, m6, m7, m8, m9⟩, f3, f4, f5, f6, fs, fw⟩ := id hb
    have ek : k = lN0 L := by omega
    subst ek
    refine ⟨σ, Q, len, ?_, hq, hn⟩
    rw [sg_127_62]
    (try simp (disch := omega) only [f3, wr_id2])
    repeat (first | ((with_reducible refine step_t ?_ ?_); with_reducible exact True.intro) | ((with_reducible refine step_t ?_ ?_); omega) | ((with_reducible refine step_f ?_ ?_); omega))
    rfl
  | succ m ih =>
    intro k σ Q len hk hq hn
    have hb := hq.1.blr hb0 (by omega) (by omega)
    obtain ⟨⟨m1, m2, m3, m4, m5, m6, m7, m8, m9⟩, f3, f4, f5, f6, fs, fw⟩ := id hb
    have hk2 : 2 ^ k < 2 ^ lN0 L := Nat.pow_lt_pow_right (by omega) (by omega)
    have hQ := (hn.1.2.1 hd hn.2.1)
    have hQ1 := hQ.1
    have vb : Q hd ^^^ 2 ^ k < 2 ^ lN0 L := Nat.xor_lt_two_pow hQ.1 hk2
    obtain ⟨σ1, Q1, len1, k1, k2, k3, k4⟩ := s127p (d := d) (b := b) hw ha hq hn (by omega)
    obtain ⟨σ2, Q2, len2, j1, j2, j3⟩ := ih (k + 1) σ1 Q1 len1 (by omega) k2 k3
    rw [k4] at j1
    have k1 := k1.trans j1
    have e49 := s49 (d := d) (w := Q hd ^^^ 2 ^ k) (by omega) hb hw (by omega)
    have c1 := cwN_le L (Q hd ^^^ 2 ^ k) (shN L)
    have ec : cW L (Q hd ^^^ 2 ^ k) = cwN L (Q hd ^^^ 2 ^ k) (shN L) := rfl
    have hsh := shN_le L
    have hl := wf_len hw
    have h85 := hq.2.1 (Q hd ^^^ 2 ^ k) (by omega)
    have ex : i_xor ((Q hd : Nat) : Int) (i_shl 1 (k : Int)) = ((Q hd ^^^ 2 ^ k : Nat) : Int) := by rw [shl1 (by omega)]; exact i_xor_n (by omega) (by omega)
    have hy := hq.1.2
    have y1 := hy.1
    have a1 := y84_m1 hy
    have a2 := y84_0 hy
    have b1 := y85_m1 hy
    have b2 := y85_m2 hy
    refine ⟨σ2, Q2, len2, ?_, j2, j3⟩
    refine Eq.trans ?_ k1
    rw [sg_127_62, ex]
    unfold alW
    generalize Q hd ^^^ 2 ^ k = v at *
    (try simp (disch := omega) only [f3, wr_id2])
    repeat (first | ((with_reducible refine step_t ?_ ?_); with_reducible exact True.intro) | ((with_reducible refine step_t ?_ ?_); omega) | ((with_reducible refine step_f ?_ ?_); omega))
    by_cases z1 : v = bb
    · rw [decide_eq_true z1, Bool.true_or]
      refine step_t (by omega) ?_
      rw [sg_127_105]
      rfl
    · rw [decide_eq_false z1, Bool.false_or]
      refine step_f (by omega) ?_
      (try simp (disch := omega) only [a2, h85, wr_id2])
      repeat (first | ((with_reducible refine step_t ?_ ?_); with_reducible exact True.intro) | ((with_reducible refine step_t ?_ ?_); omega) | ((with_reducible refine step_f ?_ ?_); omega))
      by_cases z2 : cW L v = 0
      · rw [decide_eq_true z2, Bool.and_true]
        refine step_f (by omega) ?_
        repeat (first | ((with_reducible refine step_t ?_ ?_); with_reducible exact True.intro) | ((with_reducible refine step_t ?_ ?_); omega) | ((with_reducible refine step_f ?_ ?_); omega))
        refine step_c (e49) ?_
        try dsimp only
        rw [wr_b2i]
        cases inSc L v with
        | true =>
          refine step_f (show ¬ (b2i true = 0) by decide) ?_
          rw [sg_127_105]
          rfl
        | false =>
          refine step_t (show b2i false = 0 by decide) ?_
          rw [sg_127_109]
          rfl
      · rw [decide_eq_false z2, Bool.and_false]
        refine step_t (by omega) ?_
        rw [sg_127_109]
        rfl
theorem s127o {d : Nat} (h : 3 ≤ d) {σ0 : HP} {b : Int} {L : LB} (hb0 : blr σ0 b L) (hb43 : b + 2 < 43) (hw : wf0 L) {a bb : Nat} (ha : a < 2 ^ lN0 L) (hbb : bb < 2 ^ lN0 L) : ∀ (m hd : Nat) (σ : HP) (Q : Nat → Nat) (len : Nat) (u2 u6 u7 : MV), hd + m = 256 → WQ σ0 σ L Q len → QO (lN0 L) (alW L bb) a (fun v => σ 87 v) Q len hd → ∃ σ' r, rsP PG0 MX d 127 33 [vR 84, vR b, u2, vI bb, vI len, vI hd, u6, u7, vU, vU] [] σ = some (r, σ') ∧ FS σ0 σ' ∧ WAY (lN0 L) (alW L bb) a bb r := by
  have h9 := hw.1
  have hp8 := pow8 hw.1
  intro m
  induction m with
  | zero =>
    intro hd σ Q len u2 u6 u7 hm hq ho
    have e1 := ho.1.1
    have e2 := ho.2.1
    have el : len = hd := by omega
    subst el
    have hy := hq.1.2
    have y1 := hy.1
    have a1 := y84_m1 hy
    have a3 := y84_2 hy
    have b1 := y87_m1 hy
    have b2 := y87_m2 hy
    refine ⟨σ, σ 87 (bb : Int), ?_, hq.1, ?_⟩
    · rw [sg_127_33]
      (try simp (disch := omega) only [a3, wr_id2])
      repeat (first | ((with_reducible refine step_t ?_ ?_); with_reducible exact True.intro) | ((with_reducible refine step_t ?_ ?_); omega) | ((with_reducible refine step_f ?_ ?_); omega))
      rfl
    · by_cases z : σ 87 (bb : Int) = -1
      · exact ho.no z
      · exact ho.ye (by omega) z
  | succ m ih =>
    intro hd σ Q len u2 u6 u7 hm hq ho
    have e1 := ho.1.1
    have e2 := ho.2.1
    have hy := hq.1.2
    have y1 := hy.1
    have a1 := y84_m1 hy
    have a3 := y84_2 hy
    have a4 := y84_3 hy
    have b1 := y87_m1 hy
    have b2 := y87_m2 hy
    have b3 := y88_m1 hy
    have b4 := y88_m2 hy
    by_cases z0 : len = hd
    · subst z0
      refine ⟨σ, σ 87 (bb : Int), ?_, hq.1, ?_⟩
      · rw [sg_127_33]
        (try simp (disch := omega) only [a3, wr_id2])
        repeat (first | ((with_reducible refine step_t ?_ ?_); with_reducible exact True.intro) | ((with_reducible refine step_t ?_ ?_); omega) | ((with_reducible refine step_f ?_ ?_); omega))
        rfl
      · by_cases z : σ 87 (bb : Int) = -1
        · exact ho.no z
        · exact ho.ye (by omega) z
    · have dv := ho.1.2.2.1 bb (by omega)
      have vi : i32 (σ 87 ((bb : Nat) : Int)) := by
        rcases dv with q | ⟨⟨i, i1, i2⟩, -⟩
        · dsimp only at q; rw [q]; exact ⟨by decide, by decide⟩
        · have := ho.1.2.1 i i1
          rw [i2] at this
          dsimp only at this
          exact ⟨by omega, by omega⟩
      clear dv
      have z00 : hd < len := by omega
      obtain ⟨v1, v2⟩ := vi
      by_cases z : σ 87 (bb : Int) = -1
      · obtain ⟨σ1, Q1, len1, k1, k2, k3⟩ := s127i (d := d) h hb0 hb43 hw ha hbb (hd := hd) (lN0 L) 0 σ Q len (by omega) hq (ho.qn (by omega))
        obtain ⟨σ2, r, j1, j2⟩ := ih (hd + 1) σ1 Q1 len1 vU (vI (Q hd : Nat)) (vI (lN0 L : Nat)) (by omega) k2 (k3.qo h9 ha)
        refine ⟨σ2, r, ?_, j2⟩
        have e88 := hq.2.2 hd (by omega)
        rw [sg_127_33]
        (try simp (disch := omega) only [a3, a4, e88, wr_id2])
        repeat (first | ((with_reducible refine step_t ?_ ?_); with_reducible exact True.intro) | ((with_reducible refine step_t ?_ ?_); omega) | ((with_reducible refine step_f ?_ ?_); omega))
        exact k1.trans j1
      · refine ⟨σ, σ 87 (bb : Int), ?_, hq.1, ho.ye (by omega) z⟩
        rw [sg_127_33]
        (try simp (disch := omega) only [a3, wr_id2])
        repeat (first | ((with_reducible refine step_t ?_ ?_); with_reducible exact True.intro) | ((with_reducible refine step_t ?_ ?_); omega) | ((with_reducible refine step_f ?_ ?_); omega))
        rfl
theorem s127 {d : Nat} (h : 5 ≤ d) {σ : HP} {b : Int} {L : LB} (hy : Lay σ) (hb : blr σ b L) (hw : wf0 L) (hb43 : b + 2 < 43) {a bb : Nat} (ha : a < 2 ^ lN0 L) (hbb : bb < 2 ^ lN0 L) : ∃ σ' r, clR PG0 MX d 127 [vR 84, vR b, vI a, vI bb] σ = some (r, σ') ∧ FS σ σ' ∧ WAY (lN0 L) (alW L bb) a bb r := by
  obtain ⟨d, rfl⟩ := ob1 (show 1 ≤ d by omega)
  have hp8 := pow8 hw.1
  obtain ⟨σ1, k1, F1, -, w1⟩ := s45 (d := d) (by omega) hy hb hw hb43
  have hy1 := F1.2
  have y1 := hy.1
  have a1 := y84_m1 hy
  have y1' := hy1.1
  have a1' := y84_m1 hy1
  have a3' := y84_2 hy1
  obtain ⟨σ2, g1, g2, g3, g4⟩ := s46 (d := d) (by omega) (σ := σ1) (a := 87) (n := 256) (-1) (by omega) (by omega) (by omega) (y87_m1 hy1) (y87_m2 hy1)
  have F2 : FS σ1 σ2 := ⟨fun a j _ h2 => g2 a j (by omega), hy1.row (by decide +kernel) (by decide) g2 g3⟩
  have hy2 := F2.2
  have y12 := hy2.1
  have a12 := y84_m1 hy2
  have a32 := y84_2 hy2
  have a42 := y84_3 hy2
  have b1 := y87_m1 hy2
  have b2 := y87_m2 hy2
  have b3 := y88_m1 hy2
  have b4 := y88_m2 hy2
  have F3 : FS σ (up (up σ2 87 (a : Int) 0) 88 0 (a : Int)) := ((F1.tr F2).upd (by decide) (by decide +kernel) (by omega)).upd (by decide) (by decide +kernel) (by omega)
  have hq : WQ σ (up (up σ2 87 (a : Int) 0) 88 0 (a : Int)) L (fun _ => a) 1 := by
    refine ⟨F3, fun w hw2 => ?_, fun i hi => ?_⟩
    · rw [up_n1 _ _ _ _ (by omega), up_n1 _ _ _ _ (by omega), g2 _ _ (by omega)]
      exact w1.1 w hw2
    · rw [show ((i : Nat) : Int) = 0 by omega, up_s]
  have ho : QO (lN0 L) (alW L bb) a (fun v => (up (up σ2 87 (a : Int) 0) 88 0 (a : Int)) 87 v) (fun _ => a) 1 0 := by
    refine QO.st ha ?_ (fun v hv hne => ?_) rfl
    · rw [up_n1 _ _ _ _ (by omega), up_s]
    · rw [up_n1 _ _ _ _ (by omega), up_n2 _ _ _ _ (by omega)]
      exact g4 v hv
  obtain ⟨σ4, r, k4, F4, w4⟩ := s127o (d := d) (by omega) hb hb43 hw ha hbb 256 0 _ _ 1 (vI a) vU vU (by omega) hq ho
  refine ⟨σ4, r, ?_, F4, w4⟩
  rw [ce_127, sg_127_0]
  repeat (first | ((with_reducible refine step_t ?_ ?_); with_reducible exact True.intro) | ((with_reducible refine step_t ?_ ?_); omega) | ((with_reducible refine step_f ?_ ?_); omega))
  refine step_c (k1) ?_
  try dsimp only
  (try simp (disch := omega) only [a3', wr_id2])
  repeat (first | ((with_reducible refine step_t ?_ ?_); with_reducible exact True.intro) | ((with_reducible refine step_t ?_ ?_); omega) | ((with_reducible refine step_f ?_ ?_); omega))
  refine step_c (g1) ?_
  try dsimp only
  (try simp (disch := omega) only [a32, a42, up_n1, wr_id2])
  repeat (first | ((with_reducible refine step_t ?_ ?_); with_reducible exact True.intro) | ((with_reducible refine step_t ?_ ?_); omega) | ((with_reducible refine step_f ?_ ?_); omega))
  exact k4
def WYA (S : AS) (s x y r : Int) : Prop := match gl S s with
  | none => r = -2
  | some L => if (0 ≤ x ∧ x < (2 ^ lN0 L : Nat)) ∧ 0 ≤ y ∧ y < (2 ^ lN0 L : Nat) then WAY (lN0 L) (alW L y.toNat) x.toNat y.toNat r else r = -2
theorem WYA.ex (S : AS) (s x y : Int) : ∃ r, WYA S s x y r := by
  unfold WYA
  cases gl S s with
  | none => exact ⟨-2, rfl⟩
  | some L =>
    dsimp only
    by_cases z : (0 ≤ x ∧ x < (2 ^ lN0 L : Nat)) ∧ 0 ≤ y ∧ y < (2 ^ lN0 L : Nat)
    · obtain ⟨r, hr⟩ := WAY.ex (lN0 L) (alW L y.toNat) x.toNat y.toNat
      exact ⟨r, by rw [if_pos z]; exact hr⟩
    · exact ⟨-2, by rw [if_neg z]⟩
theorem c126 (S : AS) {s x y r : Int} (hs : i32 s) (hx : i32 x) (hy0 : i32 y) (hr : WYA S s x y r) : cOp 126 [vI s, vI x, vI y] S (r, S) := by
  intro d σ h hy ht hc
  obtain ⟨d, rfl⟩ := ob1 (show 1 ≤ d by omega)
  have y1 := hy.1
  have a1 := y32_m1 hy
  have a5 := y32_5 hy
  have b84 := y84_m1 hy
  have e41 := s41 (d := d) (by omega) hy hc hs
  unfold WYA at hr
  cases e : gl S s with
  | none =>
    rw [lbA_n e] at e41
    rw [e] at hr
    rw [show r = -2 from hr]
    refine ⟨σ, ?_, FC.rf hy, hc⟩
    rw [ce_126, sg_126_0]
    repeat (first | ((with_reducible refine step_t ?_ ?_); with_reducible exact True.intro) | ((with_reducible refine step_t ?_ ?_); omega) | ((with_reducible refine step_f ?_ ?_); omega))
    refine step_c (e41) ?_
    try dsimp only
    repeat (first | ((with_reducible refine step_t ?_ ?_); with_reducible exact True.intro) | ((with_reducible refine step_t ?_ ?_); omega) | ((with_reducible refine step_f ?_ ?_); omega))
    rfl
  | some L =>
    rw [lbA_s e] at e41
    rw [e] at hr
    obtain ⟨g1, g2, g3, g4, g5⟩ := hc.got e
    have hw := g4.1
    obtain ⟨⟨m1, m2, m3, m4, m5, m6, m7, m8, m9⟩, f3, f4, f5, f6, fs, fw⟩ := id g3
    dsimp only at hr
    have e68x := s68' (d := d) (by omega) g3 hw hx
    have e68y := s68' (d := d) (by omega) g3 hw hy0
    by_cases zx : 0 ≤ x ∧ x < (2 ^ lN0 L : Nat)
    · rw [decide_eq_true zx] at e68x
      by_cases zy : 0 ≤ y ∧ y < (2 ^ lN0 L : Nat)
      · rw [decide_eq_true zy] at e68y
        rw [if_pos ⟨zx, zy⟩] at hr
        obtain ⟨σ', r', k1, F1, w1⟩ := s127 (d := d) (by omega) hy g3 hw (by omega) (a := x.toNat) (bb := y.toNat) (by omega) (by omega)
        rw [w1.un hr, show ((x.toNat : Nat) : Int) = x by omega, show ((y.toNat : Nat) : Int) = y by omega] at k1
        refine ⟨σ', ?_, F1.fc, F1.cr hc⟩
        rw [ce_126, sg_126_0]
        repeat (first | ((with_reducible refine step_t ?_ ?_); with_reducible exact True.intro) | ((with_reducible refine step_t ?_ ?_); omega) | ((with_reducible refine step_f ?_ ?_); omega))
        refine step_c (e41) ?_
        try dsimp only
        repeat (first | ((with_reducible refine step_t ?_ ?_); with_reducible exact True.intro) | ((with_reducible refine step_t ?_ ?_); omega) | ((with_reducible refine step_f ?_ ?_); omega))
        refine step_c (e68x) ?_
        try dsimp only
        rw [wr_b2i]
        refine step_f (show ¬ (b2i true = 0) by decide) ?_
        repeat (first | ((with_reducible refine step_t ?_ ?_); with_reducible exact True.intro) | ((with_reducible refine step_t ?_ ?_); omega) | ((with_reducible refine step_f ?_ ?_); omega))
        refine step_c (e68y) ?_
        try dsimp only
        rw [wr_b2i]
        refine step_t (show b2i true ≠ 0 by decide) ?_
        (try simp (disch := omega) only [a5, wr_id2])
        repeat (first | ((with_reducible refine step_t ?_ ?_); with_reducible exact True.intro) | ((with_reducible refine step_t ?_ ?_); omega) | ((with_reducible refine step_f ?_ ?_); omega))
        refine step_c (k1) ?_
        try dsimp only
      · rw [decide_eq_false zy] at e68y
        rw [if_neg (fun q => zy q.2)] at hr
        rw [hr]
        refine ⟨σ, ?_, FC.rf hy, hc⟩
        rw [ce_126, sg_126_0]
        repeat (first | ((with_reducible refine step_t ?_ ?_); with_reducible exact True.intro) | ((with_reducible refine step_t ?_ ?_); omega) | ((with_reducible refine step_f ?_ ?_); omega))
        refine step_c (e41) ?_
        try dsimp only
        repeat (first | ((with_reducible refine step_t ?_ ?_); with_reducible exact True.intro) | ((with_reducible refine step_t ?_ ?_); omega) | ((with_reducible refine step_f ?_ ?_); omega))
        refine step_c (e68x) ?_
        try dsimp only
        rw [wr_b2i]
        refine step_f (show ¬ (b2i true = 0) by decide) ?_
        repeat (first | ((with_reducible refine step_t ?_ ?_); with_reducible exact True.intro) | ((with_reducible refine step_t ?_ ?_); omega) | ((with_reducible refine step_f ?_ ?_); omega))
        refine step_c (e68y) ?_
        try dsimp only
        rw [wr_b2i]
        refine step_f (show ¬ (b2i false ≠ 0) by decide) ?_
        rfl
    · rw [decide_eq_false zx] at e68x
      rw [if_neg (fun q => zx q.1)] at hr
      rw [hr]
      refine ⟨σ, ?_, FC.rf hy, hc⟩
      rw [ce_126, sg_126_0]
      repeat (first | ((with_reducible refine step_t ?_ ?_); with_reducible exact True.intro) | ((with_reducible refine step_t ?_ ?_); omega) | ((with_reducible refine step_f ?_ ?_); omega))
      refine step_c (e41) ?_
      try dsimp only
      repeat (first | ((with_reducible refine step_t ?_ ?_); with_reducible exact True.intro) | ((with_reducible refine step_t ?_ ?_); omega) | ((with_reducible refine step_f ?_ ?_); omega))
      refine step_c (e68x) ?_
      try dsimp only
      rw [wr_b2i]
      refine step_t (show b2i false = 0 by decide) ?_
      rfl
