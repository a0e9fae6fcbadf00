/-! TRACKS: the reference, whole -/
theorem trF_n {N p r : Nat} {l : List Nat} {j : Nat} (h1 : 1 ≤ p) (hj : p ≤ j) : trF N p r l j = (trF N p r l (j - p) + r) % N := by
  obtain ⟨i, rfl⟩ : ∃ i, j = i + p := ⟨j - p, by omega⟩
  rw [Nat.add_sub_cancel]
  unfold trF
  rw [Nat.add_mod_right, Nat.add_div_right _ (by omega), Nat.mod_add_mod, Nat.succ_mul, Nat.add_assoc]
theorem s260l {d : Nat} (h : 6 ≤ d) {σ0 : HP} {S : AS} (hm : MM σ0 S) {n : Nat} (hn : n < 3) {L : LB} (en : S.sl n = some L) (hw : wfL L) {l : List Nat} {p r : Nat} (hp : 1 ≤ p) (hr : r < lN0 L) (hNp : lN0 L * p ≤ 256) : ∀ (m j : Nat) (σ : HP) (u4 u7 : MV), j + m = lN0 L * p → p ≤ j → FQ σ0 σ → (∀ i : Nat, i < j → σ 105 i = (trF (lN0 L) p r l i : Nat)) → ∃ σ', rsP PG0 MX d 260 177 [vR 101, vI n, vI p, vI r, u4, vI (lN0 L : Nat), vI (lS L : Nat), u7, vI j] [] σ = some (((lN0 L * p : Nat) : Int), σ') ∧ FM σ0 σ' ∧ MM σ' (setl S n (some (pth L (trM (trF (lN0 L) p r l) (lN0 L * p))))) := by
  have h9 : lN0 L ≤ 8 := hw.1.1
  have mu : (lN0 L : Int) * (p : Int) = ((lN0 L * p : Nat) : Int) := (Int.natCast_mul _ _).symm
  intro m
  induction m with
  | zero =>
    intro j σ u4 u7 hj hpj hF hr5
    have F1 : FQ σ0 (up σ 101 5 ((lN0 L * p : Nat) : Int)) := hF.upf (by omega) okf_5
    have hy := hF.2
    have y1 := hy.1; have k101 := y101_m1 hy
    have hy1 := F1.2
    have y1b := hy1.1; have k101b := y101_m1 hy1
    have md : mdR (up σ 101 5 ((lN0 L * p : Nat) : Int)) (trM (trF (lN0 L) p r l) (lN0 L * p)) := by
      refine ⟨by rw [up_s, trM_len], by rw [trM_len]; omega, fun i x hx => ?_⟩
      have hi : i < lN0 L * p := by
        by_cases q : i < lN0 L * p
        · exact q
        · rw [List.getElem?_eq_none (by rw [trM_len]; omega)] at hx; cases hx
      rw [trM_at hi] at hx
      rw [up_n1 _ _ _ _ (by omega), ← Option.some.inj hx]
      exact hr5 i (by omega)
    have hwl : wfL (lN0 L, lA L, lB L, lS L, trM (trF (lN0 L) p r l) (lN0 L * p)) := by
      refine ⟨⟨hw.1.1, hw.1.2.1, hw.1.2.2.1, hw.1.2.2.2.1, by show (trM _ _).length ≤ 256; rw [trM_len]; exact hNp, fun b hb => ?_⟩, hw.2⟩
      unfold trM at hb
      obtain ⟨i, i1, i2⟩ := List.mem_map.mp hb
      rw [← i2]
      exact trF_lt hw.2.1 i
    obtain ⟨σ2, k1, k2, k3⟩ := s245 (d := d) (by omega) F1.2 (F1.mr hm) hn en md hwl ((lN0 L * p : Nat) : Int)
    refine ⟨σ2, ?_, F1.fm.tr k2, k3⟩
    rw [sg_260_177, mu]
    (try simp (disch := omega) only [up_s, wr_id2])
    repeat (first | ((with_reducible refine step_t ?_ ?_); with_reducible exact True.intro) | ((with_reducible refine step_t ?_ ?_); omega) | ((with_reducible refine step_f ?_ ?_); omega))
    refine step_c (k1) ?_
    try dsimp only
  | succ m ih =>
    intro j σ u4 u7 hj hpj hF hr5
    have hy := hF.2
    have y1 := hy.1; have k101 := y101_m1 hy; have p105 := y101_4 hy; have k105 := y105_m1 hy; have l105 := y105_m2 hy
    have e1 := hr5 (j - p) (by omega)
    have b1 := trF_lt (N := lN0 L) (p := p) (r := r) (l := l) hw.2.1 (j - p)
    have b2 := trF_lt (N := lN0 L) (p := p) (r := r) (l := l) hw.2.1 j
    have e2 := trF_n (N := lN0 L) (r := r) (l := l) hp hpj
    rw [show ((j - p : Nat) : Int) = (j : Int) - p by omega] at e1
    have er := i_rem_n (a := trF (lN0 L) p r l (j - p) + r) (b := lN0 L) (by omega) (by omega) (by omega)
    rw [Int.natCast_add] at er
    have F1 : FQ σ0 (up σ 105 (j : Int) ((trF (lN0 L) p r l j : Nat) : Int)) := hF.upd (by omega) okr_105 (by omega)
    obtain ⟨σ', k1, k2⟩ := ih (j + 1) _ vU vU (by omega) (by omega) F1 (fun i hi => by
      by_cases z : i = j
      · rw [z, up_s]
      · rw [up_n2 _ _ _ _ (by omega)]; exact hr5 i (by omega))
    refine ⟨σ', ?_, k2⟩
    rw [sg_260_177, mu]
    (try simp (disch := omega) only [p105, e1, er, wr_id2])
    rw [← e2]
    repeat (first | ((with_reducible refine step_t ?_ ?_); with_reducible exact True.intro) | ((with_reducible refine step_t ?_ ?_); omega) | ((with_reducible refine step_f ?_ ?_); omega))
    exact k1
theorem m260 (S : AS) {s p r T : Int} (hs : i32 s) (hpp : i32 p) (hrr : i32 r) (hTT : i32 T) : mOp 260 [vI s, vI p, vI r, vI T] S (aA S s (trkQ p r T)) := by
  intro d σ h hy ht hm
  obtain ⟨d, rfl⟩ := ob1 (show 1 ≤ d by omega)
  have y1 := hy.1; have k101 := y101_m1 hy; have p102 := y101_0 hy; have k102 := y102_m1 hy; have l102 := y102_m2 hy; have p107 := y101_15 hy; have k107 := y107_m1 hy; have l107 := y107_m2 hy; have p108 := y101_16 hy; have k108 := y108_m1 hy; have l108 := y108_m2 hy
  unfold aA
  cases e : gl S s with
  | none =>
    refine ⟨σ, ?_, (FM.rf hy).fl, hm⟩
    rw [ce_260, sg_260_0]
    repeat (first | ((with_reducible refine step_t ?_ ?_); with_reducible exact True.intro) | ((with_reducible refine step_t ?_ ?_); omega) | ((with_reducible refine step_f ?_ ?_); omega))
    refine step_c (s180n (by omega) hy hm hs e) ?_
    try dsimp only
    (try simp (disch := omega) only [wr_id2])
    repeat (first | ((with_reducible refine step_t ?_ ?_); with_reducible exact True.intro) | ((with_reducible refine step_t ?_ ?_); omega) | ((with_reducible refine step_f ?_ ?_); omega))
    rw [sg_260_65]
  | some L =>
    have e180 := s180s (d := d) (by omega) hy hm hs e
    obtain ⟨n, rfl, hn, hr, hw, en⟩ := hm.got e
    have h9 := hw.1.1
    have h1N := hw.2.1
    have hp8 := pow8 hw.1.1
    dsimp only
    unfold trkQ
    have hp' := hpp
    have hr' := hrr
    have hT' := hTT
    obtain ⟨p1, p2⟩ := hp'
    obtain ⟨r1, r2⟩ := hr'
    obtain ⟨t1, t2⟩ := hT'
    have e207 := s207 (d := d) (by omega) hy hn hr
    have eT := s179 (d := d) (by omega) σ hTT (y := 1) (z := 50000) ⟨by decide, by decide⟩ ⟨by decide, by decide⟩
    have er := s179 (d := d) (by omega) σ hrr (y := 1) (z := (lN0 L : Int) - 1) ⟨by decide, by decide⟩ ⟨by omega, by omega⟩
    by_cases z : (2 ≤ lN0 L ∧ 1 ≤ p ∧ (1 ≤ T ∧ T ≤ 50000) ∧ 1 ≤ r ∧ r < lN0 L)
    · obtain ⟨z1, z2, z3, z4⟩ := z
      rw [decide_eq_true z3] at eT
      rw [decide_eq_true (show 1 ≤ r ∧ r ≤ (lN0 L : Int) - 1 by omega)] at er
      have start : clR PG0 MX (d + 1) 260 [vR 101, vI n, vI p, vI r, vI T] σ = rsP PG0 MX d 260 52 [vR 101, vI n, vI p, vI r, vI T, vU, vU, vU, vU] [] σ := by
        rw [ce_260, sg_260_0]
        repeat (first | ((with_reducible refine step_t ?_ ?_); with_reducible exact True.intro) | ((with_reducible refine step_t ?_ ?_); omega) | ((with_reducible refine step_f ?_ ?_); omega))
        refine step_c (e180) ?_
        try dsimp only
        (try simp (disch := omega) only [wr_id2])
        repeat (first | ((with_reducible refine step_t ?_ ?_); with_reducible exact True.intro) | ((with_reducible refine step_t ?_ ?_); omega) | ((with_reducible refine step_f ?_ ?_); omega))
        refine step_c (e207) ?_
        try dsimp only
        (try simp (disch := omega) only [wr_id2])
        repeat (first | ((with_reducible refine step_t ?_ ?_); with_reducible exact True.intro) | ((with_reducible refine step_t ?_ ?_); omega) | ((with_reducible refine step_f ?_ ?_); omega))
        refine step_c (eT) ?_
        try dsimp only
        rw [wr_b2i]
        refine step_f (show ¬ (b2i true = 0) by decide) ?_
        repeat (first | ((with_reducible refine step_t ?_ ?_); with_reducible exact True.intro) | ((with_reducible refine step_t ?_ ?_); omega) | ((with_reducible refine step_f ?_ ?_); omega))
        refine step_c (e207) ?_
        try dsimp only
        (try simp (disch := omega) only [wr_id2])
        refine step_c (er) ?_
        try dsimp only
        rw [wr_b2i]
        refine step_f (show ¬ (b2i true = 0) by decide) ?_
        rfl
      obtain ⟨pn, rfl⟩ : ∃ pn : Nat, p = pn := ⟨p.toNat, by omega⟩
      obtain ⟨rn, rfl⟩ : ∃ rn : Nat, r = rn := ⟨r.toNat, by omega⟩
      obtain ⟨tn, rfl⟩ : ∃ tn : Nat, T = tn := ⟨T.toNat, by omega⟩
      simp only [Int.toNat_natCast]
      have gc := gc_cm (lN0 L) (by omega) rn (by omega) (by omega)
      have e261 := s261 (σ := σ) 9 d (lN0 L) rn (by omega) (by omega) (by omega) (by omega)
      cases zc : cmF rn (lN0 L) 7 2 with
      | true =>
        rw [if_neg (fun q => by cases q.2)]
        have gne : gcF 9 (lN0 L) rn ≠ 1 := fun q => by rw [gc.1.mp q] at zc; cases zc
        have glt := gc.2
        refine ⟨σ, start.trans ?_, (FM.rf hy).fl, hm⟩
        rw [sg_260_52]
        repeat (first | ((with_reducible refine step_t ?_ ?_); with_reducible exact True.intro) | ((with_reducible refine step_t ?_ ?_); omega) | ((with_reducible refine step_f ?_ ?_); omega))
        refine step_c (e207) ?_
        try dsimp only
        refine step_c (e261) ?_
        try dsimp only
        (try simp (disch := omega) only [wr_id2])
        repeat (first | ((with_reducible refine step_t ?_ ?_); with_reducible exact True.intro) | ((with_reducible refine step_t ?_ ?_); omega) | ((with_reducible refine step_f ?_ ?_); omega))
        rw [sg_260_65]
      | false =>
        rw [if_pos ⟨⟨z1, z2, z3, z4⟩, rfl⟩, ← Int.natCast_mul]
        rw [gc.1.mpr zc] at e261
        have ed := i_div_n (a := 256) (b := lN0 L) (by omega) (by omega) (by omega)
        have ed : i_div 256 ((lN0 L : Nat) : Int) = ((256 / lN0 L : Nat) : Int) := ed
        have d1 : 256 / lN0 L ≤ 256 := Nat.div_le_self _ _
        have dq : pn ≤ 256 / lN0 L ↔ lN0 L * pn ≤ 256 := by
          rw [Nat.le_div_iff_mul_le (by omega), Nat.mul_comm]
        by_cases z5 : lN0 L * pn ≤ 256
        · rw [if_pos (by omega)]
          have hpd := dq.mpr z5
          have q2 : lS L < 2 ^ lN0 L := hw.1.2.2.2.1
          have e3 := s181 (d := d) (by omega) hy hn (j := 3) (by omega) (by omega)
          rw [hr.2.2.2.1] at e3
          have st2 : rsP PG0 MX d 260 52 [vR 101, vI n, vI (pn : Int), vI (rn : Int), vI (tn : Int), vU, vU, vU, vU] [] σ = rsP PG0 MX d 260 96 [vR 101, vI n, vI (pn : Int), vI (rn : Int), vI (tn : Int), vI (lN0 L : Nat), vI (lS L : Nat), vU, vU] [] σ := by
            rw [sg_260_52]
            repeat (first | ((with_reducible refine step_t ?_ ?_); with_reducible exact True.intro) | ((with_reducible refine step_t ?_ ?_); omega) | ((with_reducible refine step_f ?_ ?_); omega))
            refine step_c (e207) ?_
            try dsimp only
            refine step_c (e261) ?_
            try dsimp only
            (try simp (disch := omega) only [wr_id2])
            repeat (first | ((with_reducible refine step_t ?_ ?_); with_reducible exact True.intro) | ((with_reducible refine step_t ?_ ?_); omega) | ((with_reducible refine step_f ?_ ?_); omega))
            refine step_c (e207) ?_
            try dsimp only
            rw [ed]
            (try simp (disch := omega) only [wr_id2])
            repeat (first | ((with_reducible refine step_t ?_ ?_); with_reducible exact True.intro) | ((with_reducible refine step_t ?_ ?_); omega) | ((with_reducible refine step_f ?_ ?_); omega))
            refine step_c (e3) ?_
            try dsimp only
          have st := start.trans st2
          have e262 := s262 (d := d) (by omega) hy h1N h9 q2
          unfold trkL
          cases zr : rnd (lN0 L) (lS L) with
          | true =>
            rw [zr] at e262
            rw [if_pos rfl]
            refine ⟨σ, st.trans ?_, (FM.rf hy).fl, hm⟩
            rw [sg_260_96]
            repeat (first | ((with_reducible refine step_t ?_ ?_); with_reducible exact True.intro) | ((with_reducible refine step_t ?_ ?_); omega) | ((with_reducible refine step_f ?_ ?_); omega))
            refine step_c (e262) ?_
            try dsimp only
            rw [wr_b2i]
            refine step_f (show ¬ (b2i true = 0) by decide) ?_
            rfl
          | false =>
            rw [zr] at e262
            rw [if_neg (by decide)]
            obtain ⟨σ1, k1, F1, a1, w1⟩ := s247 (d := d) (by omega) (FQ.rf hy)
            obtain ⟨σ2, k2, F2, a2, w2⟩ := s264 (d := d) (by omega) h9 q2 true (gn := fun _ => false) (gn' := inT L []) F1 (fun u hu => w1 u hu) (fun u => by
              rw [inT_0]
              cases inC (lN0 L) (lS L) u with
              | true => rfl
              | false => rfl)
            have k2 : clR PG0 MX d 264 [vR 101, vI (lN0 L : Nat), vI (lS L : Nat), vI 1] σ1 = some (0, σ2) := k2
            have F3 : FQ σ (up σ2 110 0 (lS L : Nat)) := F2.upd (by omega) okr_110 (by omega)
            have F4 : FQ σ (up (up σ2 110 0 (lS L : Nat)) 101 21 0) := F3.upf (by omega) okf_21
            have i1 := F1.2
            have y1b := i1.1; have k101b := y101_m1 i1
            have i2 := F2.2
            have y1c := i2.1; have k101c := y101_m1 i2; have p110c := y101_20 i2; have k110c := y110_m1 i2; have l110c := y110_m2 i2
            have i3 := F3.2
            have y1e := i3.1; have k101e := y101_m1 i3
            have i4 := F4.2
            have y1f := i4.1; have k101f := y101_m1 i4
            have M4 : MRS σ (up (up σ2 110 0 (lS L : Nat)) 101 21 0) (pth L []) (inT L []) 0 := by
              refine ⟨F4, ⟨hw.1.1, hw.1.2.1, hw.1.2.2.1, q2, Nat.zero_le _, fun b hb => by cases hb⟩, fun w hw2 => ?_, fun i hi => ?_, fun i x hx => (by cases hx), up_s _ _ _ _⟩
              · rw [up_n1 _ _ _ _ (by omega), up_n1 _ _ _ _ (by omega)]; exact w2 w hw2
              · have hi : i ≤ 0 := hi
                have : i = 0 := by omega
                rw [this, wd_0, up_n1 _ _ _ _ (by omega)]
                exact up_s _ _ _ _
            have e263 := s263 (d := d) (by omega) (up (up σ2 110 0 (lS L : Nat)) 101 21 0) (w := lS L) (b := rn) h9 q2 (by omega)
            obtain ⟨σ5, k5, F5, j5⟩ := s265 h1N (g := rl (lN0 L) (lS L) rn) (p := pn) (T := tn) (rl_lt _ _ _) (by omega) (by omega) pn d [] 0 _ (by omega) (Nat.add_zero _) (Or.inl M4) (Nat.zero_le _)
            have k5 : clR PG0 MX d 265 [vR 101, vI (lN0 L : Nat), vI 0, vI (pn : Int), vI (rl (lN0 L) (lS L) rn : Nat), vI (tn : Int)] (up (up σ2 110 0 (lS L : Nat)) 101 21 0) = some (_, σ5) := k5
            have st3 : rsP PG0 MX d 260 96 [vR 101, vI n, vI (pn : Int), vI (rn : Int), vI (tn : Int), vI (lN0 L : Nat), vI (lS L : Nat), vU, vU] [] σ = rsP PG0 MX d 260 156 [vR 101, vI n, vI (pn : Int), vI (rn : Int), vI (tn : Int), vI (lN0 L : Nat), vI (lS L : Nat), vI (sch (frT L (rl (lN0 L) (lS L) rn) pn) some (lN0 L) tn pn [] 0).1, vU] [] σ5 := by
              rw [sg_260_96]
              repeat (first | ((with_reducible refine step_t ?_ ?_); with_reducible exact True.intro) | ((with_reducible refine step_t ?_ ?_); omega) | ((with_reducible refine step_f ?_ ?_); omega))
              refine step_c (e262) ?_
              try dsimp only
              rw [wr_b2i]
              refine step_t (show b2i false = 0 by decide) ?_
              repeat (first | ((with_reducible refine step_t ?_ ?_); with_reducible exact True.intro) | ((with_reducible refine step_t ?_ ?_); omega) | ((with_reducible refine step_f ?_ ?_); omega))
              refine step_c (k1) ?_
              try dsimp only
              repeat (first | ((with_reducible refine step_t ?_ ?_); with_reducible exact True.intro) | ((with_reducible refine step_t ?_ ?_); omega) | ((with_reducible refine step_f ?_ ?_); omega))
              refine step_c (k2) ?_
              try dsimp only
              (try simp (disch := omega) only [p110c, wr_id2])
              repeat (first | ((with_reducible refine step_t ?_ ?_); with_reducible exact True.intro) | ((with_reducible refine step_t ?_ ?_); omega) | ((with_reducible refine step_f ?_ ?_); omega))
              refine step_c (e263) ?_
              try dsimp only
              repeat (first | ((with_reducible refine step_t ?_ ?_); with_reducible exact True.intro) | ((with_reducible refine step_t ?_ ?_); omega) | ((with_reducible refine step_f ?_ ?_); omega))
              refine step_c (k5) ?_
              try dsimp only
            have st := st.trans st3
            have i5 := F5.2
            have y1g := i5.1; have k101g := y101_m1 i5
            generalize sch (frT L (rl (lN0 L) (lS L) rn) pn) some (lN0 L) tn pn [] 0 = R at *
            rcases j5 with ⟨r1, r2, r3, r4⟩ | r1 | ⟨r1, r2, r3⟩
            · rw [if_pos r1]
              have e0 := trM_0 (N := lN0 L) (p := pn) (r := rn) r4 r3.2.2.2.2.2
              have hpl : pn ≤ lN0 L * pn := by
                have := Nat.mul_le_mul_right pn (show 1 ≤ lN0 L by omega)
                omega
              obtain ⟨σ6, j1, j2, j3⟩ := s260l (d := d) (by omega) hm hn en hw (l := R.2.1) (p := pn) (r := rn) (by omega) (by omega) z5 (lN0 L * pn - pn) pn σ5 (vI (tn : Int)) (vI R.1) (by omega) (Nat.le_refl _) F5 (fun i hi => r2 i _ (by have := trM_at (f := trF (lN0 L) pn rn R.2.1) hi; rw [e0] at this; exact this))
              refine ⟨σ6, st.trans ?_, j2.fl, j3⟩
              rw [sg_260_156]
              refine step_t (by rw [r1]) ?_
              exact j1
            · rw [if_neg (by omega), if_neg (by omega)]
              refine ⟨σ5, st.trans ?_, F5.fm.fl, F5.mr hm⟩
              rw [sg_260_156, r1]
              refine step_f (by decide) ?_
              refine step_t (by decide) ?_
              rfl
            · rw [if_neg (by omega), if_pos r1]
              refine ⟨σ5, st.trans ?_, F5.fm.fl, F5.mr hm⟩
              rw [sg_260_156, r1]
              refine step_f (by decide) ?_
              refine step_f (by decide) ?_
              rfl
        · rw [if_neg (by omega)]
          have hpd : 256 / lN0 L < pn := by
            by_cases q : pn ≤ 256 / lN0 L
            · exact absurd (dq.mp q) z5
            · omega
          refine ⟨σ, start.trans ?_, (FM.rf hy).fl, hm⟩
          rw [sg_260_52]
          repeat (first | ((with_reducible refine step_t ?_ ?_); with_reducible exact True.intro) | ((with_reducible refine step_t ?_ ?_); omega) | ((with_reducible refine step_f ?_ ?_); omega))
          refine step_c (e207) ?_
          try dsimp only
          refine step_c (e261) ?_
          try dsimp only
          (try simp (disch := omega) only [wr_id2])
          repeat (first | ((with_reducible refine step_t ?_ ?_); with_reducible exact True.intro) | ((with_reducible refine step_t ?_ ?_); omega) | ((with_reducible refine step_f ?_ ?_); omega))
          refine step_c (e207) ?_
          try dsimp only
          rw [ed]
          clear dq ed z5
          generalize 256 / lN0 L = dv at *
          (try simp (disch := omega) only [wr_id2])
          repeat (first | ((with_reducible refine step_t ?_ ?_); with_reducible exact True.intro) | ((with_reducible refine step_t ?_ ?_); omega) | ((with_reducible refine step_f ?_ ?_); omega))
          rfl
    · rw [if_neg (fun q => z q.1)]
      refine ⟨σ, ?_, (FM.rf hy).fl, hm⟩
      rw [ce_260, sg_260_0]
      repeat (first | ((with_reducible refine step_t ?_ ?_); with_reducible exact True.intro) | ((with_reducible refine step_t ?_ ?_); omega) | ((with_reducible refine step_f ?_ ?_); omega))
      refine step_c (e180) ?_
      try dsimp only
      (try simp (disch := omega) only [wr_id2])
      repeat (first | ((with_reducible refine step_t ?_ ?_); with_reducible exact True.intro) | ((with_reducible refine step_t ?_ ?_); omega) | ((with_reducible refine step_f ?_ ?_); omega))
      refine step_c (e207) ?_
      try dsimp only
      (try simp (disch := omega) only [wr_id2])
      by_cases q1 : (lN0 L : Int) < 2
      · repeat (first | ((with_reducible refine step_t ?_ ?_); with_reducible exact True.intro) | ((with_reducible refine step_t ?_ ?_); omega) | ((with_reducible refine step_f ?_ ?_); omega))
        rw [sg_260_65]
      · by_cases q2 : p < 1
        · repeat (first | ((with_reducible refine step_t ?_ ?_); with_reducible exact True.intro) | ((with_reducible refine step_t ?_ ?_); omega) | ((with_reducible refine step_f ?_ ?_); omega))
          rw [sg_260_65]
        · repeat (first | ((with_reducible refine step_t ?_ ?_); with_reducible exact True.intro) | ((with_reducible refine step_t ?_ ?_); omega) | ((with_reducible refine step_f ?_ ?_); omega))
          by_cases q3 : 1 ≤ T ∧ T ≤ 50000
          · rw [decide_eq_true q3] at eT
            rw [decide_eq_false (show ¬ (1 ≤ r ∧ r ≤ (lN0 L : Int) - 1) by omega)] at er
            refine step_c (eT) ?_
            try dsimp only
            rw [wr_b2i]
            refine step_f (show ¬ (b2i true = 0) by decide) ?_
            repeat (first | ((with_reducible refine step_t ?_ ?_); with_reducible exact True.intro) | ((with_reducible refine step_t ?_ ?_); omega) | ((with_reducible refine step_f ?_ ?_); omega))
            refine step_c (e207) ?_
            try dsimp only
            (try simp (disch := omega) only [wr_id2])
            refine step_c (er) ?_
            try dsimp only
            rw [wr_b2i]
            refine step_t (show b2i false = 0 by decide) ?_
            rw [sg_260_65]
          · rw [decide_eq_false q3] at eT
            refine step_c (eT) ?_
            try dsimp only
            rw [wr_b2i]
            refine step_t (show b2i false = 0 by decide) ?_
            rw [sg_260_65]
