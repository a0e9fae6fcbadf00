/-- twists -/
theorem m267 (S : AS) {s i j : Int} (hs : i32 s) (hi : i32 i) (hj : i32 j) : mOp 267 [vI s, vI i, vI j] S (aA S s (twsF i j)) := by
  intro d σ h hy ht hm
  obtain ⟨d, rfl⟩ := ob1 (show 1 ≤ d by omega)
  have y1 := hy.1; have k101 := y101_m1 hy; have p102 := y101_0 hy; have k102 := y102_m1 hy; have l102 := y102_m2 hy; have p107 := y101_15 hy; have k107 := y107_m1 hy; have l107 := y107_m2 hy; have p108 := y101_16 hy; have k108 := y108_m1 hy; have l108 := y108_m2 hy
  unfold aA
  cases e : gl S s with
  | none =>
    refine ⟨σ, ?_, (FM.rf hy).fl, hm⟩
    rw [ce_267, sg_267_0]
    repeat (first | ((with_reducible refine step_t ?_ ?_); with_reducible exact True.intro) | ((with_reducible refine step_t ?_ ?_); omega) | ((with_reducible refine step_f ?_ ?_); omega))
    refine step_c (s180n (by omega) hy hm hs e) ?_
    try dsimp only
    (try simp (disch := omega) only [wr_id2])
    repeat (first | ((with_reducible refine step_t ?_ ?_); with_reducible exact True.intro) | ((with_reducible refine step_t ?_ ?_); omega) | ((with_reducible refine step_f ?_ ?_); omega))
    rfl
  | some L =>
    have e180 := s180s (d := d) (by omega) hy hm hs e
    obtain ⟨n, rfl, hn, hr, hw, en⟩ := hm.got e
    have hl := wf_len hw.1
    have h9 := hw.1.1
    have h1N := hw.2.1
    have hp8 := pow8 hw.1.1
    have hp0 := Nat.two_pow_pos (lN0 L)
    have hsh := shN_le L
    dsimp only
    have x1 := hi.1
    have x2 := hi.2
    have y4 := hj.1
    have y5 := hj.2
    have e204 := s204 (d := d) (by omega) hy hn hr
    unfold twsF
    by_cases za : 0 ≤ i ∧ i < j ∧ j < (lT L).length
    · rw [if_pos za]
      obtain ⟨σ1, k1, k2, k3, k4⟩ := s203 (d := d) (by omega) hy hn hr hw.1
      have hy1 := k2.2
      have y1b := hy1.1; have k101b := y101_m1 hy1; have p107b := y101_15 hy1; have k107b := y107_m1 hy1; have l107b := y107_m2 hy1
      have e268 := s268 (d := d) (by omega) hy1 k4 hw.1 (i := i.toNat) (j := j.toNat) (by omega) (by omega)
      have ea : ((i.toNat : Nat) : Int) = i := by omega
      have eb : ((j.toNat : Nat) : Int) = j := by omega
      rw [ea, eb] at e268
      cases ht : twB L i.toNat j.toNat with
      | true =>
        rw [if_pos rfl]
        dsimp only
        rw [tnn]
        rw [ht] at e268
        have ht2 := ht
        unfold twB at ht2
        rw [Bool.and_eq_true] at ht2
        obtain ⟨u1, u2⟩ := pop1_low hw.1 (of_decide_eq_true ht2.1)
        obtain ⟨v1, v2⟩ := pop1_low hw.1 (of_decide_eq_true ht2.2)
        have w1 := wd_256 hw.1 i.toNat
        have w2 := wd_256 hw.1 j.toNat
        have w3 := wd_256 hw.1 (i.toNat + 1)
        have w4 := wd_256 hw.1 (j.toNat + 1)
        have w5 := xor_256 w1 w2
        have w6 := xor_256 w3 w4
        have l1 := slc_len (L := L) (i := 0) (n := i.toNat) (by omega)
        have l2 := slc_len (L := L) (i := i.toNat + 1) (n := j.toNat - (i.toNat + 1)) (by omega)
        have l3 := slc_len (L := L) (i := j.toNat + 1) (n := (lT L).length - (j.toNat + 1)) (by omega)
        have D0 := dm_0 hy1
        obtain ⟨σ2, a2, D2⟩ := dm_on (d := d) (by omega) hn k3 hw.1 (i := 0) (j := i.toNat) (by omega) (by omega) D0 (by show 0 + _ ≤ _; omega)
        rw [List.nil_append, Nat.sub_zero] at D2
        obtain ⟨σ3, a3, D3⟩ := dm_push (d := d) (by omega) D2 (by omega) (lowN 31 (wd L i.toNat ^^^ wd L j.toNat))
        obtain ⟨σ4, a4, D4⟩ := dm_bk (d := d) (by omega) hn k3 hw.1 (i := i.toNat + 1) (j := j.toNat) (by omega) (by omega) D3 (by rw [List.length_append, l1]; show i.toNat + 1 + _ ≤ _; omega)
        obtain ⟨σ5, a5, D5⟩ := dm_push (d := d) (by omega) D4 (by rw [List.length_append, List.length_append, List.length_reverse, l1, l2]; show i.toNat + 1 + _ < 600; omega) (lowN 31 (wd L (i.toNat + 1) ^^^ wd L (j.toNat + 1)))
        obtain ⟨σ6, a6, D6⟩ := dm_on (d := d) (by omega) hn k3 hw.1 (i := j.toNat + 1) (j := (lT L).length) (by omega) (by omega) D5 (by rw [List.length_append, List.length_append, List.length_append, List.length_reverse, l1, l2]; show i.toNat + 1 + _ + 1 + _ ≤ 600; omega)
        have D6 : DM σ1 σ6 (twsL L i.toNat j.toNat) := D6
        have elen := twsL_len (L := L) (i := i.toNat) (j := j.toNat) (by omega) (by omega)
        have hwM : wfL (dlL L (lS L) (twsL L i.toNat j.toNat)) := wf_rev hw hw.1.2.2.2.1 (by omega) (fun b hb => by
          unfold twsL at hb
          simp only [List.mem_append, List.mem_singleton, List.mem_reverse] at hb
          rcases hb with (((q | q) | q) | q) | q
          · exact slc_mem hw.1 q
          · omega
          · exact slc_mem hw.1 q
          · omega
          · exact slc_mem hw.1 q)
        obtain ⟨σ7, j1, j2, j3⟩ := dm_ch (d := d) (by omega) (k2.mr hm) hn en D6 hwM (((lT L).length : Nat) : Int)
        have e5 := D6.len
        rw [elen] at e5
        rw [ea] at a2
        rw [show ((i.toNat + 1 : Nat) : Int) = i + 1 by omega, eb] at a4
        rw [show ((j.toNat + 1 : Nat) : Int) = j + 1 by omega] at a6
        have q2 := D2.1.wdr k4
        have q4 := D4.1.wdr k4
        have g1 := q2.1 i.toNat (by omega)
        have g2 := q2.1 j.toNat (by omega)
        have g3 := q4.1 (i.toNat + 1) (by omega)
        have g4 := q4.1 (j.toNat + 1) (by omega)
        rw [ea] at g1
        rw [eb] at g2
        rw [show ((i.toNat + 1 : Nat) : Int) = i + 1 by omega] at g3
        rw [show ((j.toNat + 1 : Nat) : Int) = j + 1 by omega] at g4
        have y2 := D0.1.2
        have y1c := y2.1; have k101c := y101_m1 y2
        have y3 := D2.1.2
        have y1d := y3.1; have k101d := y101_m1 y3; have p107d := y101_15 y3; have k107d := y107_m1 y3; have l107d := y107_m2 y3
        have y6 := D3.1.2
        have y1e := y6.1; have k101e := y101_m1 y6
        have y7 := D4.1.2
        have y1f := y7.1; have k101f := y101_m1 y7; have p107f := y101_15 y7; have k107f := y107_m1 y7; have l107f := y107_m2 y7
        have y8 := D5.1.2
        have y1g := y8.1; have k101g := y101_m1 y8
        have y9 := D6.1.2
        have y1h := y9.1; have k101h := y101_m1 y9
        refine ⟨σ7, ?_, (k2.fm.tr j2).fl, j3⟩
        rw [ce_267, sg_267_0]
        repeat (first | ((with_reducible refine step_t ?_ ?_); with_reducible exact True.intro) | ((with_reducible refine step_t ?_ ?_); omega) | ((with_reducible refine step_f ?_ ?_); omega))
        refine step_c (e180) ?_
        try dsimp only
        (try simp (disch := omega) only [wr_id2])
        repeat (first | ((with_reducible refine step_t ?_ ?_); with_reducible exact True.intro) | ((with_reducible refine step_t ?_ ?_); omega) | ((with_reducible refine step_f ?_ ?_); omega))
        refine step_c (e204) ?_
        try dsimp only
        (try simp (disch := omega) only [wr_id2])
        repeat (first | ((with_reducible refine step_t ?_ ?_); with_reducible exact True.intro) | ((with_reducible refine step_t ?_ ?_); omega) | ((with_reducible refine step_f ?_ ?_); omega))
        refine step_c (k1) ?_
        try dsimp only
        repeat (first | ((with_reducible refine step_t ?_ ?_); with_reducible exact True.intro) | ((with_reducible refine step_t ?_ ?_); omega) | ((with_reducible refine step_f ?_ ?_); omega))
        refine step_c (e268) ?_
        try dsimp only
        rw [wr_b2i]
        refine step_t (show b2i true ≠ 0 by decide) ?_
        rw [sg_267_46]
        repeat (first | ((with_reducible refine step_t ?_ ?_); with_reducible exact True.intro) | ((with_reducible refine step_t ?_ ?_); omega) | ((with_reducible refine step_f ?_ ?_); omega))
        refine step_c (a2) ?_
        try dsimp only
        (try simp (disch := omega) only [p107d, g1, g2, i_xor_n (a := wd L i.toNat) (b := wd L j.toNat) (by omega) (by omega), wr_id2])
        repeat (first | ((with_reducible refine step_t ?_ ?_); with_reducible exact True.intro) | ((with_reducible refine step_t ?_ ?_); omega) | ((with_reducible refine step_f ?_ ?_); omega))
        refine step_c (s243 (by omega) σ2 u1 (by omega)) ?_
        try dsimp only
        repeat (first | ((with_reducible refine step_t ?_ ?_); with_reducible exact True.intro) | ((with_reducible refine step_t ?_ ?_); omega) | ((with_reducible refine step_f ?_ ?_); omega))
        refine step_c (a3) ?_
        try dsimp only
        repeat (first | ((with_reducible refine step_t ?_ ?_); with_reducible exact True.intro) | ((with_reducible refine step_t ?_ ?_); omega) | ((with_reducible refine step_f ?_ ?_); omega))
        refine step_c (a4) ?_
        try dsimp only
        rw [sg_267_87]
        (try simp (disch := omega) only [p107f, g3, g4, i_xor_n (a := wd L (i.toNat + 1)) (b := wd L (j.toNat + 1)) (by omega) (by omega), wr_id2])
        repeat (first | ((with_reducible refine step_t ?_ ?_); with_reducible exact True.intro) | ((with_reducible refine step_t ?_ ?_); omega) | ((with_reducible refine step_f ?_ ?_); omega))
        refine step_c (s243 (by omega) σ4 v1 (by omega)) ?_
        try dsimp only
        repeat (first | ((with_reducible refine step_t ?_ ?_); with_reducible exact True.intro) | ((with_reducible refine step_t ?_ ?_); omega) | ((with_reducible refine step_f ?_ ?_); omega))
        refine step_c (a5) ?_
        try dsimp only
        repeat (first | ((with_reducible refine step_t ?_ ?_); with_reducible exact True.intro) | ((with_reducible refine step_t ?_ ?_); omega) | ((with_reducible refine step_f ?_ ?_); omega))
        refine step_c (s204 (by omega) y8 hn (D5.1.slr k3)) ?_
        try dsimp only
        repeat (first | ((with_reducible refine step_t ?_ ?_); with_reducible exact True.intro) | ((with_reducible refine step_t ?_ ?_); omega) | ((with_reducible refine step_f ?_ ?_); omega))
        refine step_c (a6) ?_
        try dsimp only
        rw [sg_267_124]
        repeat (first | ((with_reducible refine step_t ?_ ?_); with_reducible exact True.intro) | ((with_reducible refine step_t ?_ ?_); omega) | ((with_reducible refine step_f ?_ ?_); omega))
        refine step_c (s181 (by omega) y9 hn (j := 3) (by omega) (by omega)) ?_
        try dsimp only
        rw [(D6.1.slr k3).2.2.2.1]
        (try simp (disch := omega) only [e5, wr_id2])
        repeat (first | ((with_reducible refine step_t ?_ ?_); with_reducible exact True.intro) | ((with_reducible refine step_t ?_ ?_); omega) | ((with_reducible refine step_f ?_ ?_); omega))
        refine step_c (j1) ?_
        try dsimp only
      | false =>
        rw [if_neg (by decide)]
        dsimp only
        rw [ht] at e268
        refine ⟨σ1, ?_, k2.ml, k2.mr hm⟩
        rw [ce_267, sg_267_0]
        repeat (first | ((with_reducible refine step_t ?_ ?_); with_reducible exact True.intro) | ((with_reducible refine step_t ?_ ?_); omega) | ((with_reducible refine step_f ?_ ?_); omega))
        refine step_c (e180) ?_
        try dsimp only
        (try simp (disch := omega) only [wr_id2])
        repeat (first | ((with_reducible refine step_t ?_ ?_); with_reducible exact True.intro) | ((with_reducible refine step_t ?_ ?_); omega) | ((with_reducible refine step_f ?_ ?_); omega))
        refine step_c (e204) ?_
        try dsimp only
        (try simp (disch := omega) only [wr_id2])
        repeat (first | ((with_reducible refine step_t ?_ ?_); with_reducible exact True.intro) | ((with_reducible refine step_t ?_ ?_); omega) | ((with_reducible refine step_f ?_ ?_); omega))
        refine step_c (k1) ?_
        try dsimp only
        repeat (first | ((with_reducible refine step_t ?_ ?_); with_reducible exact True.intro) | ((with_reducible refine step_t ?_ ?_); omega) | ((with_reducible refine step_f ?_ ?_); omega))
        refine step_c (e268) ?_
        try dsimp only
        rw [wr_b2i]
        refine step_f (show ¬ (b2i false ≠ 0) by decide) ?_
        rw [sg_267_43]
    · rw [if_neg za]
      dsimp only
      refine ⟨σ, ?_, (FM.rf hy).fl, hm⟩
      rw [ce_267, sg_267_0]
      repeat (first | ((with_reducible refine step_t ?_ ?_); with_reducible exact True.intro) | ((with_reducible refine step_t ?_ ?_); omega) | ((with_reducible refine step_f ?_ ?_); omega))
      refine step_c (e180) ?_
      try dsimp only
      (try simp (disch := omega) only [wr_id2])
      repeat (first | ((with_reducible refine step_t ?_ ?_); with_reducible exact True.intro) | ((with_reducible refine step_t ?_ ?_); omega) | ((with_reducible refine step_f ?_ ?_); omega))
      refine step_i (fun q => ?_) (fun q => ?_)
      · rfl
      · refine step_i (fun q2 => ?_) (fun q2 => ?_)
        · rfl
        · repeat (first | ((with_reducible refine step_t ?_ ?_); with_reducible exact True.intro) | ((with_reducible refine step_t ?_ ?_); omega) | ((with_reducible refine step_f ?_ ?_); omega))
          refine step_c (e204) ?_
          try dsimp only
          (try simp (disch := omega) only [wr_id2])
          repeat (first | ((with_reducible refine step_t ?_ ?_); with_reducible exact True.intro) | ((with_reducible refine step_t ?_ ?_); omega) | ((with_reducible refine step_f ?_ ?_); omega))
          rfl
/-- swaps -/
def chB (L : LB) (a b j : Nat) : Bool := match (lT L)[j]? with
  | some x => decide (swpT a b x ≠ x)
  | none => false
theorem swp_ne {a b x : Nat} : swpT a b x ≠ x ↔ a ≠ b ∧ (x = a ∨ x = b) := by
  unfold swpT
  by_cases z : x = a
  · rw [if_pos z]; omega
  · rw [if_neg z]
    by_cases z2 : x = b
    · rw [if_pos z2]; omega
    · rw [if_neg z2]; omega
theorem chB_cnt {L : LB} {a b : Nat} : ∀ n, n ≤ (lT L).length → cntB (chB L a b) n = if a = b then 0 else cntB (fun i => decide ((lT L)[i]? = some a)) n + cntB (fun i => decide ((lT L)[i]? = some b)) n := by
  intro n
  induction n with
  | zero => intro _; by_cases z : a = b
            · rw [if_pos z]; rfl
            · rw [if_neg z]; rfl
  | succ n ih =>
    intro hn
    obtain ⟨x, hx⟩ := st_get (L := L) (i := n) (by omega)
    have e : chB L a b n = decide (swpT a b x ≠ x) := by unfold chB; rw [hx]
    rw [cntB_s, ih (by omega), e, cntB_s, cntB_s, hx]
    by_cases z : a = b
    · rw [if_pos z, if_pos z, decide_eq_false (fun q => (swp_ne.mp q).1 z)]; rfl
    · rw [if_neg z, if_neg z]
      by_cases p : x = a
      · rw [decide_eq_true (swp_ne.mpr ⟨z, Or.inl p⟩), decide_eq_true (by rw [p]), decide_eq_false (fun q => z (by have := Option.some.inj q; omega))]
        simp only [cond_true, cond_false]; omega
      · by_cases r : x = b
        · rw [decide_eq_true (swp_ne.mpr ⟨z, Or.inr r⟩), decide_eq_false (fun q => p (Option.some.inj q)), decide_eq_true (by rw [r])]
          simp only [cond_true, cond_false]; omega
        · rw [decide_eq_false (fun q => by have := (swp_ne.mp q).2; omega), decide_eq_false (fun q => p (Option.some.inj q)), decide_eq_false (fun q => r (Option.some.inj q))]
          rfl
set_option maxHeartbeats 4000000 in
theorem sw_st : ∀ S : Nat, S < 256 → ∀ a : Nat, a < 8 → ∀ b : Nat, b < 8 → i_or (i_or (i_and S (i_xor (i_or (i_shl 1 a) (i_shl 1 b)) (-1))) (if btN S a = 1 then i_shl 1 b else 0)) (if btN S b = 1 then i_shl 1 a else 0) = (((if btN S a = btN S b then S else S ^^^ 2 ^ a ^^^ 2 ^ b) : Nat) : Int) := by decide +kernel
theorem s274m {d : Nat} {σ0 : HP} {n : Nat} {L : LB} (hw : wf0 L) {a b : Nat} (ha : a < lN0 L) (hb : b < lN0 L) : ∀ (m i : Nat) (σ : HP) (u : MV), i + m = (lT L).length → FD σ0 σ → σ 101 5 = ((lT L).length : Nat) → (∀ j x : Nat, (lT L)[j]? = some x → σ 105 j = (if j < i then swpT a b x else x : Nat)) → ∃ (σ' : HP) (u' : MV), rsP PG0 MX d 274 32 [vR 101, vI n, vI a, vI b, vI (cntB (chB L a b) i : Nat), vI i, u] [] σ = rsP PG0 MX d 274 32 [vR 101, vI n, vI a, vI b, vI (cntB (chB L a b) (lT L).length : Nat), vI ((lT L).length : Nat), u'] [] σ' ∧ DM σ0 σ' ((lT L).map (swpT a b)) := by
  have hl := wf_len hw
  have h9 := hw.1
  intro m
  induction m with
  | zero =>
    intro i σ u hi hF h5 h1
    have ei : i = (lT L).length := by omega
    subst ei
    refine ⟨σ, u, rfl, hF, by rw [List.length_map]; exact h5, by rw [List.length_map]; omega, fun j y hj => ?_⟩
    rw [List.getElem?_map] at hj
    cases hx : (lT L)[j]? with
    | none => rw [hx] at hj; cases hj
    | some x =>
      rw [hx] at hj
      have hj : some (swpT a b x) = some y := hj
      cases hj
      rw [h1 j x hx, if_pos (List.getElem?_eq_some_iff.mp hx).1]
  | succ m ih =>
    intro i σ u hi hF h5 h1
    have hy := hF.2
    have y1 := hy.1; have k101 := y101_m1 hy; have p105 := y101_4 hy; have k105 := y105_m1 hy; have l105 := y105_m2 hy
    obtain ⟨x, hx⟩ := st_get (L := L) (i := i) (by omega)
    have hxN := st_lt hw hx
    have hsN := swpT_lt (a := a) (b := b) (x := x) ha hb hxN
    have e1 := h1 i x hx
    rw [if_neg (by omega)] at e1
    have hF1 : FD σ0 (up σ 105 (i : Nat) (swpT a b x : Nat)) := ⟨fun c j h2 h3 => by rw [up_n1 _ _ _ _ h2]; exact hF.1 c j h2 h3, hy.upd okr_105 (by omega) (by omega)⟩
    have hy1 := hF1.2
    have y1b := hy1.1; have k101b := y101_m1 hy1; have p105b := y101_4 hy1; have k105b := y105_m1 hy1; have l105b := y105_m2 hy1
    obtain ⟨σ', u', k1, k2⟩ := ih (i + 1) _ vU (by omega) hF1 (by rw [up_n1 _ _ _ _ (by omega)]; exact h5) (fun j y hj => by
      by_cases z : j = i
      · subst z
        rw [hx] at hj
        cases hj
        rw [up_s, if_pos (by omega)]
      · rw [up_n2 _ _ _ _ (by omega), h1 j y hj]
        by_cases z2 : j < i
        · rw [if_pos z2, if_pos (by omega)]
        · rw [if_neg z2, if_neg (by omega)])
    refine ⟨σ', u', ?_, k2⟩
    rw [← k1]
    have ec : chB L a b i = decide (swpT a b x ≠ x) := by unfold chB; rw [hx]
    have e78 : rsP PG0 MX d 274 78 [vR 101, vI n, vI a, vI b, vI (cntB (chB L a b) i : Nat), vI i, vI x] [vI (swpT a b x : Nat), vI i, vR 105] σ = rsP PG0 MX d 274 32 [vR 101, vI n, vI a, vI b, vI (cntB (chB L a b) (i + 1) : Nat), vI ((i + 1 : Nat) : Int), vU] [] (up σ 105 (i : Nat) (swpT a b x : Nat)) := by
      rw [sg_274_78, cntB_s, ec]
      (try simp (disch := omega) only [p105b, up_s, wr_id2])
      repeat (first | ((with_reducible refine step_t ?_ ?_); with_reducible exact True.intro) | ((with_reducible refine step_t ?_ ?_); omega) | ((with_reducible refine step_f ?_ ?_); omega))
      by_cases z : swpT a b x = x
      · rw [decide_eq_false (fun q => q z)]
        refine step_f (by omega) ?_
        rfl
      · rw [decide_eq_true z]
        refine step_t (by omega) ?_
        rfl
    rw [← e78, sg_274_32]
    (try simp (disch := omega) only [h5, p105, e1, wr_id2])
    repeat (first | ((with_reducible refine step_t ?_ ?_); with_reducible exact True.intro) | ((with_reducible refine step_t ?_ ?_); omega) | ((with_reducible refine step_f ?_ ?_); omega))
    unfold swpT
    by_cases z : x = a
    · rw [if_pos z]
      refine step_f (by omega) ?_
      rfl
    · rw [if_neg z]
      refine step_t (by omega) ?_
      by_cases z2 : x = b
      · rw [if_pos z2]
        refine step_f (by omega) ?_
        rfl
      · rw [if_neg z2]
        refine step_t (by omega) ?_
        rfl
theorem m274 (S : AS) {s a b : Int} (hs : i32 s) (hx : i32 a) (hv : i32 b) : mOp 274 [vI s, vI a, vI b] S (aA S s (swpF a b)) := by
  intro d σ h hy ht hm
  obtain ⟨d, rfl⟩ := ob1 (show 1 ≤ d by omega)
  have y1 := hy.1; have k101 := y101_m1 hy; have p102 := y101_0 hy; have k102 := y102_m1 hy; have l102 := y102_m2 hy; have p107 := y101_15 hy; have k107 := y107_m1 hy; have l107 := y107_m2 hy; have p108 := y101_16 hy; have k108 := y108_m1 hy; have l108 := y108_m2 hy
  unfold aA
  cases e : gl S s with
  | none =>
    refine ⟨σ, ?_, (FM.rf hy).fl, hm⟩
    rw [ce_274, sg_274_0]
    repeat (first | ((with_reducible refine step_t ?_ ?_); with_reducible exact True.intro) | ((with_reducible refine step_t ?_ ?_); omega) | ((with_reducible refine step_f ?_ ?_); omega))
    refine step_c (s224n (by omega) hy hm hs hx e) ?_
    try dsimp only
    (try simp (disch := omega) only [wr_id2])
    repeat (first | ((with_reducible refine step_t ?_ ?_); with_reducible exact True.intro) | ((with_reducible refine step_t ?_ ?_); omega) | ((with_reducible refine step_f ?_ ?_); omega))
    rfl
  | some L =>
    have e180 := s224s (d := d) (by omega) hy hm hs hx e
    obtain ⟨n, rfl, hn, hr, hw, en⟩ := hm.got e
    have hl := wf_len hw.1
    have h9 := hw.1.1
    have h1N := hw.2.1
    have hp8 := pow8 hw.1.1
    have hp0 := Nat.two_pow_pos (lN0 L)
    have hsh := shN_le L
    dsimp only
    have f180 := s224s (d := d) (by omega) hy hm hs hv e
    unfold swpF
    by_cases za : 0 ≤ a ∧ a < lN0 L
    · rw [decide_eq_true za] at e180
      by_cases zb : 0 ≤ b ∧ b < lN0 L
      · rw [decide_eq_true zb] at f180
        rw [if_pos ⟨za, zb⟩]
        dsimp only
        rw [tnn]
        obtain ⟨σ1, k1, D1⟩ := s273 (d := d) (by omega) hy hn hr hw.1
        have ea : ((a.toNat : Nat) : Int) = a := by omega
        have eb : ((b.toNat : Nat) : Int) = b := by omega
        obtain ⟨σ2, u', k2, D2⟩ := s274m (d := d) (σ0 := σ) (n := n) hw.1 (a := a.toNat) (b := b.toNat) (by omega) (by omega) (lT L).length 0 σ1 vU (by omega) D1.1 D1.2.1 (fun j x hj => by rw [D1.2.2.2 j x hj, if_neg (by omega)])
        have hS := lS_256 hw.1
        have hwM : wfL (dlL L (swpS L a.toNat b.toNat) ((lT L).map (swpT a.toNat b.toNat))) := wf_rev hw (swpS_lt hw.1 (by omega) (by omega)) (by rw [List.length_map]; exact hl) (fun c hc => by
          obtain ⟨y, y1, y2⟩ := List.mem_map.mp hc
          rw [← y2]
          exact swpT_lt (by omega) (by omega) (hw.1.2.2.2.2.2 y y1))
        have ecnt : (if a = b then (0 : Int) else ((tuN L a.toNat : Nat) : Int) + (tuN L b.toNat : Nat)) = (cntB (chB L a.toNat b.toNat) (lT L).length : Nat) := by
          rw [chB_cnt _ (Nat.le_refl _)]
          by_cases z : a = b
          · rw [if_pos z, if_pos (by rw [z])]; rfl
          · rw [if_neg z, if_neg (by omega)]; rfl
        rw [ecnt]
        obtain ⟨σ3, j1, j2, j3⟩ := dm_ch (d := d) (by omega) hm hn en D2 hwM (cntB (chB L a.toNat b.toNat) (lT L).length : Nat)
        have hst := sw_st (lS L) hS a.toNat (by omega) b.toNat (by omega)
        have hst : _ = ((swpS L a.toNat b.toNat : Nat) : Int) := hst
        rw [← hst] at j1
        have y2 := D2.1.2
        have y1c := y2.1; have k101c := y101_m1 y2
        have e5 := D2.len
        rw [List.length_map] at e5
        have e216 := s216 (d := d) (by omega) σ2 (x := lS L) (k := a.toNat) (by omega) (by omega)
        have e217 := s216 (d := d) (by omega) σ2 (x := lS L) (k := b.toNat) (by omega) (by omega)
        have kd : ∀ (z : Int) (u2 u3 u5 u6 : MV), z = (if btN (lS L) b.toNat = 1 then i_shl 1 (a.toNat : Nat) else 0) → rsP PG0 MX d 274 168 [vR 101, vI n, u2, u3, vI (cntB (chB L a.toNat b.toNat) (lT L).length : Nat), u5, u6] [vI z, vI (i_or (i_and (lS L : Nat) (i_xor (i_or (i_shl 1 (a.toNat : Nat)) (i_shl 1 (b.toNat : Nat))) (-1))) (if btN (lS L) a.toNat = 1 then i_shl 1 (b.toNat : Nat) else 0))] σ2 = some (((cntB (chB L a.toNat b.toNat) (lT L).length : Nat) : Int), σ3) := by
          intro z u2 u3 u5 u6 hz
          subst hz
          rw [sg_274_168]
          repeat (first | ((with_reducible refine step_t ?_ ?_); with_reducible exact True.intro) | ((with_reducible refine step_t ?_ ?_); omega) | ((with_reducible refine step_f ?_ ?_); omega))
          refine step_c (j1) ?_
          try dsimp only
        have kc : ∀ (z : Int) (u6 : MV), z = (if btN (lS L) a.toNat = 1 then i_shl 1 (b.toNat : Nat) else 0) → rsP PG0 MX d 274 147 [vR 101, vI n, vI a, vI b, vI (cntB (chB L a.toNat b.toNat) (lT L).length : Nat), vI (lS L : Nat), u6] [vI z, vI (i_and (lS L : Nat) (i_xor (i_or (i_shl 1 (a.toNat : Nat)) (i_shl 1 (b.toNat : Nat))) (-1)))] σ2 = some (((cntB (chB L a.toNat b.toNat) (lT L).length : Nat) : Int), σ3) := by
          intro z u6 hz
          subst hz
          rw [eb] at e217
          rw [sg_274_147]
          refine step_c (e217) ?_
          try dsimp only
          rw [wr_b2i]
          by_cases q : btN (lS L) b.toNat = 1
          · rw [decide_eq_true q]
            refine step_f (show ¬ (b2i true = 0) by decide) ?_
            exact kd _ _ _ _ _ (by rw [if_pos q, ea])
          · rw [decide_eq_false q]
            refine step_t (show b2i false = 0 by decide) ?_
            exact kd _ _ _ _ _ (by rw [if_neg q])
        rw [ea, eb] at k2
        rw [ea] at e216
        refine ⟨σ3, ?_, j2.fl, j3⟩
        rw [ce_274, sg_274_0]
        repeat (first | ((with_reducible refine step_t ?_ ?_); with_reducible exact True.intro) | ((with_reducible refine step_t ?_ ?_); omega) | ((with_reducible refine step_f ?_ ?_); omega))
        refine step_c (e180) ?_
        try dsimp only
        rw [wr_b2i]
        refine step_f (show ¬ (b2i true = 0) by decide) ?_
        repeat (first | ((with_reducible refine step_t ?_ ?_); with_reducible exact True.intro) | ((with_reducible refine step_t ?_ ?_); omega) | ((with_reducible refine step_f ?_ ?_); omega))
        refine step_c (f180) ?_
        try dsimp only
        rw [wr_b2i]
        refine step_t (show b2i true ≠ 0 by decide) ?_
        repeat (first | ((with_reducible refine step_t ?_ ?_); with_reducible exact True.intro) | ((with_reducible refine step_t ?_ ?_); omega) | ((with_reducible refine step_f ?_ ?_); omega))
        refine step_c (k1) ?_
        try dsimp only
        refine Eq.trans k2 ?_
        rw [sg_274_32]
        (try simp (disch := omega) only [e5, wr_id2])
        repeat (first | ((with_reducible refine step_t ?_ ?_); with_reducible exact True.intro) | ((with_reducible refine step_t ?_ ?_); omega) | ((with_reducible refine step_f ?_ ?_); omega))
        refine step_c (s181 (by omega) y2 hn (j := 3) (by omega) (by omega)) ?_
        try dsimp only
        rw [(D2.1.slr hr).2.2.2.1]
        refine step_c (e216) ?_
        try dsimp only
        rw [wr_b2i]
        by_cases q : btN (lS L) a.toNat = 1
        · rw [decide_eq_true q]
          refine step_f (show ¬ (b2i true = 0) by decide) ?_
          have w := kc (i_shl 1 b) (vI (i_and (lS L : Nat) (i_xor (i_or (i_shl 1 (a.toNat : Nat)) (i_shl 1 (b.toNat : Nat))) (-1)))) (by rw [if_pos q, eb])
          rw [ea, eb] at w
          exact w
        · rw [decide_eq_false q]
          refine step_t (show b2i false = 0 by decide) ?_
          have w := kc 0 (vI (i_and (lS L : Nat) (i_xor (i_or (i_shl 1 (a.toNat : Nat)) (i_shl 1 (b.toNat : Nat))) (-1)))) (by rw [if_neg q])
          rw [ea, eb] at w
          exact w
      · rw [decide_eq_false zb] at f180
        rw [if_neg (fun q => zb q.2)]
        dsimp only
        refine ⟨σ, ?_, (FM.rf hy).fl, hm⟩
        rw [ce_274, sg_274_0]
        repeat (first | ((with_reducible refine step_t ?_ ?_); with_reducible exact True.intro) | ((with_reducible refine step_t ?_ ?_); omega) | ((with_reducible refine step_f ?_ ?_); omega))
        refine step_c (e180) ?_
        try dsimp only
        rw [wr_b2i]
        refine step_f (show ¬ (b2i true = 0) by decide) ?_
        repeat (first | ((with_reducible refine step_t ?_ ?_); with_reducible exact True.intro) | ((with_reducible refine step_t ?_ ?_); omega) | ((with_reducible refine step_f ?_ ?_); omega))
        refine step_c (f180) ?_
        try dsimp only
        rw [wr_b2i]
        refine step_f (show ¬ (b2i false ≠ 0) by decide) ?_
        rfl
    · rw [decide_eq_false za] at e180
      rw [if_neg (fun q => za q.1)]
      dsimp only
      refine ⟨σ, ?_, (FM.rf hy).fl, hm⟩
      rw [ce_274, sg_274_0]
      repeat (first | ((with_reducible refine step_t ?_ ?_); with_reducible exact True.intro) | ((with_reducible refine step_t ?_ ?_); omega) | ((with_reducible refine step_f ?_ ?_); omega))
      refine step_c (e180) ?_
      try dsimp only
      rw [wr_b2i]
      refine step_t (show b2i false = 0 by decide) ?_
      rfl
