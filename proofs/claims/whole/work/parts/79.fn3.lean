/-! FINDS: the reference -/
def MRS (σ0 σ : HP) (P : LB) (gn : Nat → Bool) (t : Nat) : Prop := FQ σ0 σ ∧ wf0 P ∧ (∀ w : Nat, w < 256 → σ 109 w = b2i (gn w)) ∧ (∀ i : Nat, i ≤ (lT P).length → σ 110 i = (wd P i : Nat)) ∧ (∀ i x : Nat, (lT P)[i]? = some x → σ 105 i = x) ∧ σ 101 21 = t
def MF (σ0 σ : HP) (L : LB) (law : Int) (W : Nat) (l : List Nat) (t : Nat) : Prop := MRS σ0 σ (pth L l) (inP L l) t ∧ σ 101 22 = (W : Int) + 1 ∧ σ 101 23 = law
theorem s249l {d : Nat} (h : 3 ≤ d) {σ0 σ : HP} {n : Nat} (hn : n < 3) {L : LB} {l : List Nat} (hr0 : slR σ0 n L) (hw : wf0 (pth L l)) (hF : FQ σ0 σ) {j : Nat} (h5 : σ 101 5 = (l.length : Int) + 1) (hl : l.length < 256) (h110 : ∀ i : Nat, i ≤ l.length → σ 110 i = (wd (pth L l) i : Nat)) : ∀ (m i : Nat) (z : Bool) (u2 u3 : MV), i + m = (l.length + 1) / 2 → rsP PG0 MX d 249 87 [vR 101, vI n, u2, u3, vI (b2i z), vI i] [] σ = some (b2i (z && oppF (pth L (l ++ [j])) ((l.length + 1) / 2) m i), σ) := by
  have hy := hF.2
  have y1 := hy.1; have k101 := y101_m1 hy; have p110 := y101_20 hy; have k110 := y110_m1 hy; have l110 := y110_m2 hy
  have hr := slR_fq hF hr0
  have h9 : lN0 L ≤ 8 := hw.1
  have hp8 := pow8 h9
  have hp0 := Nat.two_pow_pos (lN0 L)
  have e207 := s207 (d := d) (by omega) hy hn hr
  have sh := shl1 (x := lN0 L) (by omega)
  have ed : i_div ((l.length : Int) + 1) 2 = (((l.length + 1) / 2 : Nat) : Int) := i_div_n (a := l.length + 1) (b := 2) (by omega) (by omega) (by omega)
  intro m
  induction m with
  | zero =>
    intro i z u2 u3 hi
    show _ = some (b2i (z && true), σ)
    rw [Bool.and_true, sg_249_87]
    (try simp (disch := omega) only [h5, ed, wr_id2])
    repeat (first | ((with_reducible refine step_t ?_ ?_); with_reducible exact True.intro) | ((with_reducible refine step_t ?_ ?_); omega) | ((with_reducible refine step_f ?_ ?_); omega))
    refine step_t (b2i_01 z) ?_
    rfl
  | succ m ih =>
    intro i z u2 u3 hi
    cases z with
    | false =>
      rw [Bool.false_and, sg_249_87]
      (try simp (disch := omega) only [h5, ed, wr_id2])
      repeat (first | ((with_reducible refine step_t ?_ ?_); with_reducible exact True.intro) | ((with_reducible refine step_t ?_ ?_); omega) | ((with_reducible refine step_f ?_ ?_); omega))
      refine step_t (show wr (b2i false) = 0 by decide) ?_
      refine step_t (b2i_01 _) ?_
      rfl
    | true =>
      have q1 := wd_256 hw i
      have q2 := wd_256 hw (i + (l.length + 1) / 2)
      have q3 := xor_256 q1 q2
      have e1 := h110 i (by omega)
      have e2 := h110 (i + (l.length + 1) / 2) (by omega)
      rw [Int.natCast_add] at e2
      have ex : i_xor ((wd (pth L l) i : Nat) : Int) ((wd (pth L l) (i + (l.length + 1) / 2) : Nat) : Int) = ((wd (pth L l) i ^^^ wd (pth L l) (i + (l.length + 1) / 2) : Nat) : Int) := i_xor_n (by omega) (by omega)
      have eo : oppF (pth L (l ++ [j])) ((l.length + 1) / 2) (m + 1) i = if wd (pth L l) i ^^^ wd (pth L l) (i + (l.length + 1) / 2) = 2 ^ lN0 L - 1 then oppF (pth L (l ++ [j])) ((l.length + 1) / 2) m (i + 1) else false := by
        show (if wd (pth L (l ++ [j])) i ^^^ wd (pth L (l ++ [j])) (i + (l.length + 1) / 2) = 2 ^ lN0 L - 1 then _ else _) = _
        rw [wd_a (by omega), wd_a (by omega)]
      have t1 := ih (i + 1) true vU vU (by omega)
      have t0 := ih (i + 1) false vU vU (by omega)
      rw [Bool.true_and] at t1
      rw [Bool.false_and] at t0
      rw [Bool.true_and, eo, sg_249_87]
      (try simp (disch := omega) only [h5, ed, wr_id2])
      repeat (first | ((with_reducible refine step_t ?_ ?_); with_reducible exact True.intro) | ((with_reducible refine step_t ?_ ?_); omega) | ((with_reducible refine step_f ?_ ?_); omega))
      refine step_f (show ¬ (wr (b2i true) = 0) by decide) ?_
      (try simp (disch := omega) only [p110, e1, e2, ex, wr_id2])
      repeat (first | ((with_reducible refine step_t ?_ ?_); with_reducible exact True.intro) | ((with_reducible refine step_t ?_ ?_); omega) | ((with_reducible refine step_f ?_ ?_); omega))
      refine step_c (e207) ?_
      try dsimp only
      rw [sh]
      (try simp (disch := omega) only [wr_id2])
      by_cases z2 : wd (pth L l) i ^^^ wd (pth L l) (i + (l.length + 1) / 2) = 2 ^ lN0 L - 1
      · rw [if_pos z2]
        refine step_f (by omega) ?_
        exact t1
      · rw [if_neg z2]
        refine step_t (by omega) ?_
        exact t0
theorem s249 {d : Nat} (h : 9 ≤ d) {σ0 σ : HP} {n : Nat} (hn : n < 3) {L : LB} (hr0 : slR σ0 n L) {law : Int} (hlaw : 0 ≤ law ∧ law ≤ 3) {W t : Nat} {l : List Nat} (hM : MF σ0 σ L law W l t) (hl : l.length < 256) : ∃ σ', clR PG0 MX d 249 [vR 101, vI n, vI l.length] (up σ 101 5 (l.length : Nat)) = some (b2i (enF L law l).isSome, σ') ∧ FQ σ0 σ' ∧ (∀ l', enF L law l = some l' → mdR σ' l' ∧ wf0 (pth L l')) ∧ (enF L law l = none → MF σ0 σ' L law W l t) := by
  obtain ⟨d, rfl⟩ := ob1 (show 1 ≤ d by omega)
  obtain ⟨⟨hF, hw, h109, h110, h105, h21⟩, h22, h23⟩ := id hM
  have h110 : ∀ i : Nat, i ≤ l.length → σ 110 i = (wd (pth L l) i : Nat) := h110
  have h105 : ∀ i x : Nat, l[i]? = some x → σ 105 i = x := h105
  have hF1 : FQ σ0 (up σ 101 5 (l.length : Nat)) := hF.upf (by omega) okf_5
  have hy := hF1.2
  have y1 := hy.1; have k101 := y101_m1 hy; have p105 := y101_4 hy; have k105 := y105_m1 hy; have l105 := y105_m2 hy; have p110 := y101_20 hy; have k110 := y110_m1 hy; have l110 := y110_m2 hy
  have h9 : lN0 L ≤ 8 := hw.1
  have hp8 := pow8 h9
  have e23 : (up σ 101 5 (l.length : Nat)) 101 23 = law := by rw [up_n2 _ _ _ _ (by omega)]; exact h23
  have md0 : mdR (up σ 101 5 (l.length : Nat)) l := ⟨up_s _ _ _ _, by omega, fun i x hx => by rw [up_n1 _ _ _ _ (by omega)]; exact h105 i x hx⟩
  have M1 : MF σ0 (up σ 101 5 (l.length : Nat)) L law W l t := ⟨⟨hF1, hw, fun w hw2 => by rw [up_n1 _ _ _ _ (by omega)]; exact h109 w hw2, fun i hi => by rw [up_n1 _ _ _ _ (by omega)]; exact h110 i hi, fun i x hx => by rw [up_n1 _ _ _ _ (by omega)]; exact h105 i x hx, by rw [up_n2 _ _ _ _ (by omega)]; exact h21⟩, by rw [up_n2 _ _ _ _ (by omega)]; exact h22, e23⟩
  have j110 : ∀ i : Nat, i ≤ l.length → (up σ 101 5 (l.length : Nat)) 110 i = (wd (pth L l) i : Nat) := fun i hi => by rw [up_n1 _ _ _ _ (by omega)]; exact h110 i hi
  unfold enF
  by_cases z0 : law = 1 ∨ law = 3
  · have q1 : wd (pth L l) l.length < 2 ^ lN0 L := wd_lt hw l.length
    have q2 : lS L < 2 ^ lN0 L := hw.2.2.2.1
    have q3 := Nat.xor_lt_two_pow q1 q2
    have e1 := j110 l.length (Nat.le_refl _)
    have e0 := j110 0 (Nat.zero_le _)
    rw [wd_0] at e0
    have e0 : (up σ 101 5 (l.length : Nat)) 110 0 = (lS L : Nat) := e0
    have ex : i_xor ((wd (pth L l) l.length : Nat) : Int) ((lS L : Nat) : Int) = ((wd (pth L l) l.length ^^^ lS L : Nat) : Int) := i_xor_n (by omega) (by omega)
    have hxx : ∀ v, wd (pth L l) l.length ^^^ lS L = v → wd (pth L l) l.length ^^^ v = lS L := fun v hv => by rw [← hv, ← Nat.xor_assoc, Nat.xor_self, Nat.zero_xor]
    rw [if_pos z0]
    generalize hx : wd (pth L l) l.length ^^^ lS L = x at *
    have hxx := hxx x rfl
    have e209 := s209 (d := d) (by omega) (up σ 101 5 (l.length : Nat)) (x := x) (by omega)
    by_cases z1 : pop x = 1
    · rw [if_pos z1]
      obtain ⟨x0, x1⟩ := popo (by omega) z1
      have xl := low_N h9 q3 z1
      have e243 := s243 (d := d) (by omega) (up σ 101 5 (l.length : Nat)) x0 (by omega)
      have hwp : wf0 (pth L (l ++ [lowN 31 x])) := wf_push (L := pth L l) hw xl hl
      have hF2 : FQ σ0 (up (up σ 101 5 (l.length : Nat)) 105 (l.length : Nat) (lowN 31 x : Nat)) := hF1.upd (by omega) okr_105 (by omega)
      have hF3 : FQ σ0 (up (up (up σ 101 5 (l.length : Nat)) 105 (l.length : Nat) (lowN 31 x : Nat)) 101 5 ((l.length : Int) + 1)) := hF2.upf (by omega) okf_5
      have hy2 := hF2.2
      have y1b := hy2.1; have k101b := y101_m1 hy2; have p105b := y101_4 hy2; have k105b := y105_m1 hy2; have l105b := y105_m2 hy2
      have hy3 := hF3.2
      have y1c := hy3.1; have k101c := y101_m1 hy3
      have md3 : mdR (up (up (up σ 101 5 (l.length : Nat)) 105 (l.length : Nat) (lowN 31 x : Nat)) 101 5 ((l.length : Int) + 1)) (l ++ [lowN 31 x]) := by
        refine ⟨by rw [up_s, len_a]; rfl, by rw [len_a]; omega, fun i y hy => ?_⟩
        rw [up_n1 _ _ _ _ (by omega)]
        by_cases zz : i < l.length
        · rw [List.getElem?_append_left zz] at hy
          rw [up_n2 _ _ _ _ (by omega), up_n1 _ _ _ _ (by omega)]
          exact h105 i y hy
        · have hi : i < (l ++ [lowN 31 x]).length := by
            by_cases q : i < (l ++ [lowN 31 x]).length
            · exact q
            · rw [List.getElem?_eq_none (by omega)] at hy; cases hy
          rw [len_a] at hi
          have ei : i = l.length := by omega
          rw [ei] at hy ⊢
          rw [List.getElem?_append_right (Nat.le_refl _), Nat.sub_self] at hy
          have hy : some (lowN 31 x) = some y := hy
          rw [up_s, Option.some.inj hy]
      have M3 : MF σ0 (up (up (up σ 101 5 (l.length : Nat)) 105 (l.length : Nat) (lowN 31 x : Nat)) 101 5 ((l.length : Int) + 1)) L law W l t := ⟨⟨hF3, hw, fun w hw2 => by rw [up_n1 _ _ _ _ (by omega), up_n1 _ _ _ _ (by omega), up_n1 _ _ _ _ (by omega)]; exact h109 w hw2, fun i hi => by rw [up_n1 _ _ _ _ (by omega), up_n1 _ _ _ _ (by omega), up_n1 _ _ _ _ (by omega)]; exact h110 i hi, fun i y hy => by
          have hi : i < l.length := by
            by_cases q : i < l.length
            · exact q
            · have hy : l[i]? = some y := hy
              rw [List.getElem?_eq_none (by omega)] at hy; cases hy
          rw [up_n1 _ _ _ _ (by omega), up_n2 _ _ _ _ (by omega), up_n1 _ _ _ _ (by omega)]; exact h105 i y hy, by rw [up_n2 _ _ _ _ (by omega), up_n1 _ _ _ _ (by omega), up_n2 _ _ _ _ (by omega)]; exact h21⟩, by rw [up_n2 _ _ _ _ (by omega), up_n1 _ _ _ _ (by omega), up_n2 _ _ _ _ (by omega)]; exact h22, by rw [up_n2 _ _ _ _ (by omega), up_n1 _ _ _ _ (by omega), up_n2 _ _ _ _ (by omega)]; exact h23⟩
      have f23 : (up (up (up σ 101 5 (l.length : Nat)) 105 (l.length : Nat) (lowN 31 x : Nat)) 101 5 ((l.length : Int) + 1)) 101 23 = law := M3.2.2
      have f5 : (up (up (up σ 101 5 (l.length : Nat)) 105 (l.length : Nat) (lowN 31 x : Nat)) 101 5 ((l.length : Int) + 1)) 101 5 = (l.length : Int) + 1 := up_s _ _ _ _
      have er : i_rem ((l.length : Int) + 1) 2 = (((l.length + 1) % 2 : Nat) : Int) := i_rem_n (a := l.length + 1) (b := 2) (by omega) (by omega) (by omega)
      have lop := fun z => s249l (d := d) (by omega) hn hr0 hw hF3 (j := lowN 31 x) f5 hl M3.1.2.2.2.1 ((l.length + 1) / 2) 0 z vU vU (by omega)
      have eo : oppB (pth L (l ++ [lowN 31 x])) = (decide ((l.length + 1) % 2 = 0) && oppF (pth L (l ++ [lowN 31 x])) ((l.length + 1) / 2) ((l.length + 1) / 2) 0) := by
        unfold oppB
        have e1 : lpB (pth L (l ++ [lowN 31 x])) = true := by
          unfold lpB
          show (decide (0 < (l ++ [lowN 31 x]).length) && decide (wd (pth L (l ++ [lowN 31 x])) (l ++ [lowN 31 x]).length = wd (pth L (l ++ [lowN 31 x])) 0)) = true
          rw [len_a, wd_e, wd_0, ← x1, hxx, decide_eq_true (by omega), decide_eq_true rfl]
          rfl
        rw [e1, Bool.true_and]
        show (decide ((l ++ [lowN 31 x]).length % 2 = 0) && oppF (pth L (l ++ [lowN 31 x])) ((l ++ [lowN 31 x]).length / 2) ((l ++ [lowN 31 x]).length / 2) 0) = _
        rw [len_a]
      have run : ∀ X, (if law = 3 then (some (b2i (oppB (pth L (l ++ [lowN 31 x]))), (up (up (up σ 101 5 (l.length : Nat)) 105 (l.length : Nat) (lowN 31 x : Nat)) 101 5 ((l.length : Int) + 1))) : Option (Int × HP)) else some (1, (up (up (up σ 101 5 (l.length : Nat)) 105 (l.length : Nat) (lowN 31 x : Nat)) 101 5 ((l.length : Int) + 1)))) = X → clR PG0 MX (d + 1) 249 [vR 101, vI n, vI l.length] (up σ 101 5 (l.length : Nat)) = X := fun X hX => by
        rw [ce_249, sg_249_0]
        (try simp (disch := omega) only [e23, p110, e1, e0, ex, wr_id2])
        repeat (first | ((with_reducible refine step_t ?_ ?_); with_reducible exact True.intro) | ((with_reducible refine step_t ?_ ?_); omega) | ((with_reducible refine step_f ?_ ?_); omega))
        refine step_c (e209) ?_
        try dsimp only
        rw [z1]
        refine step_t rfl ?_
        repeat (first | ((with_reducible refine step_t ?_ ?_); with_reducible exact True.intro) | ((with_reducible refine step_t ?_ ?_); omega) | ((with_reducible refine step_f ?_ ?_); omega))
        refine step_c (e243) ?_
        try dsimp only
        (try simp (disch := omega) only [p105, wr_id2])
        repeat (first | ((with_reducible refine step_t ?_ ?_); with_reducible exact True.intro) | ((with_reducible refine step_t ?_ ?_); omega) | ((with_reducible refine step_f ?_ ?_); omega))
        (try simp (disch := omega) only [f23, f5, er, wr_id2])
        by_cases z3 : law = 3
        · rw [if_pos z3, eo] at hX
          by_cases z4 : (l.length + 1) % 2 = 0
          · rw [decide_eq_true z4] at hX
            repeat (first | ((with_reducible refine step_t ?_ ?_); with_reducible exact True.intro) | ((with_reducible refine step_t ?_ ?_); omega) | ((with_reducible refine step_f ?_ ?_); omega))
            exact (lop true).trans hX
          · rw [decide_eq_false z4] at hX
            repeat (first | ((with_reducible refine step_t ?_ ?_); with_reducible exact True.intro) | ((with_reducible refine step_t ?_ ?_); omega) | ((with_reducible refine step_f ?_ ?_); omega))
            exact (lop false).trans hX
        · rw [if_neg z3] at hX
          repeat (first | ((with_reducible refine step_t ?_ ?_); with_reducible exact True.intro) | ((with_reducible refine step_t ?_ ?_); omega) | ((with_reducible refine step_f ?_ ?_); omega))
          exact hX
      by_cases z2 : law = 3 ∧ oppB (pth L (l ++ [lowN 31 x])) = false
      · rw [if_pos z2]
        refine ⟨_, run _ ?_, hF3, fun l' q => (by cases q), fun _ => M3⟩
        rw [if_pos z2.1, z2.2]
        rfl
      · rw [if_neg z2]
        refine ⟨_, run _ ?_, hF3, fun l' q => (by cases q; exact ⟨md3, hwp⟩), fun q => (by cases q)⟩
        by_cases z3 : law = 3
        · rw [if_pos z3]
          rw [show oppB (pth L (l ++ [lowN 31 x])) = true by
            cases q : oppB (pth L (l ++ [lowN 31 x])) with
            | true => rfl
            | false => exact absurd ⟨z3, q⟩ z2]
          rfl
        · rw [if_neg z3]
          rfl
    · rw [if_neg z1]
      refine ⟨_, ?_, hF1, fun l' q => (by cases q), fun _ => M1⟩
      have p8 := pop_le x (by omega)
      rw [ce_249, sg_249_0]
      (try simp (disch := omega) only [e23, p110, e1, e0, ex, wr_id2])
      repeat (first | ((with_reducible refine step_t ?_ ?_); with_reducible exact True.intro) | ((with_reducible refine step_t ?_ ?_); omega) | ((with_reducible refine step_f ?_ ?_); omega))
      refine step_c (e209) ?_
      try dsimp only
      (try simp (disch := omega) only [wr_id2])
      repeat (first | ((with_reducible refine step_t ?_ ?_); with_reducible exact True.intro) | ((with_reducible refine step_t ?_ ?_); omega) | ((with_reducible refine step_f ?_ ?_); omega))
      rfl
  · rw [if_neg z0]
    refine ⟨_, ?_, hF1, fun l' q => (by cases q; exact ⟨md0, hw⟩), fun q => (by cases q)⟩
    rw [ce_249, sg_249_0]
    (try simp (disch := omega) only [e23, wr_id2])
    by_cases z1 : law = 0
    · repeat (first | ((with_reducible refine step_t ?_ ?_); with_reducible exact True.intro) | ((with_reducible refine step_t ?_ ?_); omega) | ((with_reducible refine step_f ?_ ?_); omega))
      rfl
    · repeat (first | ((with_reducible refine step_t ?_ ?_); with_reducible exact True.intro) | ((with_reducible refine step_t ?_ ?_); omega) | ((with_reducible refine step_f ?_ ?_); omega))
      rfl
