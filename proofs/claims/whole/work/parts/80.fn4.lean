/-! FINDS: the reference's search -/
def RC (σ0 : HP) (L : LB) (law : Int) (T W : Nat) (l : List Nat) (σ' : HP) (R : SQ) : Prop := FQ σ0 σ' ∧ ((R.1 = 1 ∧ mdR σ' R.2.1 ∧ wf0 (pth L R.2.1)) ∨ R.1 = -3 ∨ (R.1 = 0 ∧ MF σ0 σ' L law W l R.2.2 ∧ R.2.2 ≤ T))
theorem hi_next {L : LB} {l : List Nat} {k : Nat} : hiN (pth L (l ++ [k])) (l ++ [k]).length = max (hiN (pth L l) l.length) (min (pop (wd (pth L l) l.length)) (pop (wd (pth L l) l.length ^^^ 2 ^ k))) := by
  rw [len_a]
  show max (hiN (pth L (l ++ [k])) l.length) (rung (pth L (l ++ [k])) l.length) = _
  rw [show hiN (pth L (l ++ [k])) l.length = hiN (pth L l) l.length from hiN_push (P := pth L l) _ (Nat.le_refl _)]
  unfold rung
  rw [wd_e, wd_a (Nat.le_refl _)]
theorem MF.push {σ0 σ : HP} {L : LB} {law : Int} {W : Nat} {l : List Nat} {t k : Nat} (hM : MF σ0 σ L law W l t) (hk : k < lN0 L) (hl : l.length < 256) : MF σ0 (up (up (up (up σ 101 21 ((t : Int) + 1)) 109 ((wd (pth L l) l.length ^^^ 2 ^ k : Nat) : Int) 1) 105 (l.length : Nat) k) 110 ((l.length : Int) + 1) ((wd (pth L l) l.length ^^^ 2 ^ k : Nat) : Int)) L law W (l ++ [k]) (t + 1) := by
  obtain ⟨⟨hF, hw, h109, h110, h105, h21⟩, h22, h23⟩ := hM
  have hF1 := (((hF.upf (j := 21) (v := (t : Int) + 1) (by omega) okf_21).upd (a := 109) (j := ((wd (pth L l) l.length ^^^ 2 ^ k : Nat) : Int)) (v := 1) (by omega) okr_109 (by omega)).upd (a := 105) (j := (l.length : Nat)) (v := k) (by omega) okr_105 (by omega)).upd (a := 110) (j := (l.length : Int) + 1) (v := ((wd (pth L l) l.length ^^^ 2 ^ k : Nat) : Int)) (by omega) okr_110 (by omega)
  refine ⟨⟨hF1, wf_push (L := pth L l) hw hk hl, fun w hw2 => ?_, fun i hi => ?_, fun i x hx => ?_, ?_⟩, ?_, ?_⟩
  · rw [up_n1 _ _ _ _ (by omega), up_n1 _ _ _ _ (by omega), inP_a]
    by_cases z : w = wd (pth L l) l.length ^^^ 2 ^ k
    · rw [if_pos z, z, up_s]; rfl
    · rw [if_neg z, up_n2 _ _ _ _ (by omega), up_n1 _ _ _ _ (by omega)]; exact h109 w hw2
  · have hi : i ≤ (l ++ [k]).length := hi
    rw [len_a] at hi
    by_cases z : i = l.length + 1
    · rw [z, wd_e, show ((l.length + 1 : Nat) : Int) = (l.length : Int) + 1 from rfl, up_s]
    · rw [wd_a (by omega), up_n2 _ _ _ _ (by omega), up_n1 _ _ _ _ (by omega), up_n1 _ _ _ _ (by omega), up_n1 _ _ _ _ (by omega)]; exact h110 i (by show i ≤ l.length; omega)
  · have hx : (l ++ [k])[i]? = some x := hx
    rw [up_n1 _ _ _ _ (by omega)]
    by_cases z : i < l.length
    · rw [List.getElem?_append_left z] at hx
      rw [up_n2 _ _ _ _ (by omega), up_n1 _ _ _ _ (by omega), up_n1 _ _ _ _ (by omega)]
      exact h105 i x hx
    · have hi : i < (l ++ [k]).length := by
        by_cases q : i < (l ++ [k]).length
        · exact q
        · rw [List.getElem?_eq_none (by omega)] at hx; cases hx
      rw [len_a] at hi
      have ei : i = l.length := by omega
      rw [ei] at hx ⊢
      rw [List.getElem?_append_right (Nat.le_refl _), Nat.sub_self] at hx
      have hx : some k = some x := hx
      rw [up_s, Option.some.inj hx]
  · rw [up_n1 _ _ _ _ (by omega), up_n1 _ _ _ _ (by omega), up_n1 _ _ _ _ (by omega), up_s]; rfl
  · rw [up_n1 _ _ _ _ (by omega), up_n1 _ _ _ _ (by omega), up_n1 _ _ _ _ (by omega), up_n2 _ _ _ _ (by omega)]; exact h22
  · rw [up_n1 _ _ _ _ (by omega), up_n1 _ _ _ _ (by omega), up_n1 _ _ _ _ (by omega), up_n2 _ _ _ _ (by omega)]; exact h23
theorem MF.back {σ0 σ : HP} {L : LB} {law : Int} {W : Nat} {l : List Nat} {t k : Nat} (hM : MF σ0 σ L law W (l ++ [k]) t) (hw : wf0 (pth L l)) (hg : inP L l (wd (pth L l) l.length ^^^ 2 ^ k) = false) : MF σ0 (up σ 109 ((wd (pth L l) l.length ^^^ 2 ^ k : Nat) : Int) 0) L law W l t := by
  obtain ⟨⟨hF, -, h109, h110, h105, h21⟩, h22, h23⟩ := hM
  have h110 : ∀ i : Nat, i ≤ (l ++ [k]).length → σ 110 i = (wd (pth L (l ++ [k])) i : Nat) := h110
  have h105 : ∀ i x : Nat, (l ++ [k])[i]? = some x → σ 105 i = x := h105
  refine ⟨⟨hF.upd (by omega) okr_109 (by omega), hw, fun w hw2 => ?_, fun i hi => ?_, fun i x hx => ?_, by rw [up_n1 _ _ _ _ (by omega)]; exact h21⟩, by rw [up_n1 _ _ _ _ (by omega)]; exact h22, by rw [up_n1 _ _ _ _ (by omega)]; exact h23⟩
  · by_cases z : w = wd (pth L l) l.length ^^^ 2 ^ k
    · rw [z, up_s, hg]; rfl
    · rw [up_n2 _ _ _ _ (by omega), h109 w hw2, inP_a, if_neg z]
  · have hi : i ≤ l.length := hi
    rw [up_n1 _ _ _ _ (by omega), h110 i (by rw [len_a]; omega), wd_a hi]
  · have hx : l[i]? = some x := hx
    have hi : i < l.length := by
      by_cases q : i < l.length
      · exact q
      · rw [List.getElem?_eq_none (by omega)] at hx; cases hx
    rw [up_n1 _ _ _ _ (by omega)]
    exact h105 i x (by rw [List.getElem?_append_left hi]; exact hx)
theorem s248 {σ0 : HP} {n : Nat} (hn : n < 3) {L : LB} (hr0 : slR σ0 n L) (hwL : wf0 L) {law : Int} (hlaw : 0 ≤ law ∧ law ≤ 3) {T W : Nat} (hT : T ≤ 50000) (hW : W < 256) : ∀ (m : Nat) (d : Nat) (l : List Nat) (t : Nat) (σ : HP), m + 20 ≤ d → m + l.length = W → MF σ0 σ L law W l t → t ≤ T → ∃ σ', clR PG0 MX d 248 [vR 101, vI n, vI l.length, vI (hiN (pth L l) l.length : Nat), vI T] σ = some ((sch (frF L law) (enF L law) (lN0 L) T m l t).1, σ') ∧ RC σ0 L law T W l σ' (sch (frF L law) (enF L law) (lN0 L) T m l t) := by
  intro m
  induction m with
  | zero =>
    intro d l t σ h hm hM ht
    obtain ⟨d, rfl⟩ := ob1 (show 1 ≤ d by omega)
    have hy := hM.1.1.2
    have y1 := hy.1; have k101 := y101_m1 hy
    have e22 := hM.2.1
    obtain ⟨σ1, k1, k2, k3, k4⟩ := s249 (d := d) (by omega) hn hr0 hlaw hM (by omega)
    have hF1 : FQ σ0 (up σ 101 5 (l.length : Nat)) := hM.1.1.upf (by omega) okf_5
    have hy1 := hF1.2
    have y1b := hy1.1; have k101b := y101_m1 hy1
    show ∃ σ', _ = some ((match enF L law l with | some l' => ((1, l', t) : SQ) | none => (0, [], t)).1, σ') ∧ RC σ0 L law T W l σ' (match enF L law l with | some l' => (1, l', t) | none => (0, [], t))
    cases en : enF L law l with
    | some l' =>
      rw [en] at k1
      refine ⟨σ1, ?_, k2, Or.inl ⟨rfl, k3 l' en⟩⟩
      rw [ce_248, sg_248_0]
      (try simp (disch := omega) only [e22, wr_id2])
      repeat (first | ((with_reducible refine step_t ?_ ?_); with_reducible exact True.intro) | ((with_reducible refine step_t ?_ ?_); omega) | ((with_reducible refine step_f ?_ ?_); omega))
      refine step_c (k1) ?_
      try dsimp only
      rw [wr_b2i]
      refine step_f (show ¬ (b2i (some l').isSome = 0) from fun q => by cases q) ?_
      rfl
    | none =>
      rw [en] at k1
      refine ⟨σ1, ?_, k2, Or.inr (Or.inr ⟨rfl, k4 en, ht⟩)⟩
      rw [ce_248, sg_248_0]
      (try simp (disch := omega) only [e22, wr_id2])
      repeat (first | ((with_reducible refine step_t ?_ ?_); with_reducible exact True.intro) | ((with_reducible refine step_t ?_ ?_); omega) | ((with_reducible refine step_f ?_ ?_); omega))
      refine step_c (k1) ?_
      try dsimp only
      rw [wr_b2i]
      refine step_t (show b2i (none : Option (List Nat)).isSome = 0 from rfl) ?_
      rfl
  | succ m ih =>
    intro d l t σ h hm hM ht
    obtain ⟨d, rfl⟩ := ob1 (show 1 ≤ d by omega)
    have inner : ∀ (q k t : Nat) (σ : HP) (u6 u7 u8 : MV), k + q = lN0 L → MF σ0 σ L law W l t → t ≤ T → ∃ σ', rsP PG0 MX d 248 33 [vR 101, vI n, vI l.length, vI (hiN (pth L l) l.length : Nat), vI T, vI k, u6, u7, u8] [] σ = some ((scB (frF L law) (sch (frF L law) (enF L law) (lN0 L) T m) T l q k t).1, σ') ∧ RC σ0 L law T W l σ' (scB (frF L law) (sch (frF L law) (enF L law) (lN0 L) T m) T l q k t) := by
      intro q
      induction q with
      | zero =>
        intro k t σ u6 u7 u8 hk hM ht
        have hw := hM.1.2.1
        have h9 : lN0 L ≤ 8 := hw.1
        have hy := hM.1.1.2
        have y1 := hy.1; have k101 := y101_m1 hy
        refine ⟨σ, ?_, hM.1.1, Or.inr (Or.inr ⟨rfl, hM, ht⟩)⟩
        rw [sg_248_33]
        repeat (first | ((with_reducible refine step_t ?_ ?_); with_reducible exact True.intro) | ((with_reducible refine step_t ?_ ?_); omega) | ((with_reducible refine step_f ?_ ?_); omega))
        refine step_c (s207 (by omega) hy hn (slR_fq hM.1.1 hr0)) ?_
        try dsimp only
        (try simp (disch := omega) only [wr_id2])
        repeat (first | ((with_reducible refine step_t ?_ ?_); with_reducible exact True.intro) | ((with_reducible refine step_t ?_ ?_); omega) | ((with_reducible refine step_f ?_ ?_); omega))
        rfl
      | succ q ihq =>
        intro k t σ u6 u7 u8 hk hM ht
        have hw := hM.1.2.1
        have h9 : lN0 L ≤ 8 := hw.1
        have hp8 := pow8 h9
        have hF := hM.1.1
        have hy := hF.2
        have y1 := hy.1; have k101 := y101_m1 hy; have p105 := y101_4 hy; have k105 := y105_m1 hy; have l105 := y105_m2 hy; have p109 := y101_19 hy; have k109 := y109_m1 hy; have l109 := y109_m2 hy; have p110 := y101_20 hy; have k110 := y110_m1 hy; have l110 := y110_m2 hy
        have hr := slR_fq hF hr0
        have q1 : wd (pth L l) l.length < 2 ^ lN0 L := wd_lt hw l.length
        have hk2 : 2 ^ k < 2 ^ lN0 L := Nat.pow_lt_pow_right (by omega) (by omega)
        have vb : wd (pth L l) l.length ^^^ 2 ^ k < 2 ^ lN0 L := Nat.xor_lt_two_pow q1 hk2
        have e110 : σ 110 (l.length : Nat) = (wd (pth L l) l.length : Nat) := hM.1.2.2.2.1 l.length (Nat.le_refl _)
        have ex : i_xor ((wd (pth L l) l.length : Nat) : Int) (i_shl 1 (k : Int)) = ((wd (pth L l) l.length ^^^ 2 ^ k : Nat) : Int) := by rw [shl1 (by omega)]; exact i_xor_n (by omega) (by omega)
        have e207 := s207 (d := d) (by omega) hy hn hr
        have e209a := s209 (d := d) (by omega) σ (x := wd (pth L l) l.length ^^^ 2 ^ k) (by omega)
        have e209b := s209 (d := d) (by omega) σ (x := wd (pth L l) l.length) (by omega)
        have e208 : clR PG0 MX d 208 [vR 101, vI n, vI ((wd (pth L l) l.length ^^^ 2 ^ k : Nat) : Int)] σ = some (b2i (inSc L (wd (pth L l) l.length ^^^ 2 ^ k)), σ) := s208 (d := d) (by omega) hy hn hr hwL (by omega)
        have e109 := hM.1.2.2.1 (wd (pth L l) l.length ^^^ 2 ^ k) (by omega)
        have e21 : σ 101 21 = t := hM.1.2.2.2.2.2
        have e23 : σ 101 23 = law := hM.2.2
        have g1 := pop_le (wd (pth L l) l.length) (by omega)
        have g2 := pop_le (wd (pth L l) l.length ^^^ 2 ^ k) (by omega)
        have g3 := hiN_8 hw l.length
        have Mp := hM.push (k := k) (by omega) (by omega)
        have nxt := fun t1 σ1 hM1 ht1 => ihq (k + 1) t1 σ1 vU vU vU (by omega) hM1 ht1
        have rr := fun hlt : t + 1 ≤ T => ih d (l ++ [k]) (t + 1) _ (by omega) (by rw [len_a]; omega) Mp hlt
        have hbk := fun σ1 (hM1 : MF σ0 σ1 L law W (l ++ [k]) (sch (frF L law) (enF L law) (lN0 L) T m (l ++ [k]) (t + 1)).2.2) hg => hM1.back hw hg
        rw [hi_next] at rr
        have e75 : rsP PG0 MX d 248 33 [vR 101, vI n, vI l.length, vI (hiN (pth L l) l.length : Nat), vI T, vI k, u6, u7, u8] [] σ = rsP PG0 MX d 248 75 [vR 101, vI n, vI l.length, vI (hiN (pth L l) l.length : Nat), vI T, vI k, vI ((wd (pth L l) l.length ^^^ 2 ^ k : Nat) : Int), vI ((min (pop (wd (pth L l) l.length)) (pop (wd (pth L l) l.length ^^^ 2 ^ k)) : Nat) : Int), vU] [] σ := by
          rw [sg_248_33]
          repeat (first | ((with_reducible refine step_t ?_ ?_); with_reducible exact True.intro) | ((with_reducible refine step_t ?_ ?_); omega) | ((with_reducible refine step_f ?_ ?_); omega))
          refine step_c (e207) ?_
          try dsimp only
          (try simp (disch := omega) only [p110, e110, ex, wr_id2])
          repeat (first | ((with_reducible refine step_t ?_ ?_); with_reducible exact True.intro) | ((with_reducible refine step_t ?_ ?_); omega) | ((with_reducible refine step_f ?_ ?_); omega))
          refine step_c (e209a) ?_
          try dsimp only
          (try simp (disch := omega) only [p110, e110, wr_id2])
          repeat (first | ((with_reducible refine step_t ?_ ?_); with_reducible exact True.intro) | ((with_reducible refine step_t ?_ ?_); omega) | ((with_reducible refine step_f ?_ ?_); omega))
          refine step_c (e209b) ?_
          try dsimp only
          refine step_c (p_min (by omega) σ _ _) ?_
          try dsimp only
          (try simp (disch := omega) only [wr_id2])
          by_cases z : pop (wd (pth L l) l.length) < pop (wd (pth L l) l.length ^^^ 2 ^ k)
          · rw [if_pos (by omega), Nat.min_eq_left (by omega)]
          · rw [if_neg (by omega), Nat.min_eq_right (by omega)]
        rw [e75]
        have es : scB (frF L law) (sch (frF L law) (enF L law) (lN0 L) T m) T l (q + 1) k t = if frF L law l k = true then (if t = T then (-3, [], t) else if (sch (frF L law) (enF L law) (lN0 L) T m (l ++ [k]) (t + 1)).1 = 0 then scB (frF L law) (sch (frF L law) (enF L law) (lN0 L) T m) T l q (k + 1) (sch (frF L law) (enF L law) (lN0 L) T m (l ++ [k]) (t + 1)).2.2 else sch (frF L law) (enF L law) (lN0 L) T m (l ++ [k]) (t + 1)) else scB (frF L law) (sch (frF L law) (enF L law) (lN0 L) T m) T l q (k + 1) t := rfl
        have ef : frF L law l k = (!(!inSc L (wd (pth L l) l.length ^^^ 2 ^ k) || inP L l (wd (pth L l) l.length ^^^ 2 ^ k)) && (decide (law ≠ 2) || decide (hiN (pth L l) l.length < min (pop (wd (pth L l) l.length)) (pop (wd (pth L l) l.length ^^^ 2 ^ k)) + 2))) := rfl
        clear e75 ih ihq Mp
        generalize hvv : wd (pth L l) l.length ^^^ 2 ^ k = v at *
        have hmn : min (pop (wd (pth L l) l.length)) (pop v) ≤ 8 := by omega
        generalize hmm : min (pop (wd (pth L l) l.length)) (pop v) = g at *
        have skp : frF L law l k = false → rsP PG0 MX d 248 75 [vR 101, vI n, vI l.length, vI (hiN (pth L l) l.length : Nat), vI T, vI k, vI (v : Int), vI (g : Int), vU] [] σ = rsP PG0 MX d 248 33 [vR 101, vI n, vI l.length, vI (hiN (pth L l) l.length : Nat), vI T, vI ((k : Int) + 1), vU, vU, vU] [] σ → ∃ σ', rsP PG0 MX d 248 75 [vR 101, vI n, vI l.length, vI (hiN (pth L l) l.length : Nat), vI T, vI k, vI (v : Int), vI (g : Int), vU] [] σ = some ((scB (frF L law) (sch (frF L law) (enF L law) (lN0 L) T m) T l (q + 1) k t).1, σ') ∧ RC σ0 L law T W l σ' (scB (frF L law) (sch (frF L law) (enF L law) (lN0 L) T m) T l (q + 1) k t) := fun q1 q2 => by
          rw [es, if_neg (by rw [q1]; decide)]
          obtain ⟨σ', j1, j2⟩ := nxt t σ hM ht
          exact ⟨σ', q2.trans j1, j2⟩
        have tak : frF L law l k = true → inP L l v = false → rsP PG0 MX d 248 75 [vR 101, vI n, vI l.length, vI (hiN (pth L l) l.length : Nat), vI T, vI k, vI (v : Int), vI (g : Int), vU] [] σ = rsP PG0 MX d 248 114 [vR 101, vI n, vI l.length, vI (hiN (pth L l) l.length : Nat), vI T, vI k, vI (v : Int), vI (g : Int), vU] [] σ → ∃ σ', rsP PG0 MX d 248 75 [vR 101, vI n, vI l.length, vI (hiN (pth L l) l.length : Nat), vI T, vI k, vI (v : Int), vI (g : Int), vU] [] σ = some ((scB (frF L law) (sch (frF L law) (enF L law) (lN0 L) T m) T l (q + 1) k t).1, σ') ∧ RC σ0 L law T W l σ' (scB (frF L law) (sch (frF L law) (enF L law) (lN0 L) T m) T l (q + 1) k t) := fun q1 qg q2 => by
          rw [es, if_pos q1, q2]
          by_cases zT : t = T
          · rw [if_pos zT]
            refine ⟨σ, ?_, hF, Or.inr (Or.inl rfl)⟩
            rw [sg_248_114]
            (try simp (disch := omega) only [e21, wr_id2])
            repeat (first | ((with_reducible refine step_t ?_ ?_); with_reducible exact True.intro) | ((with_reducible refine step_t ?_ ?_); omega) | ((with_reducible refine step_f ?_ ?_); omega))
            rfl
          · rw [if_neg zT]
            obtain ⟨σ1, j1, j2, j3⟩ := rr (by omega)
            rw [len_a] at j1
            have j1 : clR PG0 MX d 248 [vR 101, vI n, vI ((l.length : Int) + 1), vI ((max (hiN (pth L l) l.length) g : Nat) : Int), vI T] (up (up (up (up σ 101 21 ((t : Int) + 1)) 109 (v : Int) 1) 105 (l.length : Nat) k) 110 ((l.length : Int) + 1) (v : Int)) = some (_, σ1) := j1
            have hF1 : FQ σ0 (up σ 101 21 ((t : Int) + 1)) := hF.upf (by omega) okf_21
            have hF2 : FQ σ0 (up (up σ 101 21 ((t : Int) + 1)) 109 (v : Int) 1) := hF1.upd (by omega) okr_109 (by omega)
            have hF3 : FQ σ0 (up (up (up σ 101 21 ((t : Int) + 1)) 109 (v : Int) 1) 105 (l.length : Nat) k) := hF2.upd (by omega) okr_105 (by omega)
            have hF4 : FQ σ0 (up (up (up (up σ 101 21 ((t : Int) + 1)) 109 (v : Int) 1) 105 (l.length : Nat) k) 110 ((l.length : Int) + 1) (v : Int)) := hF3.upd (by omega) okr_110 (by omega)
            have i1 := hF1.2
            have y1a := i1.1; have k101a := y101_m1 i1; have p109a := y101_19 i1; have k109a := y109_m1 i1; have l109a := y109_m2 i1
            have i2 := hF2.2
            have y1b := i2.1; have k101b := y101_m1 i2; have p105b := y101_4 i2; have k105b := y105_m1 i2; have l105b := y105_m2 i2
            have i3 := hF3.2
            have y1c := i3.1; have k101c := y101_m1 i3; have p110c := y101_20 i3; have k110c := y110_m1 i3; have l110c := y110_m2 i3
            have i4 := hF4.2
            have y1e := i4.1; have k101e := y101_m1 i4
            have i5 := j2.2
            have y1f := i5.1; have k101f := y101_m1 i5; have p109f := y101_19 i5; have k109f := y109_m1 i5; have l109f := y109_m2 i5
            have emx : (if ((hiN (pth L l) l.length : Nat) : Int) < (g : Int) then (g : Int) else ((hiN (pth L l) l.length : Nat) : Int)) = ((max (hiN (pth L l) l.length) g : Nat) : Int) := by
              by_cases z : hiN (pth L l) l.length < g
              · rw [if_pos (by omega), Nat.max_eq_right (by omega)]
              · rw [if_neg (by omega), Nat.max_eq_left (by omega)]
            have run : rsP PG0 MX d 248 114 [vR 101, vI n, vI l.length, vI (hiN (pth L l) l.length : Nat), vI T, vI k, vI (v : Int), vI (g : Int), vU] [] σ = cnd ((sch (frF L law) (enF L law) (lN0 L) T m (l ++ [k]) (t + 1)).1 = 0) (rsP PG0 MX d 248 33 [vR 101, vI n, vI l.length, vI (hiN (pth L l) l.length : Nat), vI T, vI ((k : Int) + 1), vU, vU, vU] [] (up σ1 109 (v : Int) 0)) (some ((sch (frF L law) (enF L law) (lN0 L) T m (l ++ [k]) (t + 1)).1, σ1)) := by
              rw [sg_248_114]
              (try simp (disch := omega) only [e21, wr_id2])
              repeat (first | ((with_reducible refine step_t ?_ ?_); with_reducible exact True.intro) | ((with_reducible refine step_t ?_ ?_); omega) | ((with_reducible refine step_f ?_ ?_); omega))
              (try simp (disch := omega) only [p109a, wr_id2])
              repeat (first | ((with_reducible refine step_t ?_ ?_); with_reducible exact True.intro) | ((with_reducible refine step_t ?_ ?_); omega) | ((with_reducible refine step_f ?_ ?_); omega))
              (try simp (disch := omega) only [p105b, wr_id2])
              repeat (first | ((with_reducible refine step_t ?_ ?_); with_reducible exact True.intro) | ((with_reducible refine step_t ?_ ?_); omega) | ((with_reducible refine step_f ?_ ?_); omega))
              rw [sg_248_152]
              (try simp (disch := omega) only [p110c, wr_id2])
              repeat (first | ((with_reducible refine step_t ?_ ?_); with_reducible exact True.intro) | ((with_reducible refine step_t ?_ ?_); omega) | ((with_reducible refine step_f ?_ ?_); omega))
              refine step_c (p_max (by omega) _ _ _) ?_
              try dsimp only
              (try simp (disch := omega) only [wr_id2])
              rw [emx]
              repeat (first | ((with_reducible refine step_t ?_ ?_); with_reducible exact True.intro) | ((with_reducible refine step_t ?_ ?_); omega) | ((with_reducible refine step_f ?_ ?_); omega))
              refine step_c (j1) ?_
              try dsimp only
              (try simp (disch := omega) only [p109f, wr_id2])
              by_cases z : (sch (frF L law) (enF L law) (lN0 L) T m (l ++ [k]) (t + 1)).1 = 0
              · refine step_t z ?_
                repeat (first | ((with_reducible refine step_t ?_ ?_); with_reducible exact True.intro) | ((with_reducible refine step_t ?_ ?_); omega) | ((with_reducible refine step_f ?_ ?_); omega))
                rw [cnd, decide_eq_true z]
                rfl
              · refine step_f z ?_
                rw [cnd, decide_eq_false z]
                rfl
            rw [run]
            rcases j3 with ⟨r1, r2⟩ | r1 | ⟨r1, r2, r3⟩
            · rw [if_neg (by omega)]
              refine ⟨σ1, ?_, j2, Or.inl ⟨r1, r2⟩⟩
              refine step_f (by rw [r1]; decide) ?_
              rfl
            · rw [if_neg (by omega)]
              refine ⟨σ1, ?_, j2, Or.inr (Or.inl r1)⟩
              refine step_f (by rw [r1]; decide) ?_
              rfl
            · rw [if_pos r1]
              obtain ⟨σ', j4, j5⟩ := nxt _ (up σ1 109 (v : Int) 0) (hbk σ1 r2 qg) r3
              refine ⟨σ', ?_, j5⟩
              refine step_t r1 ?_
              exact j4
        cases zg : inP L l v with
        | true =>
          rw [zg] at e109
          have e109 : σ 109 (v : Int) = 1 := e109
          refine skp (by rw [ef, zg, Bool.or_true]; rfl) ?_
          rw [sg_248_75]
          (try simp (disch := omega) only [p109, e109, wr_id2])
          repeat (first | ((with_reducible refine step_t ?_ ?_); with_reducible exact True.intro) | ((with_reducible refine step_t ?_ ?_); omega) | ((with_reducible refine step_f ?_ ?_); omega))
          rfl
        | false =>
          rw [zg] at e109
          have e109 : σ 109 (v : Int) = 0 := e109
          cases zs : inSc L v with
          | false =>
            rw [zs] at e208
            refine skp (by rw [ef, zs]; rfl) ?_
            rw [sg_248_75]
            (try simp (disch := omega) only [p109, e109, wr_id2])
            repeat (first | ((with_reducible refine step_t ?_ ?_); with_reducible exact True.intro) | ((with_reducible refine step_t ?_ ?_); omega) | ((with_reducible refine step_f ?_ ?_); omega))
            refine step_c (e208) ?_
            try dsimp only
            rw [wr_b2i]
            refine step_t (show b2i false = 0 by decide) ?_
            rfl
          | true =>
            rw [zs] at e208
            by_cases zl : law = 2
            · by_cases zh : hiN (pth L l) l.length < g + 2
              · refine tak (by rw [ef, zg, zs, decide_eq_true zh, Bool.or_true]; rfl) zg ?_
                rw [sg_248_75]
                (try simp (disch := omega) only [p109, e109, wr_id2])
                repeat (first | ((with_reducible refine step_t ?_ ?_); with_reducible exact True.intro) | ((with_reducible refine step_t ?_ ?_); omega) | ((with_reducible refine step_f ?_ ?_); omega))
                refine step_c (e208) ?_
                try dsimp only
                rw [wr_b2i]
                refine step_f (show ¬ (b2i true = 0) by decide) ?_
                (try simp (disch := omega) only [e23, wr_id2])
                repeat (first | ((with_reducible refine step_t ?_ ?_); with_reducible exact True.intro) | ((with_reducible refine step_t ?_ ?_); omega) | ((with_reducible refine step_f ?_ ?_); omega))
                rfl
              · refine skp (by rw [ef, decide_eq_false zh, decide_eq_false (fun q => q zl)]; exact Bool.and_false _) ?_
                rw [sg_248_75]
                (try simp (disch := omega) only [p109, e109, wr_id2])
                repeat (first | ((with_reducible refine step_t ?_ ?_); with_reducible exact True.intro) | ((with_reducible refine step_t ?_ ?_); omega) | ((with_reducible refine step_f ?_ ?_); omega))
                refine step_c (e208) ?_
                try dsimp only
                rw [wr_b2i]
                refine step_f (show ¬ (b2i true = 0) by decide) ?_
                (try simp (disch := omega) only [e23, wr_id2])
                repeat (first | ((with_reducible refine step_t ?_ ?_); with_reducible exact True.intro) | ((with_reducible refine step_t ?_ ?_); omega) | ((with_reducible refine step_f ?_ ?_); omega))
                rfl
            · refine tak (by rw [ef, zg, zs, decide_eq_true zl]; rfl) zg ?_
              rw [sg_248_75]
              (try simp (disch := omega) only [p109, e109, wr_id2])
              repeat (first | ((with_reducible refine step_t ?_ ?_); with_reducible exact True.intro) | ((with_reducible refine step_t ?_ ?_); omega) | ((with_reducible refine step_f ?_ ?_); omega))
              refine step_c (e208) ?_
              try dsimp only
              rw [wr_b2i]
              refine step_f (show ¬ (b2i true = 0) by decide) ?_
              (try simp (disch := omega) only [e23, wr_id2])
              repeat (first | ((with_reducible refine step_t ?_ ?_); with_reducible exact True.intro) | ((with_reducible refine step_t ?_ ?_); omega) | ((with_reducible refine step_f ?_ ?_); omega))
              rfl
    have hy := hM.1.1.2
    have y1 := hy.1; have k101 := y101_m1 hy
    have e22 := hM.2.1
    obtain ⟨σ', k1, k2⟩ := inner (lN0 L) 0 t σ vU vU vU (by omega) hM ht
    refine ⟨σ', ?_, k2⟩
    rw [ce_248, sg_248_0]
    (try simp (disch := omega) only [e22, wr_id2])
    repeat (first | ((with_reducible refine step_t ?_ ?_); with_reducible exact True.intro) | ((with_reducible refine step_t ?_ ?_); omega) | ((with_reducible refine step_f ?_ ?_); omega))
    exact k1
/-- forgetsGone -/
theorem s247l {d : Nat} {σ0 : HP} : ∀ (m i : Nat) (σ : HP), i + m = 256 → FQ σ0 σ → (∀ w : Nat, w < i → σ 109 w = 0) → ∃ σ', rsP PG0 MX d 247 2 [vR 101, vI i] [] σ = some (0, σ') ∧ FQ σ0 σ' ∧ (∀ a j, a ≠ 109 → σ' a j = σ a j) ∧ ∀ w : Nat, w < 256 → σ' 109 w = 0 := by
  intro m
  induction m with
  | zero =>
    intro i σ hi hF hr
    refine ⟨σ, ?_, hF, fun _ _ _ => rfl, fun w hw => hr w (by omega)⟩
    rw [sg_247_2]
    (try simp (disch := omega) only [wr_id2])
    repeat (first | ((with_reducible refine step_t ?_ ?_); with_reducible exact True.intro) | ((with_reducible refine step_t ?_ ?_); omega) | ((with_reducible refine step_f ?_ ?_); omega))
    rfl
  | succ m ih =>
    intro i σ hi hF hr
    have hy := hF.2
    have y1 := hy.1; have k101 := y101_m1 hy; have p109 := y101_19 hy; have k109 := y109_m1 hy; have l109 := y109_m2 hy
    obtain ⟨σ', k1, k2, k3, k4⟩ := ih (i + 1) (up σ 109 i 0) (by omega) (hF.upd (by omega) okr_109 (by omega)) (fun w hw => by
      by_cases z : w = i
      · rw [z, up_s]
      · rw [up_n2 _ _ _ _ (by omega)]; exact hr w (by omega))
    refine ⟨σ', ?_, k2, fun a j h => by rw [k3 a j h, up_n1 _ _ _ _ h], k4⟩
    rw [sg_247_2]
    (try simp (disch := omega) only [p109, wr_id2])
    repeat (first | ((with_reducible refine step_t ?_ ?_); with_reducible exact True.intro) | ((with_reducible refine step_t ?_ ?_); omega) | ((with_reducible refine step_f ?_ ?_); omega))
    exact k1
theorem s247 {d : Nat} (h : 1 ≤ d) {σ0 σ : HP} (hF : FQ σ0 σ) : ∃ σ', clR PG0 MX d 247 [vR 101] σ = some (0, σ') ∧ FQ σ0 σ' ∧ (∀ a j, a ≠ 109 → σ' a j = σ a j) ∧ ∀ w : Nat, w < 256 → σ' 109 w = 0 := by
  obtain ⟨d, rfl⟩ := ob1 (show 1 ≤ d by omega)
  obtain ⟨σ', k1, k2⟩ := s247l (d := d) 256 0 σ (by omega) hF (fun w hw => by omega)
  refine ⟨σ', ?_, k2⟩
  rw [ce_247, sg_247_0]
  exact k1
theorem s246l {d : Nat} (h : 3 ≤ d) {σ0 : HP} {n : Nat} (hn : n < 3) {L : LB} (hr0 : slR σ0 n L) (hw : wf0 L) {law T : Int} : ∀ (m i : Nat) (σ : HP) (u2 : MV), i + m = 2 ^ lN0 L → FQ σ0 σ → σ 101 22 = (cntB (inSc L) i : Nat) → σ 101 23 = law → ∃ σ', rsP PG0 MX d 246 68 [vR 101, vI n, u2, vI T, vI (lS L : Nat), vI i] [] σ = rsP PG0 MX d 246 135 [vR 101, vI n, vU, vI T, vI (lS L : Nat), vI ((2 ^ lN0 L : Nat) : Int)] [] σ' ∧ FQ σ0 σ' ∧ σ' 101 22 = (cntB (inSc L) (2 ^ lN0 L) : Nat) ∧ σ' 101 23 = law ∧ (∀ w : Nat, w < 256 → σ' 109 w = b2i (decide (w = lS L))) ∧ σ' 110 0 = (lS L : Nat) ∧ σ' 101 21 = 0 := by
  have h9 := hw.1
  have hp8 := pow8 hw.1
  have q2 : lS L < 2 ^ lN0 L := hw.2.2.2.1
  have sh := shl1 (x := lN0 L) (by omega)
  intro m
  induction m with
  | zero =>
    intro i σ u2 hi hF h22 h23
    have ei : i = 2 ^ lN0 L := by omega
    subst ei
    have hy := hF.2
    have y1 := hy.1; have k101 := y101_m1 hy
    obtain ⟨σ1, k1, k2, k3, k4⟩ := s247 (d := d) (by omega) hF
    have hy1 := k2.2
    have y1b := hy1.1; have k101b := y101_m1 hy1; have p109b := y101_19 hy1; have k109b := y109_m1 hy1; have l109b := y109_m2 hy1
    have F2 : FQ σ0 (up σ1 109 (lS L : Nat) 1) := k2.upd (by omega) okr_109 (by omega)
    have hy2 := F2.2
    have y1c := hy2.1; have k101c := y101_m1 hy2; have p110c := y101_20 hy2; have k110c := y110_m1 hy2; have l110c := y110_m2 hy2
    have F3 : FQ σ0 (up (up σ1 109 (lS L : Nat) 1) 110 0 (lS L : Nat)) := F2.upd (by omega) okr_110 (by omega)
    have hy3 := F3.2
    have y1d := hy3.1; have k101d := y101_m1 hy3
    have F4 : FQ σ0 (up (up (up σ1 109 (lS L : Nat) 1) 110 0 (lS L : Nat)) 101 21 0) := F3.upf (by omega) okf_21
    refine ⟨up (up (up σ1 109 (lS L : Nat) 1) 110 0 (lS L : Nat)) 101 21 0, ?_, F4, ?_, ?_, fun w hw2 => ?_, ?_, up_s _ _ _ _⟩
    · rw [sg_246_68]
      repeat (first | ((with_reducible refine step_t ?_ ?_); with_reducible exact True.intro) | ((with_reducible refine step_t ?_ ?_); omega) | ((with_reducible refine step_f ?_ ?_); omega))
      refine step_c (s207 (by omega) hy hn (slR_fq hF hr0)) ?_
      try dsimp only
      (try simp (disch := omega) only [sh, wr_id2])
      repeat (first | ((with_reducible refine step_t ?_ ?_); with_reducible exact True.intro) | ((with_reducible refine step_t ?_ ?_); omega) | ((with_reducible refine step_f ?_ ?_); omega))
      refine step_c (k1) ?_
      try dsimp only
      (try simp (disch := omega) only [p109b, wr_id2])
      repeat (first | ((with_reducible refine step_t ?_ ?_); with_reducible exact True.intro) | ((with_reducible refine step_t ?_ ?_); omega) | ((with_reducible refine step_f ?_ ?_); omega))
      (try simp (disch := omega) only [p110c, wr_id2])
      repeat (first | ((with_reducible refine step_t ?_ ?_); with_reducible exact True.intro) | ((with_reducible refine step_t ?_ ?_); omega) | ((with_reducible refine step_f ?_ ?_); omega))
      rfl
    · rw [up_n2 _ _ _ _ (by omega), up_n1 _ _ _ _ (by omega), up_n1 _ _ _ _ (by omega), k3 _ _ (by omega)]; exact h22
    · rw [up_n2 _ _ _ _ (by omega), up_n1 _ _ _ _ (by omega), up_n1 _ _ _ _ (by omega), k3 _ _ (by omega)]; exact h23
    · rw [up_n1 _ _ _ _ (by omega), up_n1 _ _ _ _ (by omega)]
      by_cases z : w = lS L
      · rw [decide_eq_true z, z, up_s]; rfl
      · rw [decide_eq_false z, up_n2 _ _ _ _ (by omega), k4 w hw2]; rfl
    · rw [up_n1 _ _ _ _ (by omega), up_s]
  | succ m ih =>
    intro i σ u2 hi hF h22 h23
    have hy := hF.2
    have y1 := hy.1; have k101 := y101_m1 hy
    have hr := slR_fq hF hr0
    have hcl := cntB_le (inSc L) i
    have e207 := s207 (d := d) (by omega) hy hn hr
    have e208 := s208 (d := d) (by omega) hy hn hr hw (x := i) (by omega)
    cases z : inSc L i with
    | true =>
      rw [z] at e208
      obtain ⟨σ', k1, k2⟩ := ih (i + 1) (up σ 101 22 ((cntB (inSc L) i : Nat) + 1)) vU (by omega) (hF.upf (by omega) okf_22) (by rw [up_s, cntB_st z]; rfl) (by rw [up_n2 _ _ _ _ (by omega)]; exact h23)
      refine ⟨σ', ?_, k2⟩
      rw [sg_246_68]
      repeat (first | ((with_reducible refine step_t ?_ ?_); with_reducible exact True.intro) | ((with_reducible refine step_t ?_ ?_); omega) | ((with_reducible refine step_f ?_ ?_); omega))
      refine step_c (e207) ?_
      try dsimp only
      (try simp (disch := omega) only [sh, wr_id2])
      repeat (first | ((with_reducible refine step_t ?_ ?_); with_reducible exact True.intro) | ((with_reducible refine step_t ?_ ?_); omega) | ((with_reducible refine step_f ?_ ?_); omega))
      refine step_c (e208) ?_
      try dsimp only
      rw [wr_b2i]
      refine step_f (show ¬ (b2i true = 0) by decide) ?_
      (try simp (disch := omega) only [h22, wr_id2])
      repeat (first | ((with_reducible refine step_t ?_ ?_); with_reducible exact True.intro) | ((with_reducible refine step_t ?_ ?_); omega) | ((with_reducible refine step_f ?_ ?_); omega))
      exact k1
    | false =>
      rw [z] at e208
      obtain ⟨σ', k1, k2⟩ := ih (i + 1) (up σ 101 22 ((cntB (inSc L) i : Nat) + 0)) vU (by omega) (hF.upf (by omega) okf_22) (by rw [up_s, cntB_sf z]; exact Int.add_zero _) (by rw [up_n2 _ _ _ _ (by omega)]; exact h23)
      refine ⟨σ', ?_, k2⟩
      rw [sg_246_68]
      repeat (first | ((with_reducible refine step_t ?_ ?_); with_reducible exact True.intro) | ((with_reducible refine step_t ?_ ?_); omega) | ((with_reducible refine step_f ?_ ?_); omega))
      refine step_c (e207) ?_
      try dsimp only
      (try simp (disch := omega) only [sh, wr_id2])
      repeat (first | ((with_reducible refine step_t ?_ ?_); with_reducible exact True.intro) | ((with_reducible refine step_t ?_ ?_); omega) | ((with_reducible refine step_f ?_ ?_); omega))
      refine step_c (e208) ?_
      try dsimp only
      rw [wr_b2i]
      refine step_t (show b2i false = 0 by decide) ?_
      (try simp (disch := omega) only [h22, wr_id2])
      repeat (first | ((with_reducible refine step_t ?_ ?_); with_reducible exact True.intro) | ((with_reducible refine step_t ?_ ?_); omega) | ((with_reducible refine step_f ?_ ?_); omega))
      exact k1
theorem m246 (S : AS) {s law T : Int} (hs : i32 s) (hlw : i32 law) (hTT : i32 T) : mOp 246 [vI s, vI law, vI T] S (aA S s (fndQ law T)) := by
  intro d σ h hy ht hm
  obtain ⟨d, rfl⟩ := ob1 (show 1 ≤ d by omega)
  have y1 := hy.1; have k101 := y101_m1 hy; have p102 := y101_0 hy; have k102 := y102_m1 hy; have l102 := y102_m2 hy; have p107 := y101_15 hy; have k107 := y107_m1 hy; have l107 := y107_m2 hy; have p108 := y101_16 hy; have k108 := y108_m1 hy; have l108 := y108_m2 hy
  unfold aA
  cases e : gl S s with
  | none =>
    refine ⟨σ, ?_, (FM.rf hy).fl, hm⟩
    rw [ce_246, sg_246_0]
    repeat (first | ((with_reducible refine step_t ?_ ?_); with_reducible exact True.intro) | ((with_reducible refine step_t ?_ ?_); omega) | ((with_reducible refine step_f ?_ ?_); omega))
    refine step_c (s180n (by omega) hy hm hs e) ?_
    try dsimp only
    (try simp (disch := omega) only [wr_id2])
    repeat (first | ((with_reducible refine step_t ?_ ?_); with_reducible exact True.intro) | ((with_reducible refine step_t ?_ ?_); omega) | ((with_reducible refine step_f ?_ ?_); omega))
    rfl
  | some L =>
    have e180 := s180s (d := d) (by omega) hy hm hs e
    obtain ⟨n, rfl, hn, hr, hw, en⟩ := hm.got e
    have hl := wf_len hw.1
    have h9 := hw.1.1
    have h1N := hw.2.1
    have hp8 := pow8 hw.1.1
    have hp0 := Nat.two_pow_pos (lN0 L)
    have hsh := shN_le L
    dsimp only
    unfold fndQ
    have hlw' := hlw
    have hTT' := hTT
    obtain ⟨l1, l2⟩ := hlw'
    obtain ⟨t1, t2⟩ := hTT'
    have ea := s179 (d := d) (by omega) σ hlw (y := 0) (z := 3) ⟨by decide, by decide⟩ ⟨by decide, by decide⟩
    have eb := s179 (d := d) (by omega) σ hTT (y := 1) (z := 50000) ⟨by decide, by decide⟩ ⟨by decide, by decide⟩
    by_cases z : (0 ≤ law ∧ law ≤ 3) ∧ 1 ≤ T ∧ T ≤ 50000
    · rw [if_pos z]
      rw [decide_eq_true z.1] at ea
      rw [decide_eq_true z.2] at eb
      have q2 : lS L < 2 ^ lN0 L := hw.1.2.2.2.1
      have e3 := s181 (d := d) (by omega) hy hn (j := 3) (by omega) (by omega)
      rw [hr.2.2.2.1] at e3
      have e208 := s208 (d := d) (by omega) hy hn hr hw.1 (x := lS L) (by omega)
      have start : clR PG0 MX (d + 1) 246 [vR 101, vI n, vI law, vI T] σ = rsP PG0 MX d 246 43 [vR 101, vI n, vI law, vI T, vI (lS L : Nat), vU] [] σ := by
        rw [ce_246, sg_246_0]
        repeat (first | ((with_reducible refine step_t ?_ ?_); with_reducible exact True.intro) | ((with_reducible refine step_t ?_ ?_); omega) | ((with_reducible refine step_f ?_ ?_); omega))
        refine step_c (e180) ?_
        try dsimp only
        (try simp (disch := omega) only [wr_id2])
        repeat (first | ((with_reducible refine step_t ?_ ?_); with_reducible exact True.intro) | ((with_reducible refine step_t ?_ ?_); omega) | ((with_reducible refine step_f ?_ ?_); omega))
        refine step_c (ea) ?_
        try dsimp only
        rw [wr_b2i]
        refine step_f (show ¬ (b2i true = 0) by decide) ?_
        refine step_c (eb) ?_
        try dsimp only
        rw [wr_b2i]
        refine step_t (show b2i true ≠ 0 by decide) ?_
        repeat (first | ((with_reducible refine step_t ?_ ?_); with_reducible exact True.intro) | ((with_reducible refine step_t ?_ ?_); omega) | ((with_reducible refine step_f ?_ ?_); omega))
        refine step_c (e3) ?_
        try dsimp only
      unfold fndL
      cases zs : inSc L (lS L) with
      | false =>
        rw [zs] at e208
        rw [if_neg (by decide)]
        refine ⟨σ, start.trans ?_, (FM.rf hy).fl, hm⟩
        rw [sg_246_43]
        repeat (first | ((with_reducible refine step_t ?_ ?_); with_reducible exact True.intro) | ((with_reducible refine step_t ?_ ?_); omega) | ((with_reducible refine step_f ?_ ?_); omega))
        refine step_c (e208) ?_
        try dsimp only
        rw [wr_b2i]
        refine step_f (show ¬ (b2i false ≠ 0) by decide) ?_
        rfl
      | true =>
        rw [zs] at e208
        rw [if_pos rfl]
        have hcl := cntB_le (inSc L) (2 ^ lN0 L)
        have hpos : 0 < cntB (inSc L) (2 ^ lN0 L) := (cntB_pos _).mp ⟨lS L, q2, zs⟩
        have F1 : FQ σ (up σ 101 23 law) := (FQ.rf hy).upf (by omega) okf_23
        have F2 : FQ σ (up (up σ 101 23 law) 101 22 0) := F1.upf (by omega) okf_22
        have hy1 := F1.2
        have y1b := hy1.1; have k101b := y101_m1 hy1
        obtain ⟨σ3, k3, F3, g22, g23, g109, g110, g21⟩ := s246l (d := d) (by omega) hn hr hw.1 (law := law) (T := T) (2 ^ lN0 L) 0 (up (up σ 101 23 law) 101 22 0) (vI law) (by omega) F2 (up_s _ _ _ _) (by rw [up_n2 _ _ _ _ (by omega), up_s])
        have M3 : MF σ σ3 L law (cntB (inSc L) (2 ^ lN0 L) - 1) [] 0 := by
          refine ⟨⟨F3, ⟨hw.1.1, hw.1.2.1, hw.1.2.2.1, q2, Nat.zero_le _, fun b hb => by cases hb⟩, fun w hw2 => ?_, fun i hi => ?_, fun i x hx => (by cases hx), g21⟩, by rw [g22]; omega, g23⟩
          · rw [g109 w hw2, inP_0]
            by_cases zz : w = lS L
            · rw [if_pos zz, decide_eq_true zz]
            · rw [if_neg zz, decide_eq_false zz]
          · have hi : i ≤ 0 := hi
            have : i = 0 := by omega
            rw [this, wd_0]; exact g110
        obtain ⟨σ4, k4, F4, k5⟩ := s248 hn hr hw.1 z.1 (T := T.toNat) (W := cntB (inSc L) (2 ^ lN0 L) - 1) (by omega) (by omega) (cntB (inSc L) (2 ^ lN0 L) - 1) d [] 0 σ3 (by omega) (Nat.add_zero _) M3 (Nat.zero_le _)
        rw [show ((T.toNat : Nat) : Int) = T by omega] at k4
        have k4 : clR PG0 MX d 248 [vR 101, vI n, vI 0, vI 0, vI T] σ3 = some (_, σ4) := k4
        have hy3 := F3.2
        have y1c := hy3.1; have k101c := y101_m1 hy3
        have hy4 := F4.2
        have y1e := hy4.1; have k101e := y101_m1 hy4
        have st2 : rsP PG0 MX d 246 43 [vR 101, vI n, vI law, vI T, vI (lS L : Nat), vU] [] σ = rsP PG0 MX d 246 135 [vR 101, vI n, vU, vI T, vI (lS L : Nat), vI ((2 ^ lN0 L : Nat) : Int)] [] σ3 := by
          rw [sg_246_43]
          repeat (first | ((with_reducible refine step_t ?_ ?_); with_reducible exact True.intro) | ((with_reducible refine step_t ?_ ?_); omega) | ((with_reducible refine step_f ?_ ?_); omega))
          refine step_c (e208) ?_
          try dsimp only
          rw [wr_b2i]
          refine step_t (show b2i true ≠ 0 by decide) ?_
          repeat (first | ((with_reducible refine step_t ?_ ?_); with_reducible exact True.intro) | ((with_reducible refine step_t ?_ ?_); omega) | ((with_reducible refine step_f ?_ ?_); omega))
          exact k3
        have st := start.trans st2
        generalize sch (frF L law) (enF L law) (lN0 L) T.toNat (cntB (inSc L) (2 ^ lN0 L) - 1) [] 0 = R at *
        rcases k5 with ⟨r1, r2, r3⟩ | r1 | ⟨r1, r2, r3⟩
        · rw [if_pos r1]
          have hwl : wfL (lN0 L, lA L, lB L, lS L, R.2.1) := ⟨r3, hw.2⟩
          obtain ⟨σ5, j1, j2, j3⟩ := s245 (d := d) (by omega) F4.2 (F4.mr hm) hn en r2 (x := lS L) hwl ((R.2.1.length : Nat) : Int)
          have e5 := r2.1
          refine ⟨σ5, st.trans ?_, (F4.fm.tr j2).fl, j3⟩
          rw [sg_246_135]
          repeat (first | ((with_reducible refine step_t ?_ ?_); with_reducible exact True.intro) | ((with_reducible refine step_t ?_ ?_); omega) | ((with_reducible refine step_f ?_ ?_); omega))
          refine step_c (k4) ?_
          try dsimp only
          rw [r1]
          refine step_f (fun q => q rfl) ?_
          (try simp (disch := omega) only [e5, wr_id2])
          repeat (first | ((with_reducible refine step_t ?_ ?_); with_reducible exact True.intro) | ((with_reducible refine step_t ?_ ?_); omega) | ((with_reducible refine step_f ?_ ?_); omega))
          refine step_c (j1) ?_
          try dsimp only
        · rw [if_neg (by omega), if_neg (by omega)]
          refine ⟨σ4, st.trans ?_, F4.fm.fl, F4.mr hm⟩
          rw [sg_246_135]
          repeat (first | ((with_reducible refine step_t ?_ ?_); with_reducible exact True.intro) | ((with_reducible refine step_t ?_ ?_); omega) | ((with_reducible refine step_f ?_ ?_); omega))
          refine step_c (k4) ?_
          try dsimp only
          rw [r1]
          refine step_t (by decide) ?_
          refine step_t (by decide) ?_
          rfl
        · rw [if_neg (by omega), if_pos r1]
          refine ⟨σ4, st.trans ?_, F4.fm.fl, F4.mr hm⟩
          rw [sg_246_135]
          repeat (first | ((with_reducible refine step_t ?_ ?_); with_reducible exact True.intro) | ((with_reducible refine step_t ?_ ?_); omega) | ((with_reducible refine step_f ?_ ?_); omega))
          refine step_c (k4) ?_
          try dsimp only
          rw [r1]
          refine step_t (by decide) ?_
          refine step_f (by decide) ?_
          rfl
    · rw [if_neg z]
      refine ⟨σ, ?_, (FM.rf hy).fl, hm⟩
      rw [ce_246, sg_246_0]
      repeat (first | ((with_reducible refine step_t ?_ ?_); with_reducible exact True.intro) | ((with_reducible refine step_t ?_ ?_); omega) | ((with_reducible refine step_f ?_ ?_); omega))
      refine step_c (e180) ?_
      try dsimp only
      (try simp (disch := omega) only [wr_id2])
      repeat (first | ((with_reducible refine step_t ?_ ?_); with_reducible exact True.intro) | ((with_reducible refine step_t ?_ ?_); omega) | ((with_reducible refine step_f ?_ ?_); omega))
      by_cases z1 : 0 ≤ law ∧ law ≤ 3
      · rw [decide_eq_true z1] at ea
        rw [decide_eq_false (fun q => z ⟨z1, q⟩)] at eb
        refine step_c (ea) ?_
        try dsimp only
        rw [wr_b2i]
        refine step_f (show ¬ (b2i true = 0) by decide) ?_
        refine step_c (eb) ?_
        try dsimp only
        rw [wr_b2i]
        refine step_f (show ¬ (b2i false ≠ 0) by decide) ?_
        rfl
      · rw [decide_eq_false z1] at ea
        refine step_c (ea) ?_
        try dsimp only
        rw [wr_b2i]
        refine step_t (show b2i false = 0 by decide) ?_
        rfl
