/-! EXTEND: the class, all pieces -/
theorem s121l {d : Nat} (h : 8 ≤ d) {σ0 : HP} {b : Int} {L : LB} (hb0 : blr σ0 b L) (hb43 : b + 2 < 43) (hw : wf0 L) (h1 : 1 ≤ (lT L).length) (h64 : (lT L).length ≤ 64) {c : Int} : ∀ (m i f a e : Nat) (σ : HP) (l : List Nat) (u2 u8 u9 : MV), i + m = (lT L).length → f ≤ i → a < lN0 L + 2 → e < lN0 L + 2 → l.length + (exP L c m i f a e).length + (lT L).length + 1 ≤ 256 → DW σ0 σ (emL L l) → ∃ σ', rsP PG0 MX d 121 43 [vR b, vL c, u2, vR 43, vI a, vI e, vI f, vI i, u8, u9] [] σ = some (0, σ') ∧ DW σ0 σ' (emL L (l ++ exP L c m i f a e ++ [lN0 L] ++ (slc L 0 ((lT L).length - 1)).reverse ++ [lN0 L + 1])) := by
  intro m
  induction m with
  | zero =>
    intro i f a e σ l u2 u8 u9 hi hf ha he hl hD
    have ei : i = (lT L).length := by omega
    subst ei
    rw [show exP L c 0 (lT L).length f a e = [] from rfl, List.append_nil]
    exact s121e (d := d) h hb0 hb43 hw h1 (by omega) hD u2 u8 u9
  | succ m ih =>
    intro i f a e σ l u2 u8 u9 hi hf ha he hl hD
    have hn := wf_len hw
    have hb := hD.blr hb0 hb43
    obtain ⟨⟨m1, m2, m3, m4, m5, m6, m7, m8, m9⟩, f3, f4, f5, f6, fs, fw⟩ := id hb
    have ex : exP L c (m + 1) i f a e = if i + 1 = (lT L).length ∨ ctB c i = true then slc L f (i - f) ++ [a] ++ (slc L f (i - f)).reverse ++ [e] ++ slc L f (i - f) ++ (if i + 1 = (lT L).length then [] else slc L i 1) ++ exP L c m (i + 1) (i + 1) e a else exP L c m (i + 1) f a e := rfl
    have e122 := s122 (d := d) (by omega) σ c (x := i) (by omega)
    have st68 : rsP PG0 MX d 121 43 [vR b, vL c, u2, vR 43, vI a, vI e, vI f, vI i, u8, u9] [] σ = rsP PG0 MX d 121 68 [vR b, vL c, vU, vR 43, vI a, vI e, vI f, vI i, vU, vU] [vI (b2i (decide (i + 1 = (lT L).length)))] σ := by
      rw [sg_121_43]
      by_cases z : i + 1 = (lT L).length
      · rw [decide_eq_true z]
        (try simp (disch := omega) only [f6, wr_id2])
        repeat (first | ((with_reducible refine step_t ?_ ?_); with_reducible exact True.intro) | ((with_reducible refine step_t ?_ ?_); omega) | ((with_reducible refine step_f ?_ ?_); omega))
        rfl
      · rw [decide_eq_false z]
        (try simp (disch := omega) only [f6, wr_id2])
        repeat (first | ((with_reducible refine step_t ?_ ?_); with_reducible exact True.intro) | ((with_reducible refine step_t ?_ ?_); omega) | ((with_reducible refine step_f ?_ ?_); omega))
        rfl
    rw [st68]
    by_cases z : i + 1 = (lT L).length ∨ ctB c i = true
    · rw [if_pos z] at ex
      have es := slc_l (L := L) hf (show i ≤ (lT L).length by omega)
      rw [ex] at hl ⊢
      rw [List.length_append] at hl
      have lp : (slc L f (i - f) ++ [a] ++ (slc L f (i - f)).reverse ++ [e] ++ slc L f (i - f) ++ (if i + 1 = (lT L).length then [] else slc L i 1)).length = 3 * (i - f) + 2 + (if i + 1 = (lT L).length then [] else slc L i 1).length := by
        simp only [List.length_append, List.length_reverse, List.length_cons, List.length_nil, es]
        omega
      obtain ⟨σ1, k1, D1⟩ := s121p (d := d) h hb0 hb43 hw hf (by omega) ha he (by omega) hD (c := c)
      obtain ⟨σ2, k2, D2⟩ := ih (i + 1) (i + 1) e a σ1 _ vU vU vU (by omega) (Nat.le_refl _) he ha (by rw [List.length_append]; omega) D1
      refine ⟨σ2, ?_, by rw [← List.append_assoc l]; exact D2⟩
      have st84 : rsP PG0 MX d 121 68 [vR b, vL c, vU, vR 43, vI a, vI e, vI f, vI i, vU, vU] [vI (b2i (decide (i + 1 = (lT L).length)))] σ = rsP PG0 MX d 121 84 [vR b, vL c, vU, vR 43, vI a, vI e, vI f, vI i, vI (b2i (decide (i + 1 = (lT L).length))), vU] [] σ := by
        rw [sg_121_68]
        by_cases z1 : i + 1 = (lT L).length
        · rw [decide_eq_true z1]
          refine step_t (show wr (b2i true) ≠ 0 by decide) ?_
          rfl
        · rw [decide_eq_false z1]
          refine step_f (show ¬ (wr (b2i false) ≠ 0) by decide) ?_
          have zc : ctB c i = true := by
            rcases z with q | q
            · exact absurd q z1
            · exact q
          rw [zc] at e122
          refine step_c (e122) ?_
          try dsimp only
          rw [wr_b2i]
          refine step_f (show ¬ (b2i true = 0) by decide) ?_
          rfl
      rw [st84, k1]
      exact k2
    · rw [if_neg z] at ex
      rw [ex] at hl ⊢
      have z1 : ¬ i + 1 = (lT L).length := fun q => z (Or.inl q)
      have zc : ctB c i = false := by
        cases q : ctB c i with
        | false => rfl
        | true => exact absurd (Or.inr q) z
      rw [zc] at e122
      obtain ⟨σ2, k2, D2⟩ := ih (i + 1) f a e σ l vU vU vU (by omega) (by omega) ha he hl hD
      refine ⟨σ2, ?_, D2⟩
      rw [decide_eq_false z1, sg_121_68]
      refine step_f (show ¬ (wr (b2i false) ≠ 0) by decide) ?_
      refine step_c (e122) ?_
      try dsimp only
      rw [wr_b2i]
      refine step_t (show b2i false = 0 by decide) ?_
      exact k2
