/-! EXTEND: the reference makes all pieces -/
theorem sh_s64 : ∀ k : Nat, k < 64 → ((((Int32.ofInt (k : Int)).toInt64 &&& 63).toBitVec).smod 64).toNat = k := by decide +kernel
theorem lu_shr {x : Int} {k : Nat} (hk : k < 64) (hx : lu x < 9223372036854775808) : lu (l_shr x k) = lu x / 2 ^ k := by
  unfold l_shr
  rw [lu_z]
  show ((Int64.ofInt x).toBitVec.sshiftRight ((((Int32.ofInt (k : Int)).toInt64 &&& 63).toBitVec.smod 64).toNat)).toNat = _
  have hm : (Int64.ofInt x).toBitVec.msb = false := by
    rw [BitVec.msb_eq_decide]
    exact decide_eq_false (fun q => by
      have q : 9223372036854775808 ≤ lu x := q
      omega)
  rw [BitVec.sshiftRight_eq_of_msb_false hm, BitVec.toNat_ushiftRight, sh_s64 k hk, Nat.shiftRight_eq_div_pow]
  rfl
theorem exP_mem {L : LB} (hw : wf0 L) {c : Int} : ∀ (m i f a b x : Nat), a < lN0 L + 2 → b < lN0 L + 2 → x ∈ exP L c m i f a b → x < lN0 L + 2 := by
  intro m
  induction m with
  | zero => intro i f a b x _ _ h; cases h
  | succ m ih =>
    intro i f a b x ha hb h
    have h : x ∈ (if i + 1 = (lT L).length ∨ ctB c i = true then slc L f (i - f) ++ [a] ++ (slc L f (i - f)).reverse ++ [b] ++ slc L f (i - f) ++ (if i + 1 = (lT L).length then [] else slc L i 1) ++ exP L c m (i + 1) (i + 1) b a else exP L c m (i + 1) f a b) := h
    by_cases z : i + 1 = (lT L).length ∨ ctB c i = true
    · rw [if_pos z] at h
      have sm : ∀ {p n : Nat}, x ∈ slc L p n → x < lN0 L + 2 := fun q => by have := slc_mem hw q; omega
      simp only [List.mem_append, List.mem_reverse, List.mem_singleton] at h
      rcases h with (((((h | h) | h) | h) | h) | h) | h
      · exact sm h
      · omega
      · exact sm h
      · omega
      · exact sm h
      · by_cases z2 : i + 1 = (lT L).length
        · rw [if_pos z2] at h; cases h
        · rw [if_neg z2] at h; exact sm h
      · exact ih (i + 1) (i + 1) b a x hb ha h
    · rw [if_neg z] at h
      exact ih (i + 1) f a b x ha hb h
theorem exL_wf {L : LB} (hw : wf0 L) (h6 : lN0 L ≤ 6) (h1 : 1 ≤ (lT L).length) (h64 : (lT L).length ≤ 64) {c : Int} : wfL (emL L (exL L c)) := by
  have len := exL_len (L := L) (c := c) h1
  have q2 : lS L < 2 ^ lN0 L := hw.2.2.2.1
  have q3 : 2 ^ lN0 L ≤ 2 ^ (lN0 L + 2) := Nat.pow_le_pow_right (by omega) (by omega)
  refine ⟨⟨by show lN0 L + 2 ≤ 8; omega, Nat.zero_le _, by show lN0 L + 2 ≤ 8; omega, by show lS L < 2 ^ (lN0 L + 2); omega, by show (exL L c).length ≤ 256; omega, fun x hx => ?_⟩, by show 1 ≤ lN0 L + 2; omega, Nat.zero_le _, Nat.le_refl _⟩
  show x < lN0 L + 2
  have hx : x ∈ exP L c (lT L).length 0 0 (lN0 L) (lN0 L + 1) ++ [lN0 L] ++ (slc L 0 ((lT L).length - 1)).reverse ++ [lN0 L + 1] := hx
  simp only [List.mem_append, List.mem_reverse, List.mem_singleton] at hx
  rcases hx with ((hx | hx) | hx) | hx
  · exact exP_mem hw _ _ _ _ _ x (by omega) (by omega) hx
  · omega
  · have := slc_mem hw hx; omega
  · omega
theorem nwb_2 (L : LB) (q : Nat) : nwb L (q + 1 + 1) = nwb L q := by
  unfold nwb
  rw [show (q + 1 + 1) % 2 = q % 2 by omega]
theorem s253l {d : Nat} (h : 4 ≤ d) {σ0 : HP} {n : Nat} (hn : n < 3) {L : LB} (hr0 : slR σ0 n L) (hw : wf0 L) (h1 : 1 ≤ (lT L).length) (h64 : (lT L).length ≤ 64) {c : Int} (hc : lu c < 9223372036854775808) : ∀ (m i f q : Nat) (σ : HP) (l : List Nat) (u9 : MV), i + m = (lT L).length → f ≤ i → q ≤ i → l.length + (exP L c m i f (nwb L q) (nwb L (q + 1))).length + (lT L).length + 1 ≤ 600 → DM σ0 σ l → ∃ σ', rsP PG0 MX d 253 30 [vR 101, vI n, vL c, vU, vI (lN0 L : Nat), vI (((lT L).length : Int) - 1), vI f, vI q, vI i, u9] [] σ = some (0, σ') ∧ DM σ0 σ' (l ++ exP L c m i f (nwb L q) (nwb L (q + 1)) ++ [lN0 L] ++ (slc L 0 ((lT L).length - 1)).reverse ++ [lN0 L + 1]) := by
  intro m
  induction m with
  | zero =>
    intro i f q σ l u9 hi hf hq hl hD
    have ei : i = (lT L).length := by omega
    subst ei
    rw [show exP L c 0 (lT L).length f (nwb L q) (nwb L (q + 1)) = [] from rfl, List.append_nil]
    exact s253e (d := d) h hn hr0 hw h1 (by omega) hD vU u9
  | succ m ih =>
    intro i f q σ l u9 hi hf hq hl hD
    have hn2 := wf_len hw
    have h9 := hw.1
    have ex : exP L c (m + 1) i f (nwb L q) (nwb L (q + 1)) = if i + 1 = (lT L).length ∨ ctB c i = true then slc L f (i - f) ++ [nwb L q] ++ (slc L f (i - f)).reverse ++ [nwb L (q + 1)] ++ slc L f (i - f) ++ (if i + 1 = (lT L).length then [] else slc L i 1) ++ exP L c m (i + 1) (i + 1) (nwb L (q + 1)) (nwb L q) else exP L c m (i + 1) f (nwb L q) (nwb L (q + 1)) := rfl
    have eb : lu (l_shr c i) % 2 = lu c / 2 ^ i % 2 := by rw [lu_shr (by omega) hc]
    have k := l_one eb
    by_cases z : i + 1 = (lT L).length ∨ ctB c i = true
    · rw [if_pos z] at ex
      have es := slc_l (L := L) hf (show i ≤ (lT L).length by omega)
      rw [ex] at hl ⊢
      rw [List.length_append] at hl
      have lp : (slc L f (i - f) ++ [nwb L q] ++ (slc L f (i - f)).reverse ++ [nwb L (q + 1)] ++ slc L f (i - f) ++ (if i + 1 = (lT L).length then [] else slc L i 1)).length = 3 * (i - f) + 2 + (if i + 1 = (lT L).length then [] else slc L i 1).length := by
        simp only [List.length_append, List.length_reverse, List.length_cons, List.length_nil, es]
        omega
      have st77 : ∃ u, rsP PG0 MX d 253 30 [vR 101, vI n, vL c, vU, vI (lN0 L : Nat), vI (((lT L).length : Int) - 1), vI f, vI q, vI i, u9] [] σ = rsP PG0 MX d 253 77 [vR 101, vI n, vL c, vU, vI (lN0 L : Nat), vI (((lT L).length : Int) - 1), vI f, vI q, vI i, u] [] σ := by
        by_cases z1 : i + 1 = (lT L).length
        · refine ⟨vI 0, ?_⟩
          rw [sg_253_30]
          (try simp (disch := omega) only [wr_id2])
          repeat (first | ((with_reducible refine step_t ?_ ?_); with_reducible exact True.intro) | ((with_reducible refine step_t ?_ ?_); omega) | ((with_reducible refine step_f ?_ ?_); omega))
          rw [sg_253_59, sg_253_60]
          (try simp (disch := omega) only [wr_id2])
          repeat (first | ((with_reducible refine step_t ?_ ?_); with_reducible exact True.intro) | ((with_reducible refine step_t ?_ ?_); omega) | ((with_reducible refine step_f ?_ ?_); omega))
          rfl
        · refine ⟨vI 1, ?_⟩
          have zc : ctB c i = true := by
            rcases z with q | q
            · exact absurd q z1
            · exact q
          have zc : lu c / 2 ^ i % 2 = 1 := of_decide_eq_true zc
          rw [sg_253_30]
          (try simp (disch := omega) only [wr_id2])
          repeat (first | ((with_reducible refine step_t ?_ ?_); with_reducible exact True.intro) | ((with_reducible refine step_t ?_ ?_); omega) | ((with_reducible refine step_f ?_ ?_); omega))
          rw [sg_253_60]
          (try simp (disch := omega) only [wr_id2])
          repeat (first | ((with_reducible refine step_t ?_ ?_); with_reducible exact True.intro) | ((with_reducible refine step_t ?_ ?_); omega) | ((with_reducible refine step_f ?_ ?_); omega))
          rfl
      obtain ⟨u, st77⟩ := st77
      obtain ⟨σ1, k1, D1⟩ := s253p (d := d) h hn hr0 hw hf (by omega) (by omega) (by omega) hD (c := c) (q := q) u
      have ih2 := ih (i + 1) (i + 1) (q + 1) σ1 _ vU (by omega) (Nat.le_refl _) (by omega) (by rw [nwb_2, List.length_append]; omega) D1
      rw [nwb_2] at ih2
      obtain ⟨σ2, k2, D2⟩ := ih2
      refine ⟨σ2, ?_, by rw [← List.append_assoc l]; exact D2⟩
      rw [st77, k1]
      exact k2
    · rw [if_neg z] at ex
      rw [ex] at hl ⊢
      have z1 : ¬ i + 1 = (lT L).length := fun q => z (Or.inl q)
      have zc : ¬ lu c / 2 ^ i % 2 = 1 := fun w => z (Or.inr (decide_eq_true w))
      obtain ⟨σ2, k2, D2⟩ := ih (i + 1) f q σ l vU (by omega) (by omega) (by omega) hl hD
      refine ⟨σ2, ?_, D2⟩
      rw [sg_253_30]
      (try simp (disch := omega) only [wr_id2])
      repeat (first | ((with_reducible refine step_t ?_ ?_); with_reducible exact True.intro) | ((with_reducible refine step_t ?_ ?_); omega) | ((with_reducible refine step_f ?_ ?_); omega))
      rw [sg_253_59, sg_253_60]
      (try simp (disch := omega) only [wr_id2])
      repeat (first | ((with_reducible refine step_t ?_ ?_); with_reducible exact True.intro) | ((with_reducible refine step_t ?_ ?_); omega) | ((with_reducible refine step_f ?_ ?_); omega))
      exact k2
theorem s253 {d : Nat} (h : 5 ≤ d) {σ : HP} (hy : Lay σ) {n : Nat} (hn : n < 3) {L : LB} (hr : slR σ n L) (hw : wf0 L) (h1 : 1 ≤ (lT L).length) (h64 : (lT L).length ≤ 64) {c : Int} (hc : lu c < 9223372036854775808) : ∃ σ', clR PG0 MX d 253 [vR 101, vI n, vL c] σ = some (0, σ') ∧ DM σ σ' (exL L c) := by
  obtain ⟨d, rfl⟩ := ob1 (show 1 ≤ d by omega)
  have y1 := hy.1; have k101 := y101_m1 hy
  have len := exL_len (L := L) (c := c) h1
  unfold exL at len
  rw [len_a, List.length_append, len_a, List.length_reverse] at len
  have e2 := slc_l (L := L) (f := 0) (i := (lT L).length - 1) (Nat.zero_le _) (by omega)
  rw [Nat.sub_zero] at e2
  have D0 := dm_0 hy
  obtain ⟨σ1, k1, D1⟩ := s253l (d := d) (by omega) hn hr hw h1 h64 hc (lT L).length 0 0 0 _ [] vU (by omega) (Nat.le_refl _) (Nat.le_refl _) (by show 0 + (exP L c (lT L).length 0 0 (lN0 L) (lN0 L + 1)).length + _ + 1 ≤ 600; omega) D0
  refine ⟨σ1, ?_, ?_⟩
  · rw [ce_253, sg_253_0]
    repeat (first | ((with_reducible refine step_t ?_ ?_); with_reducible exact True.intro) | ((with_reducible refine step_t ?_ ?_); omega) | ((with_reducible refine step_f ?_ ?_); omega))
    refine step_c (s207 (by omega) hy hn hr) ?_
    try dsimp only
    repeat (first | ((with_reducible refine step_t ?_ ?_); with_reducible exact True.intro) | ((with_reducible refine step_t ?_ ?_); omega) | ((with_reducible refine step_f ?_ ?_); omega))
    refine step_c (s204 (by omega) hy hn hr) ?_
    try dsimp only
    repeat (first | ((with_reducible refine step_t ?_ ?_); with_reducible exact True.intro) | ((with_reducible refine step_t ?_ ?_); omega) | ((with_reducible refine step_f ?_ ?_); omega))
    exact k1
  · rw [List.nil_append] at D1
    exact D1
