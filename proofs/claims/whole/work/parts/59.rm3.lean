/-! THE REFERENCE: tape, counts, what is told -/
theorem MM.tap {σ σ' : HP} {S : AS} {l : List Nat} (hm : MM σ S) (hl : inR σ' 101 106 400 7 l) (hsm : ∀ a j, a = 102 ∨ a = 104 ∨ a = 114 ∨ (a = 101 ∧ (j = 3 ∨ j = 8 ∨ j = 9 ∨ j = 28)) → σ' a j = σ a j) : MM σ' (mkA S.sl S.hs l S.fk S.fp S.ot) := by
  refine ⟨fun k hk => ?_, hm.wf, ?_, hm.dl, fun i hi k hk => ?_, hm.hw, hl, ?_, ?_, inR_same hm.ot (hsm _ _ (by omega)) (fun j => hsm _ _ (by omega))⟩
  · rw [hsm _ _ (by omega)]; exact hm.row k hk
  · rw [hsm _ _ (by omega)]; exact hm.km
  · rw [hsm _ _ (by omega)]; exact hm.kp i hi k hk
  · rw [hsm _ _ (by omega)]; exact hm.fk
  · rw [hsm _ _ (by omega)]; exact hm.fp
theorem MM.out {σ σ' : HP} {S : AS} {l : List Nat} (hm : MM σ S) (hl : inR σ' 101 114 2400 28 l) (hsm : ∀ a j, a = 102 ∨ a = 104 ∨ a = 106 ∨ (a = 101 ∧ (j = 3 ∨ (7 ≤ j ∧ j ≤ 9))) → σ' a j = σ a j) : MM σ' (mkA S.sl S.hs S.tp S.fk S.fp l) := by
  refine ⟨fun k hk => ?_, hm.wf, ?_, hm.dl, fun i hi k hk => ?_, hm.hw, inR_same hm.tp (hsm _ _ (by omega)) (fun j => hsm _ _ (by omega)), ?_, ?_, hl⟩
  · rw [hsm _ _ (by omega)]; exact hm.row k hk
  · rw [hsm _ _ (by omega)]; exact hm.km
  · rw [hsm _ _ (by omega)]; exact hm.kp i hi k hk
  · rw [hsm _ _ (by omega)]; exact hm.fk
  · rw [hsm _ _ (by omega)]; exact hm.fp
/-- end -/
theorem m186 (S : AS) {n : Int} (hx : i32 n) : mOp 186 [vI n] S (endA S n) := by
  intro d σ h hy ht hm
  obtain ⟨d, rfl⟩ := ob1 (show 1 ≤ d by omega)
  have y1 := hy.1; have k101 := y101_m1 hy
  have x1 := hx.1
  have x2 := hx.2
  have wx := hx.wr
  obtain ⟨l1, l2, l3⟩ := hm.tp
  have e1 := s179 (d := d) (by omega) σ hx (y := 0) (z := (S.tp.length : Nat)) ⟨by decide, by decide⟩ ⟨by omega, by omega⟩
  unfold endA
  by_cases z : 0 ≤ n ∧ n ≤ S.tp.length
  · rw [if_pos z]
    rw [decide_eq_true z] at e1
    have hF1 : FM σ (up σ 101 7 n) := (FM.rf hy).upf okf_7
    refine ⟨up σ 101 7 n, ?_, hF1.fl, hm.tap ⟨?_, ?_, fun i x hx => ?_⟩ (fun a j q => ?_)⟩
    · rw [ce_186, sg_186_0]
      (try simp (disch := omega) only [l1, wx, wr_id2])
      refine step_t (by omega) ?_
      refine step_c (e1) ?_
      try dsimp only
      rw [wr_b2i]
      refine step_t (show b2i true ≠ 0 by decide) ?_
      repeat (first | ((with_reducible refine step_t ?_ ?_); with_reducible exact True.intro) | ((with_reducible refine step_t ?_ ?_); omega) | ((with_reducible refine step_f ?_ ?_); omega))
      rfl
    · rw [up_s, List.length_take]; omega
    · rw [List.length_take]; omega
    · rw [up_n1 _ _ _ _ (by omega)]
      refine l3 i x ?_
      by_cases z2 : i < n.toNat
      · rw [List.getElem?_take_of_lt z2] at hx; exact hx
      · rw [List.getElem?_eq_none (by rw [List.length_take]; omega)] at hx; cases hx
    · by_cases za : a = 101
      · rw [up_n2 _ _ _ _ (by omega)]
      · rw [up_n1 _ _ _ _ za]
  · rw [if_neg z]
    rw [decide_eq_false z] at e1
    refine ⟨σ, ?_, (FM.rf hy).fl, hm⟩
    rw [ce_186, sg_186_0]
    (try simp (disch := omega) only [l1, wx, wr_id2])
    refine step_t (by omega) ?_
    refine step_c (e1) ?_
    try dsimp only
    rw [wr_b2i]
    refine step_f (show ¬ (b2i false ≠ 0) by decide) ?_
    rfl
/-- fault -/
theorem m198 (S : AS) {w : Int} (hx : i32 w) : mOp 198 [vI w] S (fltA S w, S) := by
  intro d σ h hy ht hm
  obtain ⟨d, rfl⟩ := ob1 (show 1 ≤ d by omega)
  have y1 := hy.1; have k101 := y101_m1 hy
  have x1 := hx.1
  have x2 := hx.2
  have f1 := hm.fk
  have f2 := hm.fp
  refine ⟨σ, ?_, (FM.rf hy).fl, hm⟩
  unfold fltA
  rw [ce_198, sg_198_0]
  (try simp (disch := omega) only [f1, f2, wr_id2])
  refine step_i (fun g => ?_) (fun g => ?_)
  · rw [if_neg g]
    refine step_i (fun g2 => ?_) (fun g2 => ?_)
    · rw [if_neg g2]
    · rw [if_pos (by omega)]
      repeat (first | ((with_reducible refine step_t ?_ ?_); with_reducible exact True.intro) | ((with_reducible refine step_t ?_ ?_); omega) | ((with_reducible refine step_f ?_ ?_); omega))
      rfl
  · rw [if_pos (by omega)]
    repeat (first | ((with_reducible refine step_t ?_ ?_); with_reducible exact True.intro) | ((with_reducible refine step_t ?_ ?_); omega) | ((with_reducible refine step_f ?_ ?_); omega))
    rfl
/-- count -/
theorem s199l {d : Nat} (h : 3 ≤ d) {σ : HP} {S : AS} (hy : Lay σ) (hm : MM σ S) {w : Int} (hx : i32 w) : ∀ (m i a : Nat), i + m = 3 → a < 256 → rsP PG0 MX d 199 4 [vR 101, vI w, vI a, vI i] [] σ = some (if w = 0 then ((sbF S m i a : Nat) : Int) else if w = 1 then (S.hs.length : Nat) else if w = 2 then (S.tp.length : Nat) else if w = 3 then (S.ot.length : Nat) else -1, σ) := by
  have y1 := hy.1; have k101 := y101_m1 hy
  have x1 := hx.1
  have x2 := hx.2
  have f1 := hm.km
  have f2 := hm.tp.1
  have f3 := hm.ot.1
  intro m
  induction m with
  | zero =>
    intro i a hi ha
    rw [sg_199_4]
    (try simp (disch := omega) only [f1, f2, f3, wr_id2])
    refine step_t (by omega) ?_
    refine step_i (fun g => ?_) (fun g => ?_)
    · rw [if_pos g]
      rfl
    · rw [if_neg g]
      refine step_i (fun g2 => ?_) (fun g2 => ?_)
      · rw [if_pos g2]
        repeat (first | ((with_reducible refine step_t ?_ ?_); with_reducible exact True.intro) | ((with_reducible refine step_t ?_ ?_); omega) | ((with_reducible refine step_f ?_ ?_); omega))
        rfl
      · rw [if_neg g2]
        refine step_i (fun g3 => ?_) (fun g3 => ?_)
        · rw [if_pos g3]
          repeat (first | ((with_reducible refine step_t ?_ ?_); with_reducible exact True.intro) | ((with_reducible refine step_t ?_ ?_); omega) | ((with_reducible refine step_f ?_ ?_); omega))
          rfl
        · rw [if_neg g3]
          refine step_i (fun g4 => ?_) (fun g4 => ?_)
          · rw [if_pos g4]
            repeat (first | ((with_reducible refine step_t ?_ ?_); with_reducible exact True.intro) | ((with_reducible refine step_t ?_ ?_); omega) | ((with_reducible refine step_f ?_ ?_); omega))
            rfl
          · rw [if_neg g4]
  | succ m ih =>
    intro i a hi ha
    have eg : gl S (i : Int) = S.sl i := by
      unfold gl
      rw [if_pos (by omega)]
      rfl
    have e180 := s180 (d := d) h hy hm (s := (i : Int)) (i32_n (by omega))
    rw [eg] at e180
    have q2 : 2 ^ i < 256 := p256 (by omega)
    have q4 : a ||| 2 ^ i < 256 := Nat.or_lt_two_pow (n := 8) ha q2
    have or0 : i_or (a : Int) 0 = (a : Nat) := by
      have := i_or_n (a := a) (b := 0) (by omega) (by omega)
      rw [Nat.or_zero] at this
      exact this
    rw [sg_199_4]
    (try simp (disch := omega) only [wr_id2])
    repeat (first | ((with_reducible refine step_t ?_ ?_); with_reducible exact True.intro) | ((with_reducible refine step_t ?_ ?_); omega) | ((with_reducible refine step_f ?_ ?_); omega))
    refine step_c (e180) ?_
    try dsimp only
    rw [wr_b2i]
    unfold sbF
    cases (S.sl i).isSome
    · refine step_t (show b2i false = 0 by decide) ?_
      rw [or0]
      exact ih (i + 1) a (by omega) ha
    · refine step_f (show ¬ (b2i true = 0) by decide) ?_
      rw [shl1 (x := i) (by omega), i_or_n (a := a) (b := 2 ^ i) (by omega) (by omega)]
      exact ih (i + 1) (a ||| 2 ^ i) (by omega) q4
theorem m199 (S : AS) {w : Int} (hx : i32 w) : mOp 199 [vI w] S (cntA S w, S) := by
  intro d σ h hy ht hm
  obtain ⟨d, rfl⟩ := ob1 (show 1 ≤ d by omega)
  refine ⟨σ, ?_, (FM.rf hy).fl, hm⟩
  rw [ce_199, sg_199_0]
  exact s199l (d := d) (by omega) hy hm hx 3 0 0 (by omega) (by omega)
/-- octet -/
theorem m285 (S : AS) {i : Int} (hx : i32 i) : mOp 285 [vI i] S (octA S i, S) := by
  intro d σ h hy ht hm
  obtain ⟨d, rfl⟩ := ob1 (show 1 ≤ d by omega)
  have y1 := hy.1; have k101 := y101_m1 hy; have p114 := y101_27 hy; have k114 := y114_m1 hy; have l114 := y114_m2 hy
  have x1 := hx.1
  have x2 := hx.2
  have wx := hx.wr
  obtain ⟨l1, l2, l3⟩ := hm.ot
  have e1 := s179 (d := d) (by omega) σ hx (y := 0) (z := (S.ot.length : Nat) - 1) ⟨by decide, by decide⟩ ⟨by omega, by omega⟩
  refine ⟨σ, ?_, (FM.rf hy).fl, hm⟩
  unfold octA
  rw [ce_285, sg_285_0]
  (try simp (disch := omega) only [l1, wx, wr_id2])
  refine step_t (by omega) ?_
  refine step_c (e1) ?_
  try dsimp only
  rw [wr_b2i]
  by_cases z : 0 ≤ i ∧ i ≤ (S.ot.length : Nat) - 1
  · rw [decide_eq_true z, if_pos z.1]
    refine step_f (show ¬ (b2i true = 0) by decide) ?_
    obtain ⟨y, hy2⟩ : ∃ y, S.ot[i.toNat]? = some y := ⟨_, List.getElem?_eq_getElem (by omega)⟩
    have e2 := (l3 _ y hy2).2
    rw [show ((i.toNat : Nat) : Int) = i by omega] at e2
    rw [hy2]
    (try simp (disch := omega) only [p114, wx, e2, wr_id2])
    repeat (first | ((with_reducible refine step_t ?_ ?_); with_reducible exact True.intro) | ((with_reducible refine step_t ?_ ?_); omega) | ((with_reducible refine step_f ?_ ?_); omega))
    rfl
  · rw [decide_eq_false z]
    refine step_t (show b2i false = 0 by decide) ?_
    by_cases z2 : 0 ≤ i
    · rw [if_pos z2, List.getElem?_eq_none (by omega)]
    · rw [if_neg z2]
/-- feed -/
theorem ushr_0 (x : Int) : i_ushr x 0 = wr x := by
  have e : (Int32.ofInt 0).toUInt32 &&& Int32.toUInt32 31 = 0 := by decide
  unfold i_ushr wr
  rw [e, UInt32.shiftRight_zero]
  rfl
theorem byX_wr (x : Int) : byX (wr x) = byX x := by
  unfold byX i_and
  rw [show Int32.ofInt (wr x) = Int32.ofInt x from Int32.ofInt_toInt _]
theorem s185l {d : Nat} {σ0 : HP} {A : Int} (hA : 115 ≤ A) {f : Nat → Int} {F l0 : List Nat} (hF : ∀ k : Nat, k < 20 → F[k]? = some (byX (i_ushr (f (k / 4)) (24 - 8 * ((k % 4 : Nat) : Int))))) (hl : l0.length ≤ 380) : ∀ (m k : Nat) (σ : HP) (u1 u2 u3 u4 u5 : MV), k + m = 20 → FM σ0 σ → A < σ (-1) 0 → σ A (-1) = 20 → σ A (-2) = 5 → (∀ j : Nat, j < 5 → σ A j = f j) → σ 101 7 = (l0.length : Nat) → (∀ i x : Nat, l0[i]? = some x → σ 106 i = x) → (∀ j x : Nat, j < k → F[j]? = some x → σ 106 ((l0.length + j : Nat) : Int) = x) → ∃ σ', rsP PG0 MX d 185 42 [vR 101, u1, u2, u3, u4, u5, vR A, vI k] [] σ = some (((l0.length + 20 : Nat) : Int), σ') ∧ FM σ0 σ' ∧ (∀ a j, a ≠ 106 → (a ≠ 101 ∨ j ≠ 7) → σ' a j = σ a j) ∧ σ' 101 7 = ((l0.length + 20 : Nat) : Int) ∧ (∀ i x : Nat, l0[i]? = some x → σ' 106 i = x) ∧ ∀ j x : Nat, j < 20 → F[j]? = some x → σ' 106 ((l0.length + j : Nat) : Int) = x := by
  intro m
  induction m with
  | zero =>
    intro k σ u1 u2 u3 u4 u5 hk hM a1 a2 a3 a4 a5 a6 a7
    have hy := hM.2
    have y1 := hy.1; have k101 := y101_m1 hy; have p106 := y101_6 hy; have k106 := y106_m1 hy; have l106 := y106_m2 hy
    have hF1 : FM σ0 (up σ 101 7 ((l0.length : Nat) + 20)) := hM.upf okf_7
    have hy1 := hF1.2
    have y1b := hy1.1; have k101b := y101_m1 hy1
    refine ⟨up σ 101 7 ((l0.length : Nat) + 20), ?_, hF1, fun a j h1 h2 => ?_, by rw [up_s]; omega, fun i x hx => by rw [up_n1 _ _ _ _ (by omega)]; exact a6 i x hx, fun j x h1 h2 => by rw [up_n1 _ _ _ _ (by omega)]; exact a7 j x (by omega) h2⟩
    · rw [sg_185_42]
      (try simp (disch := omega) only [a5, up_s, wr_id2])
      repeat (first | ((with_reducible refine step_t ?_ ?_); with_reducible exact True.intro) | ((with_reducible refine step_t ?_ ?_); omega) | ((with_reducible refine step_f ?_ ?_); omega))
      rfl
    · rcases h2 with h2 | h2
      · rw [up_n1 _ _ _ _ h2]
      · rw [up_n2 _ _ _ _ h2]
  | succ m ih =>
    intro k σ u1 u2 u3 u4 u5 hk hM a1 a2 a3 a4 a5 a6 a7
    have hy := hM.2
    have y1 := hy.1; have k101 := y101_m1 hy; have p106 := y101_6 hy; have k106 := y106_m1 hy; have l106 := y106_m2 hy
    have e1 : i_div (k : Int) 4 = ((k / 4 : Nat) : Int) := i_div_n (b := 4) (by omega) (by omega) (by omega)
    have e2 : i_rem (k : Int) 4 = ((k % 4 : Nat) : Int) := i_rem_n (b := 4) (by omega) (by omega) (by omega)
    have e3 := a4 (k / 4) (by omega)
    have e4 := hF k (by omega)
    have hM1 : FM σ0 (up σ 106 ((l0.length : Nat) + (k : Int)) (byX (i_ushr (f (k / 4)) (24 - 8 * ((k % 4 : Nat) : Int))) : Nat)) := hM.upd (by omega) okr_106 (by omega)
    obtain ⟨σ', k1, k2, k3, k4, k5, k6⟩ := ih (k + 1) _ vU vU vU vU vU (by omega) hM1 (by rw [up_n1 _ _ _ _ (by omega)]; exact a1) (by rw [up_n1 _ _ _ _ (by omega)]; exact a2) (by rw [up_n1 _ _ _ _ (by omega)]; exact a3) (fun j hj => by rw [up_n1 _ _ _ _ (by omega)]; exact a4 j hj) (by rw [up_n1 _ _ _ _ (by omega)]; exact a5) (fun i x hx => by
        have : i < l0.length := (List.getElem?_eq_some_iff.mp hx).1
        rw [up_n2 _ _ _ _ (by omega)]; exact a6 i x hx) (fun j x h1 h2 => by
        by_cases z : j = k
        · subst z
          rw [e4] at h2
          cases h2
          rw [show ((l0.length + j : Nat) : Int) = (l0.length : Nat) + (j : Int) by omega, up_s]
        · rw [up_n2 _ _ _ _ (by omega)]; exact a7 j x (by omega) h2)
    refine ⟨σ', ?_, k2, fun a j h1 h2 => by rw [k3 a j h1 h2, up_n1 _ _ _ _ h1], k4, k5, k6⟩
    rw [byX_i] at k1
    rw [sg_185_42]
    (try simp (disch := omega) only [p106, a5, e1, e2, e3, wr_id2])
    repeat (first | ((with_reducible refine step_t ?_ ?_); with_reducible exact True.intro) | ((with_reducible refine step_t ?_ ?_); omega) | ((with_reducible refine step_f ?_ ?_); omega))
    rw [sg_185_83]
    exact k1
theorem Lay.hi {σ σ' : HP} (h : Lay σ) (h0 : σ (-1) 0 ≤ σ' (-1) 0) (hs : ∀ a j, 0 ≤ a → a < 115 → σ' a j = σ a j) : Lay σ' := by
  have hb : ∀ t ∈ layT, 0 ≤ t.1 ∧ t.1 < 115 := by decide +kernel
  refine ⟨by have := h.1; omega, fun t ht => ?_⟩
  obtain ⟨b1, b2⟩ := hb t ht
  rw [hs _ _ b1 b2]
  exact h.2 t ht
theorem m185 (S : AS) (a b c e f : Int) : mOp 185 [vI a, vI b, vI c, vI e, vI f] S (fedA S a b c e f) := by
  intro d σ h hy ht hm
  obtain ⟨d, rfl⟩ := ob1 (show 1 ≤ d by omega)
  have y1 := hy.1; have k101 := y101_m1 hy
  obtain ⟨l1, l2, l3⟩ := hm.tp
  unfold fedA
  by_cases z : S.tp.length ≤ 380
  · rw [if_pos z]
    have hA : 115 ≤ σ (-1) 0 := hy.1
    have nz : ∀ x j, x ≠ σ (-1) 0 → x ≠ -1 → newA σ 20 5 x j = σ x j := fun x j h1 h2 => by
      show (if x = σ (-1) 0 then _ else if x = -1 then _ else σ x j) = _
      rw [if_neg h1, if_neg h2]
    have n0 : newA σ 20 5 (-1) 0 = σ (-1) 0 + 1 := by
      show (if (-1 : Int) = σ (-1) 0 then _ else if (-1 : Int) = -1 then (if (0 : Int) = 0 then _ else _) else _) = _
      rw [if_neg (by omega), if_pos rfl, if_pos rfl]
    have n1 : newA σ 20 5 (-1) 1 = σ (-1) 1 + 5 := by
      show (if (-1 : Int) = σ (-1) 0 then _ else if (-1 : Int) = -1 then (if (1 : Int) = 0 then _ else if (1 : Int) = 1 then _ else _) else _) = _
      rw [if_neg (by omega), if_pos rfl, if_neg (by omega), if_pos rfl]
    have nk : newA σ 20 5 (σ (-1) 0) (-1) = 20 := by
      show (if σ (-1) 0 = σ (-1) 0 then (if (-1 : Int) = -1 then _ else _) else _) = _
      rw [if_pos rfl, if_pos rfl]
    have nl : newA σ 20 5 (σ (-1) 0) (-2) = 5 := by
      show (if σ (-1) 0 = σ (-1) 0 then (if (-2 : Int) = -1 then _ else if (-2 : Int) = -2 then _ else _) else _) = _
      rw [if_pos rfl, if_neg (by omega), if_pos rfl]
    generalize hAe : σ (-1) 0 = A at *
    generalize hnA : newA σ 20 5 = τ at *
    have hyτ : Lay τ := hy.hi (by omega) (fun x j h1 h2 => nz x j (by omega) (by omega))
    have st : ∀ x j, x ≠ A → (up (up (up (up (up τ A 0 a) A 1 b) A 2 c) A 3 e) A 4 f) x j = τ x j := fun x j hx => by rw [up_n1 _ _ _ _ hx, up_n1 _ _ _ _ hx, up_n1 _ _ _ _ hx, up_n1 _ _ _ _ hx, up_n1 _ _ _ _ hx]
    have hyT : Lay (up (up (up (up (up τ A 0 a) A 1 b) A 2 c) A 3 e) A 4 f) := hyτ.hi (by rw [st _ _ (by omega)]; omega) (fun x j h1 h2 => st x j (by omega))
    have fv : ∀ j : Nat, j < 5 → (up (up (up (up (up τ A 0 a) A 1 b) A 2 c) A 3 e) A 4 f) A j = (if j = 0 then a else if j = 1 then b else if j = 2 then c else if j = 3 then e else f) := by
      intro j hj
      rcases (show j = 0 ∨ j = 1 ∨ j = 2 ∨ j = 3 ∨ j = 4 by omega) with q | q | q | q | q <;> subst q
      · show (up (up (up (up (up τ A 0 a) A 1 b) A 2 c) A 3 e) A 4 f) A 0 = a
        rw [up_n2 _ _ _ _ (by omega), up_n2 _ _ _ _ (by omega), up_n2 _ _ _ _ (by omega), up_n2 _ _ _ _ (by omega), up_s]
      · show (up (up (up (up (up τ A 0 a) A 1 b) A 2 c) A 3 e) A 4 f) A 1 = b
        rw [up_n2 _ _ _ _ (by omega), up_n2 _ _ _ _ (by omega), up_n2 _ _ _ _ (by omega), up_s]
      · show (up (up (up (up (up τ A 0 a) A 1 b) A 2 c) A 3 e) A 4 f) A 2 = c
        rw [up_n2 _ _ _ _ (by omega), up_n2 _ _ _ _ (by omega), up_s]
      · show (up (up (up (up (up τ A 0 a) A 1 b) A 2 c) A 3 e) A 4 f) A 3 = e
        rw [up_n2 _ _ _ _ (by omega), up_s]
      · show (up (up (up (up (up τ A 0 a) A 1 b) A 2 c) A 3 e) A 4 f) A 4 = f
        rw [up_s]
    have hk5 : (up (up (up (up (up τ A 0 a) A 1 b) A 2 c) A 3 e) A 4 f) A (-1) = 20 := by
      rw [up_n2 _ _ _ _ (by omega), up_n2 _ _ _ _ (by omega), up_n2 _ _ _ _ (by omega), up_n2 _ _ _ _ (by omega), up_n2 _ _ _ _ (by omega)]; exact nk
    have hl5 : (up (up (up (up (up τ A 0 a) A 1 b) A 2 c) A 3 e) A 4 f) A (-2) = 5 := by
      rw [up_n2 _ _ _ _ (by omega), up_n2 _ _ _ _ (by omega), up_n2 _ _ _ _ (by omega), up_n2 _ _ _ _ (by omega), up_n2 _ _ _ _ (by omega)]; exact nl
    have hF : ∀ k : Nat, k < 20 → (fdB a ++ fdB b ++ fdB c ++ fdB e ++ fdB f)[k]? = some (byX (i_ushr (if k / 4 = 0 then a else if k / 4 = 1 then b else if k / 4 = 2 then c else if k / 4 = 3 then e else f) (24 - 8 * ((k % 4 : Nat) : Int)))) := by
      have z0 : ∀ x, byX (i_ushr x 0) = byX x := fun x => by rw [ushr_0, byX_wr]
      intro k hk
      rcases (show k = 0 ∨ k = 1 ∨ k = 2 ∨ k = 3 ∨ k = 4 ∨ k = 5 ∨ k = 6 ∨ k = 7 ∨ k = 8 ∨ k = 9 ∨ k = 10 ∨ k = 11 ∨ k = 12 ∨ k = 13 ∨ k = 14 ∨ k = 15 ∨ k = 16 ∨ k = 17 ∨ k = 18 ∨ k = 19 by omega) with q | q | q | q | q | q | q | q | q | q | q | q | q | q | q | q | q | q | q | q <;> subst q
      · rfl
      · rfl
      · rfl
      · exact congrArg some (z0 a).symm
      · rfl
      · rfl
      · rfl
      · exact congrArg some (z0 b).symm
      · rfl
      · rfl
      · rfl
      · exact congrArg some (z0 c).symm
      · rfl
      · rfl
      · rfl
      · exact congrArg some (z0 e).symm
      · rfl
      · rfl
      · rfl
      · exact congrArg some (z0 f).symm
    obtain ⟨σ', k1, k2, k3, k4, k5, k6⟩ := s185l (d := d) (σ0 := up (up (up (up (up τ A 0 a) A 1 b) A 2 c) A 3 e) A 4 f) hA (f := fun j => if j = 0 then a else if j = 1 then b else if j = 2 then c else if j = 3 then e else f) hF z 20 0 _ (vI a) (vI b) (vI c) (vI e) (vI f) (by omega) (FM.rf hyT) (by rw [st _ _ (by omega)]; omega) hk5 hl5 fv (by rw [st _ _ (by omega), nz _ _ (by omega) (by omega)]; exact l1) (fun i x hx => by rw [st _ _ (by omega), nz _ _ (by omega) (by omega)]; exact (l3 i x hx).2) (fun j x h1 => by omega)
    have hsm : ∀ x j, x ≠ A → x ≠ -1 → x ≠ 106 → (x ≠ 101 ∨ j ≠ 7) → σ' x j = σ x j := fun x j h1 h2 h3 h4 => by rw [k3 x j h3 h4, st x j h1, nz x j h1 h2]
    have m0 : σ' (-1) 0 = A + 1 := by rw [k3 _ _ (by omega) (by omega), st _ _ (by omega)]; exact n0
    have m1 : σ' (-1) 1 = σ (-1) 1 + 5 := by rw [k3 _ _ (by omega) (by omega), st _ _ (by omega)]; exact n1
    have hlen : (S.tp ++ fdB a ++ fdB b ++ fdB c ++ fdB e ++ fdB f).length = S.tp.length + 20 := by simp only [List.length_append, fdB_l]
    have happ : S.tp ++ fdB a ++ fdB b ++ fdB c ++ fdB e ++ fdB f = S.tp ++ (fdB a ++ fdB b ++ fdB c ++ fdB e ++ fdB f) := by simp only [List.append_assoc]
    refine ⟨σ', ?_, ⟨fun x j h1 h2 => hsm x j (by omega) (by omega) (by omega) (by omega), k2.2, by omega, by omega, by omega, by omega⟩, hm.tap ⟨by rw [k4, hlen], by rw [hlen]; omega, fun i x hx => ?_⟩ (fun x j q => hsm x j (by omega) (by omega) (by omega) (by omega))⟩
    · rw [ce_185, sg_185_0]
      (try simp (disch := omega) only [l1, hAe, hnA, wr_id2])
      repeat (first | ((with_reducible refine step_t ?_ ?_); with_reducible exact True.intro) | ((with_reducible refine step_t ?_ ?_); omega) | ((with_reducible refine step_f ?_ ?_); omega))
      (try simp (disch := omega) only [up_n1, up_n2, wr_id2])
      repeat (first | ((with_reducible refine step_t ?_ ?_); with_reducible exact True.intro) | ((with_reducible refine step_t ?_ ?_); omega) | ((with_reducible refine step_f ?_ ?_); omega))
      rw [sg_185_39]
      exact k1
    · rw [happ] at hx
      by_cases zi : i < S.tp.length
      · rw [List.getElem?_append_left zi] at hx
        exact ⟨(l3 i x hx).1, k5 i x hx⟩
      · rw [List.getElem?_append_right (by omega)] at hx
        have h20 : i - S.tp.length < 20 := by
          have := (List.getElem?_eq_some_iff.mp hx).1
          simp only [List.length_append, fdB_l] at this
          omega
        have q := k6 _ x h20 hx
        rw [show S.tp.length + (i - S.tp.length) = i by omega] at q
        refine ⟨?_, q⟩
        rw [hF _ h20] at hx
        cases hx
        exact byX_lt _
  · rw [if_neg z]
    refine ⟨σ, ?_, (FM.rf hy).fl, hm⟩
    rw [ce_185, sg_185_0]
    (try simp (disch := omega) only [l1, wr_id2])
    repeat (first | ((with_reducible refine step_t ?_ ?_); with_reducible exact True.intro) | ((with_reducible refine step_t ?_ ?_); omega) | ((with_reducible refine step_f ?_ ?_); omega))
    rfl
/-! what is told -/
def OW (σ0 σ : HP) (l : List Nat) : Prop := ((∀ a j, a ≠ 114 → (a ≠ 101 ∨ j ≠ 28) → σ a j = σ0 a j) ∧ Lay σ) ∧ inR σ 101 114 2400 28 l
theorem ow_up {σ0 σ : HP} {l : List Nat} (h : OW σ0 σ l) (hl : l.length < 2400) {v : Nat} (hv : v < 256) : OW σ0 (up (up σ 114 (l.length : Nat) v) 101 28 ((l.length : Nat) + 1)) (l ++ [v]) := by
  obtain ⟨⟨f1, hy⟩, m1, m2, m3⟩ := h
  refine ⟨⟨fun a j h1 h2 => ?_, (hy.upd okr_114 (by omega) (by omega)).upf okf_28 (by omega)⟩, by rw [up_s, List.length_append]; rfl, by rw [List.length_append]; show ((l.length + 1 : Nat) : Int) ≤ 2400; omega, fun i y hy3 => ?_⟩
  · rcases h2 with h2 | h2
    · rw [up_n1 _ _ _ _ h2, up_n1 _ _ _ _ h1]; exact f1 a j h1 (Or.inl h2)
    · rw [up_n2 _ _ _ _ h2, up_n1 _ _ _ _ h1]; exact f1 a j h1 (Or.inr h2)
  · rw [up_n1 _ _ _ _ (by omega)]
    by_cases z : i < l.length
    · rw [List.getElem?_append_left z] at hy3
      rw [up_n2 _ _ _ _ (by omega)]
      exact m3 i y hy3
    · by_cases z2 : i = l.length
      · subst z2
        rw [List.getElem?_append_right (by omega), Nat.sub_self] at hy3
        have hy3 : some v = some y := hy3
        cases hy3
        exact ⟨hv, up_s _ _ _ _⟩
      · rw [List.getElem?_eq_none (by rw [List.length_append]; show l.length + 1 ≤ i; omega)] at hy3
        cases hy3
theorem ow_at {σ0 σ : HP} {l : List Nat} (h : OW σ0 σ l) (hl : l.length < 2400) (v : Int) : (up σ 114 (l.length : Nat) v) 101 28 = (l.length : Nat) := by rw [up_n1 _ _ _ _ (by omega)]; exact h.2.1
theorem ow_slr {σ0 σ : HP} {l : List Nat} (h : OW σ0 σ l) {n : Nat} {L : LB} (hr : slR σ0 n L) : slR σ n L := by
  have e : ∀ j, σ 102 j = σ0 102 j := fun j => h.1.1 _ _ (by omega) (by omega)
  unfold slR
  simp only [e]
  exact hr
theorem ow_wdr {σ0 σ : HP} {l : List Nat} (h : OW σ0 σ l) {L : LB} (hr : wdR σ0 L) : wdR σ L := by
  obtain ⟨q1, q2, q3, q4⟩ := hr
  exact ⟨fun i hi => by rw [h.1.1 _ _ (by omega) (by omega)]; exact q1 i hi, fun w hw => by rw [h.1.1 _ _ (by omega) (by omega)]; exact q2 w hw, by rw [h.1.1 _ _ (by omega) (by omega)]; exact q3, by rw [h.1.1 _ _ (by omega) (by omega)]; exact q4⟩
theorem ow_txt {σ0 σ : HP} {l : List Nat} (h : OW σ0 σ l) (ht : Txt σ0) : Txt σ := by
  intro i t e
  obtain ⟨q1, q2, q3⟩ := ht i t e
  have hg := ht.get e
  refine ⟨?_, ?_, fun j y hy => ?_⟩
  · rw [h.1.1 _ _ (by omega) (by omega)]; exact q1
  · rw [h.1.1 _ _ (by omega) (by omega)]; exact q2
  · rw [h.1.1 _ _ (by omega) (by omega)]; exact q3 j y hy
/-- saysNumber -/
theorem ow_e {d : Nat} {σ0 σ : HP} {l : List Nat} (h : OW σ0 σ l) (hl : l.length < 2400) {n : Nat} (hn : n < 1000) : ∃ σ', rsP PG0 MX d 284 14 [vR 101, vI n] [] σ = some (0, σ') ∧ OW σ0 σ' (l ++ [48 + n % 10]) := by
  have hy := h.1.2
  have y1 := hy.1; have k101 := y101_m1 hy; have p114 := y101_27 hy; have k114 := y114_m1 hy; have l114 := y114_m2 hy
  have m1 := h.2.1
  refine ⟨_, ?_, ow_up h hl (v := 48 + n % 10) (by omega)⟩
  have e2 : i_rem (n : Int) 10 = ((n % 10 : Nat) : Int) := i_rem_n (b := 10) (by omega) (by omega) (by omega)
  have hy1 : Lay (up σ 114 (l.length : Nat) ((48 + n % 10 : Nat) : Int)) := hy.upd okr_114 (by omega) (by omega)
  have y1b := hy1.1; have k101b := y101_m1 hy1
  have e3 := ow_at h hl ((48 + n % 10 : Nat) : Int)
  rw [sg_284_14, e2, show (48 : Int) + ((n % 10 : Nat) : Int) = ((48 + n % 10 : Nat) : Int) by omega]
  (try simp (disch := omega) only [p114, m1, e3, wr_id2])
  repeat (first | ((with_reducible refine step_t ?_ ?_); with_reducible exact True.intro) | ((with_reducible refine step_t ?_ ?_); omega) | ((with_reducible refine step_f ?_ ?_); omega))
  rfl
theorem ow_1 {d : Nat} (h : 1 ≤ d) {σ0 σ : HP} {l : List Nat} (hO : OW σ0 σ l) (hl : l.length < 2400) {n : Nat} (hn : n < 10) : ∃ σ', clR PG0 MX d 284 [vR 101, vI n] σ = some (0, σ') ∧ OW σ0 σ' (l ++ [48 + n % 10]) := by
  obtain ⟨d, rfl⟩ := ob1 (show 1 ≤ d by omega)
  obtain ⟨σ', k1, k2⟩ := ow_e (d := d) hO hl (n := n) (by omega)
  refine ⟨σ', ?_, k2⟩
  rw [ce_284, sg_284_0]
  (try simp (disch := omega) only [wr_id2])
  repeat (first | ((with_reducible refine step_t ?_ ?_); with_reducible exact True.intro) | ((with_reducible refine step_t ?_ ?_); omega) | ((with_reducible refine step_f ?_ ?_); omega))
  exact k1
theorem ow_2 {d : Nat} (h : 2 ≤ d) {σ0 σ : HP} {l : List Nat} (hO : OW σ0 σ l) (hl : l.length + 1 < 2400) {n : Nat} (h10 : 10 ≤ n) (hn : n < 100) : ∃ σ', clR PG0 MX d 284 [vR 101, vI n] σ = some (0, σ') ∧ OW σ0 σ' (l ++ ([48 + n / 10 % 10] ++ [48 + n % 10])) := by
  obtain ⟨d, rfl⟩ := ob1 (show 1 ≤ d by omega)
  have hy := hO.1.2
  have y1 := hy.1; have k101 := y101_m1 hy
  have e1 : i_div (n : Int) 10 = ((n / 10 : Nat) : Int) := i_div_n (b := 10) (by omega) (by omega) (by omega)
  obtain ⟨σ1, j1, j2⟩ := ow_1 (d := d) (by omega) hO (by omega) (n := n / 10) (by omega)
  obtain ⟨σ', k1, k2⟩ := ow_e (d := d) j2 (by rw [List.length_append]; exact hl) (n := n) (by omega)
  refine ⟨σ', ?_, by rw [← List.append_assoc]; exact k2⟩
  rw [ce_284, sg_284_0]
  (try simp (disch := omega) only [e1, wr_id2])
  repeat (first | ((with_reducible refine step_t ?_ ?_); with_reducible exact True.intro) | ((with_reducible refine step_t ?_ ?_); omega) | ((with_reducible refine step_f ?_ ?_); omega))
  refine step_c (j1) ?_
  try dsimp only
  exact k1
theorem ow_3 {d : Nat} (h : 3 ≤ d) {σ0 σ : HP} {l : List Nat} (hO : OW σ0 σ l) (hl : l.length + 2 < 2400) {n : Nat} (h100 : 100 ≤ n) (hn : n < 1000) : ∃ σ', clR PG0 MX d 284 [vR 101, vI n] σ = some (0, σ') ∧ OW σ0 σ' (l ++ ([48 + n / 100 % 10] ++ ([48 + n / 10 % 10] ++ [48 + n % 10]))) := by
  obtain ⟨d, rfl⟩ := ob1 (show 1 ≤ d by omega)
  have hy := hO.1.2
  have y1 := hy.1; have k101 := y101_m1 hy
  have e1 : i_div (n : Int) 10 = ((n / 10 : Nat) : Int) := i_div_n (b := 10) (by omega) (by omega) (by omega)
  obtain ⟨σ1, j1, j2⟩ := ow_2 (d := d) (by omega) hO (by omega) (n := n / 10) (by omega) (by omega)
  obtain ⟨σ', k1, k2⟩ := ow_e (d := d) j2 (by rw [List.length_append]; show l.length + 2 < 2400; exact hl) (n := n) (by omega)
  refine ⟨σ', ?_, ?_⟩
  · rw [ce_284, sg_284_0]
    (try simp (disch := omega) only [e1, wr_id2])
    repeat (first | ((with_reducible refine step_t ?_ ?_); with_reducible exact True.intro) | ((with_reducible refine step_t ?_ ?_); omega) | ((with_reducible refine step_f ?_ ?_); omega))
    refine step_c (j1) ?_
    try dsimp only
    exact k1
  · rw [show n / 10 / 10 = n / 100 by omega] at k2
    simp only [List.append_assoc] at k2
    exact k2
theorem ow_n {d : Nat} (h : 3 ≤ d) {σ0 σ : HP} {l : List Nat} (hO : OW σ0 σ l) (hl : l.length + 3 ≤ 2400) {n : Nat} (hn : n < 1000) : ∃ σ', clR PG0 MX d 284 [vR 101, vI n] σ = some (0, σ') ∧ OW σ0 σ' (l ++ dgs n) := by
  unfold dgs
  by_cases z1 : 100 ≤ n
  · rw [if_pos z1, if_pos (by omega)]
    exact ow_3 h hO (by omega) z1 hn
  · rw [if_neg z1, List.nil_append]
    by_cases z2 : 10 ≤ n
    · rw [if_pos z2]
      exact ow_2 (by omega) hO (by omega) z2 (by omega)
    · rw [if_neg z2, List.nil_append]
      exact ow_1 (by omega) hO (by omega) (by omega)
/-- says -/
theorem ow_tl {d : Nat} (h : 6 ≤ d) {σ0 : HP} (ht0 : Txt σ0) {i : Nat} {t : List Nat} (e : txC[i]? = some t) : ∀ (m k : Nat) (σ : HP) (l : List Nat), k + m = t.length → OW σ0 σ l → l.length + m ≤ 2400 → ∃ σ', rsP PG0 MX d 283 2 [vR 101, vR (2 + i), vI k] [] σ = some (0, σ') ∧ OW σ0 σ' (l ++ t.drop k) := by
  have ht10 : t.length ≤ 10 := by
    have : ∀ t ∈ txC, t.length ≤ 10 := by decide
    exact this t (List.mem_of_getElem? e)
  intro m
  induction m with
  | zero =>
    intro k σ l hk hO hr
    have ht := ow_txt hO ht0
    have hg := ht.get e
    have hy := hO.1.2
    have y1 := hy.1; have k101 := y101_m1 hy
    obtain ⟨t1, t2, t3⟩ := ht i t e
    refine ⟨σ, ?_, by rw [List.drop_eq_nil_of_le (by omega), List.append_nil]; exact hO⟩
    rw [sg_283_2]
    repeat (first | ((with_reducible refine step_t ?_ ?_); with_reducible exact True.intro) | ((with_reducible refine step_t ?_ ?_); omega) | ((with_reducible refine step_f ?_ ?_); omega))
    refine step_c (p_len (by omega) σ hg) ?_
    try dsimp only
    (try simp (disch := omega) only [t2, wr_id2])
    repeat (first | ((with_reducible refine step_t ?_ ?_); with_reducible exact True.intro) | ((with_reducible refine step_t ?_ ?_); omega) | ((with_reducible refine step_f ?_ ?_); omega))
    rfl
  | succ m ih =>
    intro k σ l hk hO hr
    have ht := ow_txt hO ht0
    have hg := ht.get e
    have hy := hO.1.2
    have y1 := hy.1; have k101 := y101_m1 hy; have p114 := y101_27 hy; have k114 := y114_m1 hy; have l114 := y114_m2 hy
    obtain ⟨t1, t2, t3⟩ := ht i t e
    obtain ⟨x, hx⟩ : ∃ x, t[k]? = some x := ⟨_, List.getElem?_eq_getElem (by omega)⟩
    have hx2 := tx_128 t (List.mem_of_getElem? e) x (List.mem_of_getElem? hx)
    have hv := t3 k x hx
    have m1 := hO.2.1
    have O1 := ow_up hO (by omega) (v := x) (by omega)
    have hy1 : Lay (up σ 114 (l.length : Nat) (x : Int)) := hy.upd okr_114 (by omega) (by omega)
    have y1b := hy1.1; have k101b := y101_m1 hy1
    have e3 := ow_at hO (by omega) (x : Int)
    obtain ⟨σ2, j1, j2⟩ := ih (k + 1) _ _ (by omega) O1 (by rw [List.length_append]; show l.length + 1 + m ≤ 2400; omega)
    have e2 : t.drop k = x :: t.drop (k + 1) := by
      rw [List.drop_eq_getElem_cons (by omega)]
      have := List.getElem?_eq_getElem (l := t) (i := k) (by omega)
      rw [hx] at this
      rw [Option.some.inj this]
    refine ⟨σ2, ?_, by rw [e2, List.append_cons]; exact j2⟩
    rw [sg_283_2]
    repeat (first | ((with_reducible refine step_t ?_ ?_); with_reducible exact True.intro) | ((with_reducible refine step_t ?_ ?_); omega) | ((with_reducible refine step_f ?_ ?_); omega))
    refine step_c (p_len (by omega) σ hg) ?_
    try dsimp only
    (try simp (disch := omega) only [t2, wr_id2])
    repeat (first | ((with_reducible refine step_t ?_ ?_); with_reducible exact True.intro) | ((with_reducible refine step_t ?_ ?_); omega) | ((with_reducible refine step_f ?_ ?_); omega))
    have hq := p_chr (d := d) (by omega) σ (a := 2 + i) (i := k) ⟨hg.1, hg.2.1, hg.2.2, by rw [wrn (by omega)]; omega, by rw [wrn (by omega), t2]; omega⟩
    rw [wrn (by omega), hv] at hq
    (try simp (disch := omega) only [m1, p114, wr_id2])
    repeat (first | ((with_reducible refine step_t ?_ ?_); with_reducible exact True.intro) | ((with_reducible refine step_t ?_ ?_); omega) | ((with_reducible refine step_f ?_ ?_); omega))
    refine step_c (hq) ?_
    try dsimp only
    (try simp (disch := omega) only [e3, wr_id2])
    repeat (first | ((with_reducible refine step_t ?_ ?_); with_reducible exact True.intro) | ((with_reducible refine step_t ?_ ?_); omega) | ((with_reducible refine step_f ?_ ?_); omega))
    rw [sg_283_34]
    exact j1
theorem ow_t {d : Nat} (h : 7 ≤ d) {σ0 σ : HP} (ht0 : Txt σ0) {i : Nat} {t : List Nat} (e : txC[i]? = some t) {l : List Nat} (hO : OW σ0 σ l) (hr : l.length + t.length ≤ 2400) : ∃ σ', clR PG0 MX d 283 [vR 101, vR (2 + i)] σ = some (0, σ') ∧ OW σ0 σ' (l ++ t) := by
  obtain ⟨d, rfl⟩ := ob1 (show 1 ≤ d by omega)
  obtain ⟨σ', k1, k2⟩ := ow_tl (d := d) (by omega) ht0 e t.length 0 σ l (by omega) hO hr
  refine ⟨σ', ?_, k2⟩
  rw [ce_283, sg_283_0]
  exact k1
