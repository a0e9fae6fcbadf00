/-! EVENEST: the class, rows of numbers -/
theorem wl_n {n : Nat} (h : n < 9223372036854775808) : wl (n : Int) = n := bv_64 (lu_n (by omega)) h
theorem l_shl1 : ∀ i : Nat, i < 16 → l_shl 1 (i : Int) = ((2 ^ i : Nat) : Int) := by decide +kernel
theorem l_or_n {a b : Nat} (ha : a < 9223372036854775808) (hb : b < 9223372036854775808) : l_or (a : Int) (b : Int) = ((a ||| b : Nat) : Int) := by
  unfold l_or
  refine bv_64 ?_ (Nat.or_lt_two_pow (n := 63) ha hb)
  show ((Int64.ofInt (a : Int)).toBitVec ||| (Int64.ofInt (b : Int)).toBitVec).toNat = _
  rw [BitVec.toNat_or]
  show lu (a : Int) ||| lu (b : Int) = _
  rw [lu_n (by omega), lu_n (by omega)]
theorem or_add {a i : Nat} (h : a < 2 ^ i) : a ||| 2 ^ i = a + 2 ^ i := by
  have e := Nat.two_pow_add_eq_or_of_lt h 1
  rw [Nat.mul_one] at e
  rw [Nat.or_comm, ← e, Nat.add_comm]
abbrev rwR (σ : HP) (a : Int) (f : Nat → Nat) : Prop := ∀ x : Nat, x < 8 → σ a x = (f x : Nat)
theorem rw_up {σ : HP} {a : Int} {f : Nat → Nat} (h : rwR σ a f) (y v : Nat) : rwR (up σ a y v) a (ufN f y v) := fun x hx => by
  show up σ a y v a x = ((if x = y then v else f x : Nat) : Int)
  by_cases z : x = y
  · rw [if_pos z, z, up_s]
  · rw [if_neg z, up_n2 _ _ _ _ (by omega)]; exact h x hx
theorem rw_ne {σ : HP} {a : Int} {f : Nat → Nat} (h : rwR σ a f) {b j v : Int} (hb : a ≠ b) : rwR (up σ b j v) a f := fun x hx => by rw [up_n1 _ _ _ _ hb]; exact h x hx
theorem rw_sm {σ σ' : HP} {a : Int} {f : Nat → Nat} (h : rwR σ a f) (e : ∀ j, σ' a j = σ a j) : rwR σ' a f := fun x hx => by rw [e]; exact h x hx
theorem okr_98 : layT.all (fun t => !(decide (t.1 = 98) && decide (0 ≤ t.2.1))) = true := by decide +kernel
theorem okr_99 : layT.all (fun t => !(decide (t.1 = 99) && decide (0 ≤ t.2.1))) = true := by decide +kernel
theorem okr_100 : layT.all (fun t => !(decide (t.1 = 100) && decide (0 ≤ t.2.1))) = true := by decide +kernel
theorem okf_973 : layT.all (fun t => !(decide (t.1 = 97) && decide (t.2.1 = 3))) = true := by decide +kernel
theorem okf_974 : layT.all (fun t => !(decide (t.1 = 97) && decide (t.2.1 = 4))) = true := by decide +kernel
/-- countTold -/
theorem s130l {d : Nat} {σ0 : HP} {b : Int} {L : LB} (hb0 : blr σ0 b L) (hb43 : b + 2 < 43) (hw : wf0 L) : ∀ (m i : Nat) (σ : HP), i + m + 1 = (lT L).length → FS σ0 σ → rwR σ 98 (cnB (slc L 0 i)) → rwR σ 99 (fun _ => 0) → ∃ σ', rsP PG0 MX d 130 18 [vR 97, vR b, vI i] [] σ = some (0, σ') ∧ FS σ0 σ' ∧ rwR σ' 98 (tlF L) ∧ rwR σ' 99 (fun _ => 0) := by
  have hl := wf_len hw
  intro m
  induction m with
  | zero =>
    intro i σ hi hF h1 h2
    have hb := hF.blr hb0 (by omega) (by omega)
    obtain ⟨⟨m1, m2, m3, m4, m5, m6, m7, m8, m9⟩, f3, f4, f5, f6, fs, fw⟩ := id hb
    have ei : i = (lT L).length - 1 := by omega
    rw [ei] at h1
    refine ⟨σ, ?_, hF, h1, h2⟩
    rw [sg_130_18]
    (try simp (disch := omega) only [f6, wr_id2])
    repeat (first | ((with_reducible refine step_t ?_ ?_); with_reducible exact True.intro) | ((with_reducible refine step_t ?_ ?_); omega) | ((with_reducible refine step_f ?_ ?_); omega))
    rfl
  | succ m ih =>
    intro i σ hi hF h1 h2
    have hy := hF.2
    have y1 := hy.1
    have a1 := y97_m1 hy
    have a2 := y97_0 hy
    have a3 := y98_m1 hy
    have a4 := y98_m2 hy
    have hb := hF.blr hb0 (by omega) (by omega)
    obtain ⟨⟨m1, m2, m3, m4, m5, m6, m7, m8, m9⟩, f3, f4, f5, f6, fs, fw⟩ := id hb
    have e := sgN_e (L := L) (i := i) (by omega)
    have hlt := hw.2.2.2.2.2 _ (List.mem_of_getElem? e)
    have h9 := hw.1
    have g1 := fs i _ e
    have g2 := h1 (sgN L i) (by omega)
    have es : slc L 0 (i + 1) = slc L 0 i ++ [sgN L i] := slc_snoc (by rw [Nat.zero_add]; exact e)
    obtain ⟨σ', k1, k2⟩ := ih (i + 1) (up σ 98 (sgN L i : Nat) ((cnB (slc L 0 i) (sgN L i) + 1 : Nat) : Int)) (by omega) (hF.upd (by omega) okr_98 (by omega)) (fun x hx => by
      rw [rw_up h1 _ _ x hx, es, cnB_app, cnB_one]
      show ((if x = sgN L i then _ else cnB (slc L 0 i) x : Nat) : Int) = _
      by_cases z : x = sgN L i
      · rw [if_pos z, if_pos z.symm, z]
      · rw [if_neg z, if_neg (fun w => z w.symm)]; omega) (rw_ne h2 (by omega))
    refine ⟨σ', ?_, k2⟩
    rw [sg_130_18]
    (try simp (disch := omega) only [f6, m4, a2, g1, g2, wr_id2])
    repeat (first | ((with_reducible refine step_t ?_ ?_); with_reducible exact True.intro) | ((with_reducible refine step_t ?_ ?_); omega) | ((with_reducible refine step_f ?_ ?_); omega))
    exact k1
theorem s130 {d : Nat} (h : 2 ≤ d) {σ : HP} {b : Int} {L : LB} (hy : Lay σ) (hb : blr σ b L) (hb43 : b + 2 < 43) (hw : wf0 L) (hl1 : 1 ≤ (lT L).length) : ∃ σ', clR PG0 MX d 130 [vR 97, vR b] σ = some (0, σ') ∧ FS σ σ' ∧ rwR σ' 98 (tlF L) ∧ rwR σ' 99 (fun _ => 0) := by
  obtain ⟨d, rfl⟩ := ob1 (show 1 ≤ d by omega)
  have y1 := hy.1
  have a1 := y97_m1 hy
  have a2 := y97_0 hy
  obtain ⟨σ1, i1, i2, i3, i4⟩ := s46 (d := d) (by omega) (σ := σ) (a := 98) (n := 8) 0 (by omega) (by omega) (by omega) (y98_m1 hy) (y98_m2 hy)
  have hy1 : Lay σ1 := hy.row okr_98 (by omega) i2 i3
  have b1 := hy1.1
  have b2 := y97_m1 hy1
  have b3 := y97_1 hy1
  obtain ⟨σ2, j1, j2, j3, j4⟩ := s46 (d := d) (by omega) (σ := σ1) (a := 99) (n := 8) 0 (by omega) (by omega) (by omega) (y99_m1 hy1) (y99_m2 hy1)
  have hy2 : Lay σ2 := hy1.row okr_99 (by omega) j2 j3
  have hF2 : FS σ σ2 := ⟨fun a j q r => by rw [j2 _ _ (by omega), i2 _ _ (by omega)], hy2⟩
  obtain ⟨σ3, k1, k2⟩ := s130l (d := d) hb hb43 hw ((lT L).length - 1) 0 σ2 (by omega) hF2 (fun x hx => by rw [j2 _ _ (by omega), i4 x hx, slc_0]; rfl) (fun x hx => by rw [j4 x hx]; rfl)
  refine ⟨σ3, ?_, k2⟩
  rw [ce_130, sg_130_0]
  (try simp (disch := omega) only [a2, wr_id2])
  repeat (first | ((with_reducible refine step_t ?_ ?_); with_reducible exact True.intro) | ((with_reducible refine step_t ?_ ?_); omega) | ((with_reducible refine step_f ?_ ?_); omega))
  refine step_c (i1) ?_
  try dsimp only
  (try simp (disch := omega) only [b3, wr_id2])
  repeat (first | ((with_reducible refine step_t ?_ ?_); with_reducible exact True.intro) | ((with_reducible refine step_t ?_ ?_); omega) | ((with_reducible refine step_f ?_ ?_); omega))
  refine step_c (j1) ?_
  try dsimp only
  exact k1
/-- firstCuts -/
theorem s132l {d : Nat} {σ0 : HP} {b : Int} {L : LB} (hb0 : blr σ0 b L) (hb43 : b + 2 < 43) (hw : wf0 L) (h16 : (lT L).length ≤ 16) : ∀ (m i a : Nat) (r : Nat → Nat) (σ : HP) (u3 u5 : MV), i + m + 1 = (lT L).length → a < 2 ^ i → (∀ x, r x ≤ 255) → FS σ0 σ → rwR σ 100 r → ∃ σ', rsP PG0 MX d 132 20 [vR 97, vR b, vL a, u3, vI i, u5] [] σ = some (((a + 2 ^ i * fcF L m i r : Nat) : Int), σ') ∧ FS σ0 σ' ∧ ∀ p j, p ≠ 100 → σ' p j = σ p j := by
  have hl := wf_len hw
  intro m
  induction m with
  | zero =>
    intro i a r σ u3 u5 hi ha hr hF h1
    have hb := hF.blr hb0 (by omega) (by omega)
    obtain ⟨⟨m1, m2, m3, m4, m5, m6, m7, m8, m9⟩, f3, f4, f5, f6, fs, fw⟩ := id hb
    refine ⟨σ, ?_, hF, fun _ _ _ => rfl⟩
    show _ = some (((a + 2 ^ i * 0 : Nat) : Int), σ)
    rw [Nat.mul_zero, Nat.add_zero, sg_132_20]
    (try simp (disch := omega) only [f6, wr_id2])
    repeat (first | ((with_reducible refine step_t ?_ ?_); with_reducible exact True.intro) | ((with_reducible refine step_t ?_ ?_); omega) | ((with_reducible refine step_f ?_ ?_); omega))
    rfl
  | succ m ih =>
    intro i a r σ u3 u5 hi ha hr hF h1
    have hy := hF.2
    have y1 := hy.1
    have a1 := y97_m1 hy
    have a2 := y97_2 hy
    have a3 := y100_m1 hy
    have a4 := y100_m2 hy
    have hb := hF.blr hb0 (by omega) (by omega)
    obtain ⟨⟨m1, m2, m3, m4, m5, m6, m7, m8, m9⟩, f3, f4, f5, f6, fs, fw⟩ := id hb
    have e := sgN_e (L := L) (i := i) (by omega)
    have hlt := hw.2.2.2.2.2 _ (List.mem_of_getElem? e)
    have h9 := hw.1
    have g1 := fs i _ e
    have g2 := h1 (sgN L i) (by omega)
    have g3 := hr (sgN L i)
    have ps : 2 ^ (i + 1) = 2 * 2 ^ i := by rw [Nat.pow_succ]; omega
    have ef : fcF L (m + 1) i r = if r (sgN L i) = 0 then 2 * fcF L m (i + 1) r else 1 + 2 * fcF L m (i + 1) (dcF r (sgN L i)) := rfl
    by_cases z : r (sgN L i) = 0
    · rw [if_pos z] at ef
      obtain ⟨σ', k1, k2⟩ := ih (i + 1) a r σ vU vU (by omega) (by omega) hr hF h1
      rw [show a + 2 ^ (i + 1) * fcF L m (i + 1) r = a + 2 ^ i * fcF L (m + 1) i r by rw [ef, Nat.pow_succ, Nat.mul_assoc]] at k1
      refine ⟨σ', ?_, k2⟩
      rw [z] at g2
      rw [sg_132_20]
      (try simp (disch := omega) only [f6, m4, a2, g1, g2, wr_id2])
      repeat (first | ((with_reducible refine step_t ?_ ?_); with_reducible exact True.intro) | ((with_reducible refine step_t ?_ ?_); omega) | ((with_reducible refine step_f ?_ ?_); omega))
      exact k1
    · rw [if_neg z] at ef
      have p15 := pow15 (n := i) (by omega)
      have eo : l_or (a : Int) (l_shl 1 (i : Int)) = ((a + 2 ^ i : Nat) : Int) := by
        rw [l_shl1 i (by omega), l_or_n (by omega) (by omega), or_add ha]
      obtain ⟨σ', k1, k2, k3⟩ := ih (i + 1) (a + 2 ^ i) (dcF r (sgN L i)) (up σ 100 (sgN L i : Nat) ((r (sgN L i) - 1 : Nat) : Int)) vU vU (by omega) (by omega) (fun x => by
        show (if x = sgN L i then r x - 1 else r x) ≤ 255
        have := hr x
        by_cases w : x = sgN L i
        · rw [if_pos w]; omega
        · rw [if_neg w]; omega) (hF.upd (by omega) okr_100 (by omega)) (fun x hx => by
        rw [rw_up h1 _ _ x hx]
        show ((if x = sgN L i then _ else r x : Nat) : Int) = ((if x = sgN L i then r x - 1 else r x : Nat) : Int)
        by_cases w : x = sgN L i
        · rw [if_pos w, if_pos w, w]
        · rw [if_neg w, if_neg w])
      rw [show a + 2 ^ i + 2 ^ (i + 1) * fcF L m (i + 1) (dcF r (sgN L i)) = a + 2 ^ i * fcF L (m + 1) i r by rw [ef, Nat.pow_succ, Nat.mul_add, Nat.mul_one, Nat.mul_assoc, Nat.add_assoc]] at k1
      refine ⟨σ', ?_, k2, fun p j q => by rw [k3 p j q, up_n1 _ _ _ _ q]⟩
      rw [show ((r (sgN L i) - 1 : Nat) : Int) = (r (sgN L i) : Int) - 1 by omega] at k1
      rw [sg_132_20]
      (try simp (disch := omega) only [f6, m4, a2, g1, g2, wr_id2])
      repeat (first | ((with_reducible refine step_t ?_ ?_); with_reducible exact True.intro) | ((with_reducible refine step_t ?_ ?_); omega) | ((with_reducible refine step_f ?_ ?_); omega))
      rw [eo]
      exact k1
theorem s132 {d : Nat} (h : 8 ≤ d) {σ0 σ : HP} {b : Int} {L : LB} (hb0 : blr σ0 b L) (hb43 : b + 2 < 43) (hw : wf0 L) (h1 : 1 ≤ (lT L).length) (h16 : (lT L).length ≤ 16) {k : Nat → Nat} (hF : FS σ0 σ) (hk : rwR σ 99 k) (hk2 : ∀ x, k x ≤ 255) : ∃ σ', clR PG0 MX d 132 [vR 97, vR b] σ = some (((fcL L k : Nat) : Int), σ') ∧ FS σ0 σ' ∧ ∀ p j, p ≠ 100 → σ' p j = σ p j := by
  obtain ⟨d, rfl⟩ := ob1 (show 1 ≤ d by omega)
  have hy := hF.2
  have y1 := hy.1
  have a1 := y97_m1 hy
  have a2 := y97_1 hy
  have a3 := y97_2 hy
  have e3 := y99_m1 hy
  have e4 := y99_m2 hy
  have e5 := y100_m1 hy
  have e6 := y100_m2 hy
  have ec : clR PG0 MX d 1002 [vR 99, vI 0, vR 100, vI 0, vI 8] σ = some (0, cpH σ 99 0 100 0 8) := by
    have q := p_copy (d := d) (by omega) σ (a := 99) (i := 0) (b := 100) (j := 0) (n := 8) (by rw [wr_0, wr_id2 (x := 8) (by omega)]; omega)
    rw [wr_0, wr_id2 (x := 8) (by omega)] at q
    exact q
  have hF1 : FS σ0 (cpH σ 99 0 100 0 8) := ⟨fun p j q r => by
    show (if p = 100 ∧ 0 ≤ j ∧ j < 0 + 8 then _ else σ p j) = _
    rw [if_neg (by omega)]
    exact hF.1 p j q r, hy.row okr_100 (by omega) (n := 8) (fun p j q => by
      show (if p = 100 ∧ 0 ≤ j ∧ j < 0 + 8 then _ else σ p j) = _
      rw [if_neg (fun w => q w.1)]) (fun j q => by
      show (if (100 : Int) = 100 ∧ 0 ≤ j ∧ j < 0 + 8 then _ else σ 100 j) = _
      rw [if_neg (by omega)])⟩
  obtain ⟨σ1, k1, k2, k3⟩ := s132l (d := d) hb0 hb43 hw h16 ((lT L).length - 1) 0 0 k (cpH σ 99 0 100 0 8) vU vU (by omega) (by decide) hk2 hF1 (fun x hx => by
    show (if (100 : Int) = 100 ∧ 0 ≤ (x : Int) ∧ (x : Int) < 0 + 8 then σ 99 (0 + ((x : Int) - 0)) else _) = _
    rw [if_pos (by omega), show (0 : Int) + ((x : Int) - 0) = x by omega]
    exact hk x hx)
  rw [Nat.pow_zero, Nat.one_mul, Nat.zero_add] at k1
  refine ⟨σ1, ?_, k2, fun p j q => by
    rw [k3 p j q]
    show (if p = 100 ∧ 0 ≤ j ∧ j < 0 + 8 then _ else σ p j) = _
    rw [if_neg (fun w => q w.1)]⟩
  rw [ce_132, sg_132_0]
  (try simp (disch := omega) only [a2, a3, wr_id2])
  repeat (first | ((with_reducible refine step_t ?_ ?_); with_reducible exact True.intro) | ((with_reducible refine step_t ?_ ?_); omega) | ((with_reducible refine step_f ?_ ?_); omega))
  refine step_c (ec) ?_
  try dsimp only
  exact k1
