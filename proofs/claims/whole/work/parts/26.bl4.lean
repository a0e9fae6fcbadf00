theorem cp_in {σ : HP} {a i b j n k : Int} (h : j ≤ k ∧ k < j + n) : cpH σ a i b j n b k = σ a (i + (k - j)) := by
  show (if b = b ∧ j ≤ k ∧ k < j + n then _ else _) = _
  rw [if_pos ⟨rfl, h⟩]
theorem cp_o1 {σ : HP} {a i b j n c k : Int} (h : c ≠ b) : cpH σ a i b j n c k = σ c k := by
  show (if c = b ∧ j ≤ k ∧ k < j + n then _ else _) = _
  rw [if_neg (fun z => h z.1)]
theorem cp_o2 {σ : HP} {a i b j n c k : Int} (h : k < j) : cpH σ a i b j n c k = σ c k := by
  show (if c = b ∧ j ≤ k ∧ k < j + n then _ else _) = _
  rw [if_neg (fun z => by omega)]
/-- copyFrom -/
theorem s35 {d : Nat} (h : 7 ≤ d) {σ : HP} {b c : Int} {L : LB} (hb : blm σ b) (hc : blr σ c L) (hw : wf0 L) (hbc : c + 2 < b ∨ b + 2 < c) (hx : σ c 2 = 0 ∨ σ c 2 = 1) : ∃ σ', clR PG0 MX d 35 [vR b, vR c] σ = some (0, σ') ∧ ag3 σ σ' b ∧ blr σ' b L ∧ σ' b 2 = σ c 2 := by
  obtain ⟨d, rfl⟩ := ob1 (show 1 ≤ d by omega)
  have hl := wf_len hw
  obtain ⟨n1, n2, n3, n4, n5, n6, n7, n8, n9⟩ := hb
  obtain ⟨⟨m1, m2, m3, m4, m5, m6, m7, m8, m9⟩, f3, f4, f5, f6, fs, fw⟩ := id hc
  obtain ⟨τ, hτ⟩ : ∃ τ : HP, τ = up (up (up (up (up σ b 2 (σ c 2)) b 3 (lN0 L : Nat)) b 4 (lA L : Nat)) b 5 (lB L : Nat)) b 6 ((lT L).length : Nat) := ⟨_, rfl⟩
  have t0 : ∀ a j, a ≠ b → τ a j = σ a j := fun a j ha => by rw [hτ]; simp (disch := omega) only [up_n1]
  have t1 : ∀ j, j < 2 → τ b j = σ b j := fun j hj => by rw [hτ]; simp (disch := omega) only [up_n2]
  have tx : τ b 2 = σ c 2 := by rw [hτ]; simp (disch := omega) only [up_s, up_n2]
  have t3 : τ b 3 = (lN0 L : Nat) := by rw [hτ]; simp (disch := omega) only [up_s, up_n2]
  have t4 : τ b 4 = (lA L : Nat) := by rw [hτ]; simp (disch := omega) only [up_s, up_n2]
  have t5 : τ b 5 = (lB L : Nat) := by rw [hτ]; simp (disch := omega) only [up_s, up_n2]
  have t6 : τ b 6 = ((lT L).length : Nat) := by rw [hτ]; simp (disch := omega) only [up_s]
  have ew : wr ((((lT L).length : Nat) : Int) + 1) = (((lT L).length : Nat) : Int) + 1 := wr_id (by omega) (by omega)
  have g1 : ∀ j, τ (-1) j = σ (-1) j := fun j => t0 _ _ (by omega)
  have g2 : ∀ j, τ c j = σ c j := fun j => t0 _ _ (by omega)
  have g3 : ∀ j, τ (c + 1) j = σ (c + 1) j := fun j => t0 _ _ (by omega)
  have g4 : ∀ j, τ (c + 2) j = σ (c + 2) j := fun j => t0 _ _ (by omega)
  have g5 : ∀ j, τ (b + 1) j = σ (b + 1) j := fun j => t0 _ _ (by omega)
  have g6 : ∀ j, τ (b + 2) j = σ (b + 2) j := fun j => t0 _ _ (by omega)
  have gb : τ b (-1) = σ b (-1) := t1 _ (by omega)
  have gb0 : τ b 0 = σ b 0 := t1 _ (by omega)
  have gb1 : τ b 1 = σ b 1 := t1 _ (by omega)
  refine ⟨cpH (cpH τ (c + 1) 0 (b + 1) 0 ((lT L).length : Nat)) (c + 2) 0 (b + 2) 0 (((lT L).length : Nat) + 1), ?_, ?_, ?_, ?_⟩
  · rw [ce_35, sg_35_0]
    refine step_t (by omega) ?_
    rw [decide_eq_true hx, decide_eq_true (show 32 ≤ b ∧ b < σ (-1) 0 ∧ σ b (-1) = 0 by omega)]
    show cnd _ _ _ = _
    simp (disch := omega) only [up_n1, up_n2]
    repeat (refine step_t (by omega) ?_)
    rw [sg_35_24]
    simp (disch := omega) only [up_s, up_n1, up_n2]
    repeat (refine step_t (by omega) ?_)
    simp only [f3, f4, f5, f6, m4, n4, ← hτ]
    have hp := p_copy (d := d) (by omega) τ (a := c + 1) (i := 0) (b := b + 1) (j := 0) (n := ((lT L).length : Nat)) (by rw [wr_0, wr_len hw, g1, g3, g5, g3, g5]; omega)
    rw [wr_0, wr_len hw] at hp
    refine step_c hp ?_
    try dsimp only
    simp (disch := omega) only [cp_o1, g1, g2, gb, gb1, m5, n5, f6]
    repeat (refine step_t (by omega) ?_)
    have hp2 := p_copy (d := d) (by omega) (cpH τ (c + 1) 0 (b + 1) 0 ((lT L).length : Nat)) (a := c + 2) (i := 0) (b := b + 2) (j := 0) (n := ((lT L).length : Nat) + 1) (by rw [wr_0, ew]; simp (disch := omega) only [cp_o1, g1, g4, g6]; omega)
    rw [wr_0, ew] at hp2
    refine step_c hp2 ?_
    rfl
  · intro a j ha
    rw [cp_o1 (by omega), cp_o1 (by omega)]
    exact t0 _ _ (by omega)
  · unfold blr blm
    simp (disch := omega) only [cp_o1, cp_o2, g1, g3, g4, g5, g6, gb, gb0, gb1, t3, t4, t5, t6]
    refine ⟨⟨n1, n2, n3, n4, n5, n6, n7, n8, n9⟩, trivial, trivial, trivial, trivial, fun i y hy => ?_, fun i hi => ?_⟩
    · have hlt := (List.getElem?_eq_some_iff.mp hy).1
      rw [cp_in (by omega), g3, show (0 : Int) + ((i : Int) - 0) = (i : Int) by omega]
      exact fs i y hy
    · rw [cp_in (by omega), cp_o1 (by omega), g4, show (0 : Int) + ((i : Int) - 0) = (i : Int) by omega]
      exact fw i hi
  · rw [cp_o1 (by omega), cp_o1 (by omega)]
    exact tx
