/-! EXTEND: how long a whole loop is -/
theorem lp_len {L : LB} (h : lpB L = true) : 1 ≤ (lT L).length ∧ shN L = (lT L).length := by
  unfold shN
  rw [h]
  unfold lpB at h
  rw [Bool.and_eq_true] at h
  exact ⟨of_decide_eq_true h.1, rfl⟩
theorem cw_two {L : LB} {i j : Nat} (hij : i < j) (hj : j < shN L) (e : wd L i = wd L j) : 2 ≤ cW L (wd L j) :=
  (cntB_two (p := fun k => decide (wd L k = wd L j)) (shN L)).mp ⟨i, j, hij, hj, decide_eq_true e, decide_eq_true rfl⟩
theorem one_len {L : LB} (hw : wf0 L) (h : ∀ w, w < 2 ^ lN0 L → cW L w ≤ 1) : shN L ≤ 2 ^ lN0 L := by
  have k := cnt_inj (p := fun _ => true) (2 ^ lN0 L) (shN L) (fun i => wd L i) (fun i _ => ⟨wd_lt hw i, rfl⟩) (fun i j hi hj q => by
    have a := cw_two hi hj q
    have b := h (wd L j) (wd_lt hw j)
    omega)
  exact Nat.le_trans k (cntB_le _ _)
