/-! CALLS AND ENDS -/
def rvK (w : WD) (rk : Nat) (r : Int) : Option Value := match rk with
  | 0 => none
  | 2 => some (cv w (vR r))
  | 3 => some (cv w (vL r))
  | _ => some (cv w (vI r))
theorem rvK_psh (w : WD) (rk : Nat) (r : Int) (t : List MV) : (rvK w rk r).toList ++ t.map (cv w) = (pshR rk r t).map (cv w) := by
  match rk with
  | 0 => rfl
  | 1 => rfl
  | 2 => rfl
  | 3 => rfl
  | n + 4 => rfl
def RetAt (q : MR) (pc : Nat) (st : List MV) (r : Int) : Prop :=
  (decode q.2.2.1 pc = .ok (.ireturn, 1) ∧ st = [vI r] ∧ (q.2.2.2.2.1 = some .int ∨ (q.2.2.2.2.1 = some .boolean ∧ (r = 0 ∨ r = 1)))) ∨
  (decode q.2.2.1 pc = .ok (.areturn, 1) ∧ st = [vR r] ∧ ∃ C, q.2.2.2.2.1 = some (.object C)) ∨
  (decode q.2.2.1 pc = .ok (.lreturn, 1) ∧ st = [vL r] ∧ q.2.2.2.2.1 = some .long) ∨
  (decode q.2.2.1 pc = .ok (.return_, 1) ∧ st = [] ∧ q.2.2.2.2.1 = none ∧ r = 0)
theorem chkE_use {q : MR} {pc : Nat} {i : Instr} {len r1 r2 r3 r4 : Nat} {sw : List (Int × Nat)} (h : chkE q (pc, i, len, r1, r2, r3, r4, sw) = true) : decode q.2.2.1 pc = .ok (i, len) ∧ chkI q pc (i, len, r1, r2, r3, r4, sw) = true := by
  unfold chkE at h
  rw [Bool.and_eq_true] at h
  exact ⟨of_decide_eq_true h.1, h.2⟩
set_option maxHeartbeats 4000000 in
theorem ret_at {q : MR} {pc : Nat} {e : EN} {ls st : List MV} {σ : HP} {g : Bool} {r : Int} (hE : chkE q (pc, e) = true) (ha : act0 pc e ls st σ = some (.inr (.inr (g, r)))) (hg : g = true) : RetAt q pc st r := by
  obtain ⟨i, len, r1, r2, r3, r4, sw⟩ := e
  obtain ⟨hd, hc⟩ := chkE_use hE
  cases i with
  | ireturn =>
    simp only [act0] at ha
    split at ha
    · cases ha
      simp only [chkI, Bool.and_eq_true] at hc
      have hl := Nat.eq_of_beq_eq_true hc.1
      subst hl
      have h2 := hc.2
      split at h2
      · exact Or.inl ⟨hd, rfl, Or.inl ‹_›⟩
      · have hr := Nat.eq_of_beq_eq_true h2
        subst hr
        exact Or.inl ⟨hd, rfl, Or.inr ⟨‹_›, of_decide_eq_true hg⟩⟩
      · cases h2
    · cases ha
  | areturn =>
    simp only [act0] at ha
    split at ha
    · cases ha
      simp only [chkI, Bool.and_eq_true] at hc
      have hl := Nat.eq_of_beq_eq_true hc.1
      subst hl
      have h2 := hc.2
      split at h2
      · exact Or.inr (Or.inl ⟨hd, rfl, _, ‹_›⟩)
      · cases h2
    · cases ha
  | lreturn =>
    simp only [act0] at ha
    split at ha
    · cases ha
      simp only [chkI, Bool.and_eq_true] at hc
      have hl := Nat.eq_of_beq_eq_true hc.1
      subst hl
      have h2 := hc.2
      split at h2
      · exact Or.inr (Or.inr (Or.inl ⟨hd, rfl, ‹_›⟩))
      · cases h2
    · cases ha
  | return_ =>
    simp only [act0] at ha
    split at ha
    · cases ha
      simp only [chkI, Bool.and_eq_true] at hc
      have hl := Nat.eq_of_beq_eq_true hc.1
      subst hl
      have h2 := hc.2
      split at h2
      · exact Or.inr (Or.inr (Or.inr ⟨hd, rfl, ‹_›, rfl⟩))
      · cases h2
    · cases ha
  | _ => exfalso; revert ha; simp only [act0, gA, gB]; (try split) <;> (try split) <;> (intro h; cases h)
theorem tkA_ok : ∀ (n : Nat) (st acc as t : List MV), tkA n st acc = some (as, t) → ∃ bs, as = bs ++ acc ∧ st = bs.reverse ++ t ∧ bs.length = n := by
  intro n
  induction n with
  | zero => intro st acc as t h; cases h; exact ⟨[], rfl, rfl, rfl⟩
  | succ n ih =>
    intro st acc as t h
    match st, h with
    | [], h => cases h
    | v :: st, h =>
      obtain ⟨bs, h1, h2, h3⟩ := ih st (v :: acc) as t h
      refine ⟨bs ++ [v], by rw [h1]; simp, by rw [h2]; simp, by simp [h3]⟩
theorem tkA_0 {n : Nat} {st as t : List MV} (h : tkA n st [] = some (as, t)) : st = as.reverse ++ t ∧ as.length = n := by
  obtain ⟨bs, h1, h2, h3⟩ := tkA_ok n st [] as t h
  rw [List.append_nil] at h1
  subst h1
  exact ⟨h2, h3⟩
/-- a call, by its kind -/
def CallAt (q : MR) (pc : Nat) (st : List MV) (σ : HP) (k : Nat) (as t : List MV) (rk : Nat) : Prop := wds t ≤ 8 ∧ ∃ x r4, (decode q.2.2.1 pc = .ok (.invokestatic x, 3) ∧ st = as.reverse ++ t ∧ MPr [q.1, x, 0, k, as.length, rk, r4]) ∨ (∃ a as', as = vR a :: as' ∧ 0 < a ∧ st = as'.reverse ++ vR a :: t ∧ ((decode q.2.2.1 pc = .ok (.invokespecial x, 3) ∧ MPr [q.1, x, 2, k, as'.length + 1, rk, r4]) ∨ (decode q.2.2.1 pc = .ok (.invokevirtual x, 3) ∧ MPr [q.1, x, 1, k, as'.length + 1, rk, r4] ∧ a < σ (-1) 0 ∧ σ a (-1) = r4)))
theorem mt_use {o x kd r1 r2 r3 r4 : Nat} {sw : List (Int × Nat)} (h : (match sw with
      | [(_, p)] => decide (mtL[p]? = some [o, x, kd, r1, r2, r3, r4])
      | _ => false) = true) : MPr [o, x, kd, r1, r2, r3, r4] := by
  split at h
  · exact mt_ok _ (List.mem_of_getElem? (of_decide_eq_true h))
  · cases h
set_option maxHeartbeats 4000000 in
theorem call_at {q : MR} {pc : Nat} {e : EN} {ls st : List MV} {σ : HP} {g : Bool} {k rk : Nat} {as t : List MV} (hE : chkE q (pc, e) = true) (ha : act0 pc e ls st σ = some (.inr (.inl (g, k, as, t, rk)))) (hg : g = true) : CallAt q pc st σ k as t rk := by
  obtain ⟨i, len, r1, r2, r3, r4, sw⟩ := e
  obtain ⟨hd, hc⟩ := chkE_use hE
  cases i with
  | invokestatic x =>
    simp only [act0] at ha
    split at ha
    · rename_i as t htk
      cases ha
      simp only [chkI, Bool.and_eq_true] at hc
      have hl := Nat.eq_of_beq_eq_true hc.1
      subst hl
      obtain ⟨h1, h2⟩ := tkA_0 htk
      have h3 := mt_use hc.2
      subst h2
      exact ⟨Nat.le_of_ble_eq_true hg, x, r4, Or.inl ⟨hd, h1, h3⟩⟩
    · cases ha
  | invokespecial x =>
    simp only [act0] at ha
    split at ha
    · rename_i a as t htk
      cases ha
      simp only [chkI, Bool.and_eq_true] at hc hg
      have hl := Nat.eq_of_beq_eq_true hc.1
      subst hl
      obtain ⟨h1, h2⟩ := tkA_0 htk
      have h3 := mt_use hc.2
      subst h2
      refine ⟨Nat.le_of_ble_eq_true hg.1, x, r4, Or.inr ⟨a, as, rfl, of_decide_eq_true hg.2, ?_, Or.inl ⟨hd, h3⟩⟩⟩
      rw [h1]
      simp
    · cases ha
  | invokevirtual x =>
    simp only [act0] at ha
    split at ha
    · rename_i a as t htk
      cases ha
      simp only [chkI, Bool.and_eq_true] at hc hg
      have hl := Nat.eq_of_beq_eq_true hc.1
      subst hl
      obtain ⟨h1, h2⟩ := tkA_0 htk
      have h3 := mt_use hc.2
      subst h2
      have h4 := of_decide_eq_true hg.2
      refine ⟨Nat.le_of_ble_eq_true hg.1, x, r4, Or.inr ⟨a, as, rfl, h4.1, ?_, Or.inr ⟨hd, h3, h4.2.1, h4.2.2⟩⟩⟩
      rw [h1]
      simp
    · cases ha
  | _ => exfalso; revert ha; simp only [act0, gA, gB]; (try split) <;> (try split) <;> (intro h; cases h)
/-! a method's entry -/
theorem cv_cat2 (w : WD) (x : Int) : (cv w (vL x)).category = 2 := rfl
theorem cv_cat1 (w : WD) {v : MV} (h : ∀ x, v ≠ vL x) : ¬ (cv w v).category = 2 := fun z => by
  obtain ⟨x, hx⟩ := cv_cat z
  exact h x hx
theorem sl_len (w : WD) : ∀ as : List MV, (lg_sl (as.map (cv w))).length = (exA as).length := by
  intro as
  induction as with
  | nil => rfl
  | cons v l ih =>
    have e : lg_sl ((v :: l).map (cv w)) = (if (cv w v).category = 2 then [Slot.val (cv w v), .second] else [.val (cv w v)]) ++ lg_sl (l.map (cv w)) := rfl
    rw [e]
    match v with
    | .inr (.inr (.inl x)) =>
      rw [if_pos (cv_cat2 w x)]
      show (_ :: _ :: lg_sl (l.map (cv w))).length = (vL x :: vU :: exA l).length
      simp [ih]
    | .inl x =>
      rw [if_neg (cv_cat1 w (fun y h => by cases h))]
      show (_ :: lg_sl (l.map (cv w))).length = (vI x :: exA l).length
      simp [ih]
    | .inr (.inl x) =>
      rw [if_neg (cv_cat1 w (fun y h => by cases h))]
      show (_ :: lg_sl (l.map (cv w))).length = (vR x :: exA l).length
      simp [ih]
    | .inr (.inr (.inr u)) =>
      rw [if_neg (cv_cat1 w (fun y h => by cases h))]
      show (_ :: lg_sl (l.map (cv w))).length = (_ :: exA l).length
      simp [ih]
theorem al_U (w : WD) : ∀ (m off : Nat), al w off (List.replicate m vU) = [] := by
  intro m
  induction m with
  | zero => intro off; rfl
  | succ m ih => intro off; exact ih (off + 1)
theorem al_args (w : WD) (m : Nat) : ∀ (as : List MV) (off : Nat) (q : Nat × Value), q ∈ al w off (exA as ++ List.replicate m vU) → q ∈ lv_args off (as.map (cv w)) := by
  intro as
  induction as with
  | nil => intro off q h; rw [show exA [] ++ List.replicate m vU = List.replicate m vU from rfl, al_U] at h; cases h
  | cons v l ih =>
    intro off q h
    show q ∈ (off, cv w v) :: lv_args (if (cv w v).category = 2 then off + 2 else off + 1) (l.map (cv w))
    match v with
    | .inr (.inr (.inl x)) =>
      rw [if_pos (cv_cat2 w x)]
      have h : q ∈ (off, cv w (vL x)) :: al w (off + 1 + 1) (exA l ++ List.replicate m vU) := h
      rcases List.mem_cons.mp h with e | e
      · rw [e]; exact List.mem_cons_self
      · exact List.mem_cons_of_mem _ (ih _ _ e)
    | .inl x =>
      rw [if_neg (cv_cat1 w (fun y h => by cases h))]
      have h : q ∈ (off, cv w (vI x)) :: al w (off + 1) (exA l ++ List.replicate m vU) := h
      rcases List.mem_cons.mp h with e | e
      · rw [e]; exact List.mem_cons_self
      · exact List.mem_cons_of_mem _ (ih _ _ e)
    | .inr (.inl x) =>
      rw [if_neg (cv_cat1 w (fun y h => by cases h))]
      have h : q ∈ (off, cv w (vR x)) :: al w (off + 1) (exA l ++ List.replicate m vU) := h
      rcases List.mem_cons.mp h with e | e
      · rw [e]; exact List.mem_cons_self
      · exact List.mem_cons_of_mem _ (ih _ _ e)
    | .inr (.inr (.inr ())) =>
      rw [if_neg (cv_cat1 w (fun y h => by cases h))]
      have h : q ∈ al w (off + 1) (exA l ++ List.replicate m vU) := h
      exact List.mem_cons_of_mem _ (ih _ _ h)
theorem entry_LR (w : WD) (as : List MV) (n : Nat) (h : (exA as).length ≤ n) : LR w n (padA n as) ((lg_sl (as.map (cv w)) ++ List.replicate (n - (lg_sl (as.map (cv w))).length) Slot.unset).toArray) := by
  have h1 := lv_entry (as.map (cv w)) (n := n) (by rw [sl_len]; exact h)
  refine ⟨?_, h1.1, h1.2.1, fun q hq => h1.2.2 q (al_args w _ as 0 q hq)⟩
  unfold padA
  simp
  omega
