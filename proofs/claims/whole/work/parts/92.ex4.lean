/-! EXTEND: what it makes -/
def exP (L : LB) (c : Int) : Nat → Nat → Nat → Nat → Nat → List Nat
  | 0, _, _, _, _ => []
  | m + 1, i, f, a, b => if i + 1 = (lT L).length ∨ ctB c i = true then slc L f (i - f) ++ [a] ++ (slc L f (i - f)).reverse ++ [b] ++ slc L f (i - f) ++ (if i + 1 = (lT L).length then [] else slc L i 1) ++ exP L c m (i + 1) (i + 1) b a else exP L c m (i + 1) f a b
def exL (L : LB) (c : Int) : List Nat := exP L c (lT L).length 0 0 (lN0 L) (lN0 L + 1) ++ [lN0 L] ++ (slc L 0 ((lT L).length - 1)).reverse ++ [lN0 L + 1]
theorem slc_l {L : LB} {f i : Nat} (h1 : f ≤ i) (h2 : i ≤ (lT L).length) : (slc L f (i - f)).length = i - f := by
  unfold slc
  rw [List.length_take, List.length_drop]
  omega
theorem exP_len {L : LB} {c : Int} : ∀ (m i f a b : Nat), i + m + 1 = (lT L).length → f ≤ i → (exP L c (m + 1) i f a b).length + 1 = 3 * ((lT L).length - f) := by
  intro m
  induction m with
  | zero =>
    intro i f a b hi hf
    show (if i + 1 = (lT L).length ∨ ctB c i = true then _ else _ : List Nat).length + 1 = _
    rw [if_pos (Or.inl (by omega)), if_pos (show i + 1 = (lT L).length by omega)]
    show (slc L f (i - f) ++ [a] ++ (slc L f (i - f)).reverse ++ [b] ++ slc L f (i - f) ++ [] ++ []).length + 1 = _
    simp only [List.length_append, List.length_reverse, List.length_cons, List.length_nil, slc_l hf (show i ≤ (lT L).length by omega)]
    omega
  | succ m ih =>
    intro i f a b hi hf
    show (if i + 1 = (lT L).length ∨ ctB c i = true then _ else _ : List Nat).length + 1 = _
    by_cases z : i + 1 = (lT L).length ∨ ctB c i = true
    · rw [if_pos z, if_neg (show ¬ i + 1 = (lT L).length by omega)]
      have e := ih (i + 1) (i + 1) b a (by omega) (Nat.le_refl _)
      have e1 : (slc L i 1).length = 1 := by rw [slc_1 (by omega), if_pos (by omega)]
      simp only [List.length_append, List.length_reverse, List.length_cons, List.length_nil, slc_l hf (show i ≤ (lT L).length by omega), e1]
      omega
    · rw [if_neg z]
      exact ih (i + 1) f a b (by omega) (by omega)
theorem exL_len {L : LB} {c : Int} (h : 1 ≤ (lT L).length) : (exL L c).length = 4 * (lT L).length := by
  unfold exL
  obtain ⟨m, hm⟩ : ∃ m, (lT L).length = m + 1 := ⟨(lT L).length - 1, by omega⟩
  have e := exP_len (L := L) (c := c) m 0 0 (lN0 L) (lN0 L + 1) (by omega) (Nat.le_refl _)
  rw [← hm] at e
  have e2 := slc_l (L := L) (f := 0) (i := (lT L).length - 1) (Nat.zero_le _) (by omega)
  rw [Nat.sub_zero] at e2
  simp only [List.length_append, List.length_reverse, List.length_cons, List.length_nil, e2]
  omega
