/-! EVENEST: how often a bit is turned in the list that extend makes -/
/-- cut steps of one bit -/
def kcF (L : LB) : Nat → Nat → Nat → Nat → Nat
  | 0, _, _, _ => 0
  | m + 1, i, c, x => (if c % 2 = 1 ∧ (lT L)[i]? = some x then 1 else 0) + kcF L m (i + 1) (c / 2) x
theorem ct_n {c i : Nat} (h : c < 9223372036854775808) : ctB (c : Int) i = decide (c / 2 ^ i % 2 = 1) := by
  unfold ctB
  rw [lu_n (by omega)]
theorem div_s (c i : Nat) : c / 2 ^ (i + 1) = c / 2 ^ i / 2 := by rw [Nat.pow_succ, Nat.div_div_eq_div_mul]
theorem exP_c {L : LB} {c x : Nat} (hc : c < 9223372036854775808) (hx : x < lN0 L) : ∀ (m i f a b : Nat), i + m + 1 = (lT L).length → f ≤ i → lN0 L ≤ a → lN0 L ≤ b → cnB (exP L c (m + 1) i f a b) x + 2 * kcF L m i (c / 2 ^ i) x = 3 * cnB (slc L f ((lT L).length - 1 - f)) x := by
  intro m
  induction m with
  | zero =>
    intro i f a b hi hf ha hb
    show cnB (if i + 1 = (lT L).length ∨ ctB (c : Int) i = true then _ else _ : List Nat) x + 2 * 0 = _
    rw [if_pos (Or.inl (by omega)), if_pos (show i + 1 = (lT L).length by omega)]
    show cnB (slc L f (i - f) ++ [a] ++ (slc L f (i - f)).reverse ++ [b] ++ slc L f (i - f) ++ [] ++ []) x + 2 * 0 = _
    rw [show (lT L).length - 1 - f = i - f by omega]
    simp only [cnB_app, cnB_rev, cnB_one, List.append_nil]
    rw [if_neg (by omega), if_neg (by omega)]
    omega
  | succ m ih =>
    intro i f a b hi hf ha hb
    have ex : exP L c (m + 1 + 1) i f a b = if i + 1 = (lT L).length ∨ ctB (c : Int) i = true then slc L f (i - f) ++ [a] ++ (slc L f (i - f)).reverse ++ [b] ++ slc L f (i - f) ++ (if i + 1 = (lT L).length then [] else slc L i 1) ++ exP L c (m + 1) (i + 1) (i + 1) b a else exP L c (m + 1) (i + 1) f a b := rfl
    have ek : kcF L (m + 1) i (c / 2 ^ i) x = (if c / 2 ^ i % 2 = 1 ∧ (lT L)[i]? = some x then 1 else 0) + kcF L m (i + 1) (c / 2 ^ i / 2) x := rfl
    rw [← div_s] at ek
    by_cases z : c / 2 ^ i % 2 = 1
    · have q := ih (i + 1) (i + 1) b a (by omega) (Nat.le_refl _) hb ha
      have e1 := slc_s1 (L := L) (i := i) (by omega) x
      have e2 : slc L f ((lT L).length - 1 - f) = slc L f (i - f) ++ (slc L i 1 ++ slc L (i + 1) ((lT L).length - 1 - (i + 1))) := by
        rw [← slc_add, show (lT L).length - 1 - f = (i - f) + (1 + ((lT L).length - 1 - (i + 1))) by omega, slc_add, show f + (i - f) = i by omega]
      rw [ex, if_pos (Or.inr (by rw [ct_n hc]; exact decide_eq_true z)), if_neg (show ¬ i + 1 = (lT L).length by omega), ek, e2]
      simp only [cnB_app, cnB_rev, cnB_one, e1]
      rw [if_neg (show ¬ a = x by omega), if_neg (show ¬ b = x by omega)]
      by_cases z2 : (lT L)[i]? = some x
      · rw [if_pos z2, if_pos ⟨z, z2⟩]; omega
      · rw [if_neg z2, if_neg (fun w => z2 w.2)]; omega
    · have q := ih (i + 1) f a b (by omega) (by omega) ha hb
      rw [ex, if_neg (fun w => by
        rcases w with w | w
        · omega
        · rw [ct_n hc] at w; exact z (of_decide_eq_true w)), ek, if_neg (fun w => z w.1)]
      omega
theorem slc_no {L : LB} (hw : wf0 L) {x f n : Nat} (hx : lN0 L ≤ x) : cnB (slc L f n) x = 0 := cnB_no _ (fun y hy => by have := slc_mem hw hy; omega)
theorem exP_n {L : LB} (hw : wf0 L) {c x : Nat} (hc : c < 9223372036854775808) (hx : lN0 L ≤ x) : ∀ (m i f a b : Nat), i + m + 1 = (lT L).length → f ≤ i → ((x = a ∧ x ≠ b) ∨ (x = b ∧ x ≠ a)) → cnB (exP L c (m + 1) i f a b) x = 1 + pcN m (c / 2 ^ i) := by
  intro m
  induction m with
  | zero =>
    intro i f a b hi hf hab
    show cnB (if i + 1 = (lT L).length ∨ ctB (c : Int) i = true then _ else _ : List Nat) x = 1 + 0
    rw [if_pos (Or.inl (by omega)), if_pos (show i + 1 = (lT L).length by omega)]
    show cnB (slc L f (i - f) ++ [a] ++ (slc L f (i - f)).reverse ++ [b] ++ slc L f (i - f) ++ [] ++ []) x = _
    simp only [cnB_app, cnB_rev, cnB_one, List.append_nil, slc_no hw hx]
    rcases hab with ⟨q1, q2⟩ | ⟨q1, q2⟩
    · rw [if_pos q1.symm, if_neg (Ne.symm q2)]
    · rw [if_neg (Ne.symm q2), if_pos q1.symm]
  | succ m ih =>
    intro i f a b hi hf hab
    have ex : exP L c (m + 1 + 1) i f a b = if i + 1 = (lT L).length ∨ ctB (c : Int) i = true then slc L f (i - f) ++ [a] ++ (slc L f (i - f)).reverse ++ [b] ++ slc L f (i - f) ++ (if i + 1 = (lT L).length then [] else slc L i 1) ++ exP L c (m + 1) (i + 1) (i + 1) b a else exP L c (m + 1) (i + 1) f a b := rfl
    have ek : pcN (m + 1) (c / 2 ^ i) = c / 2 ^ i % 2 + pcN m (c / 2 ^ i / 2) := rfl
    rw [← div_s] at ek
    by_cases z : c / 2 ^ i % 2 = 1
    · have q := ih (i + 1) (i + 1) b a (by omega) (Nat.le_refl _) hab.symm
      rw [ex, if_pos (Or.inr (by rw [ct_n hc]; exact decide_eq_true z)), if_neg (show ¬ i + 1 = (lT L).length by omega), ek]
      simp only [cnB_app, cnB_rev, cnB_one, slc_no hw hx]
      rw [q]
      rcases hab with ⟨q1, q2⟩ | ⟨q1, q2⟩
      · rw [if_pos q1.symm, if_neg (Ne.symm q2)]; omega
      · rw [if_neg (Ne.symm q2), if_pos q1.symm]; omega
    · have q := ih (i + 1) f a b (by omega) (by omega) hab
      rw [ex, if_neg (fun w => by
        rcases w with w | w
        · omega
        · rw [ct_n hc] at w; exact z (of_decide_eq_true w)), ek, q]
      omega
/-- how often a bit is turned before the last step -/
abbrev tlF (L : LB) (x : Nat) : Nat := cnB (slc L 0 ((lT L).length - 1)) x
theorem exL_c {L : LB} {c x : Nat} (h1 : 1 ≤ (lT L).length) (hc : c < 9223372036854775808) (hx : x < lN0 L) : cnB (exL L c) x + 2 * kcF L ((lT L).length - 1) 0 c x = 4 * tlF L x := by
  have e := exP_c hc hx ((lT L).length - 1) 0 0 (lN0 L) (lN0 L + 1) (by omega) (Nat.le_refl _) (by omega) (by omega)
  rw [Nat.pow_zero, Nat.div_one, Nat.sub_zero, show (lT L).length - 1 + 1 = (lT L).length by omega] at e
  unfold exL tlF
  rw [cnB_app, cnB_app, cnB_app, cnB_rev, cnB_one, cnB_one, if_neg (by omega), if_neg (by omega)]
  omega
theorem exL_n {L : LB} (hw : wf0 L) {c x : Nat} (h1 : 1 ≤ (lT L).length) (hc : c < 9223372036854775808) (hx : x = lN0 L ∨ x = lN0 L + 1) : cnB (exL L c) x = pcN ((lT L).length - 1) c + 2 := by
  have e := exP_n hw (x := x) hc (by omega) ((lT L).length - 1) 0 0 (lN0 L) (lN0 L + 1) (by omega) (Nat.le_refl _) (by omega)
  rw [Nat.pow_zero, Nat.div_one, show (lT L).length - 1 + 1 = (lT L).length by omega] at e
  unfold exL
  rw [cnB_app, cnB_app, cnB_app, cnB_rev, cnB_one, cnB_one, slc_no hw (by omega), e]
  rcases hx with q | q
  · rw [if_pos q.symm, if_neg (by omega)]; omega
  · rw [if_neg (by omega), if_pos q.symm]; omega
theorem kc_le {L : LB} (x : Nat) : ∀ m i c, i + m ≤ (lT L).length → kcF L m i c x ≤ cnB (slc L i m) x := by
  intro m
  induction m with
  | zero => intro i c _; exact Nat.zero_le _
  | succ m ih =>
    intro i c hi
    have q := ih (i + 1) (c / 2) (by omega)
    rw [slc_c1 (by omega)]
    show (if c % 2 = 1 ∧ (lT L)[i]? = some x then 1 else 0) + kcF L m (i + 1) (c / 2) x ≤ _
    by_cases z : (lT L)[i]? = some x
    · rw [if_pos z]
      by_cases z2 : c % 2 = 1
      · rw [if_pos ⟨z2, z⟩]; omega
      · rw [if_neg (fun w => z2 w.1)]; omega
    · rw [if_neg z, if_neg (fun w => z w.2)]; omega
theorem kc_sum {L : LB} (hw : wf0 L) : ∀ m i c, i + m ≤ (lT L).length → sF (kcF L m i c) (lN0 L) 0 = pcN m c := by
  intro m
  induction m with
  | zero => intro i c _; exact sF_z _ _
  | succ m ih =>
    intro i c hi
    have e := List.getElem?_eq_getElem (l := lT L) (i := i) (by omega)
    have hlt : (lT L)[i] < lN0 L := hw.2.2.2.2.2 _ (List.getElem_mem _)
    have q := ih (i + 1) (c / 2) (by omega)
    have a := sF_add (fun x => if c % 2 = 1 ∧ (lT L)[i]? = some x then 1 else 0) (kcF L m (i + 1) (c / 2)) (lN0 L) 0
    show sF (fun x => (if c % 2 = 1 ∧ (lT L)[i]? = some x then 1 else 0) + kcF L m (i + 1) (c / 2) x) (lN0 L) 0 = c % 2 + pcN m (c / 2)
    rw [a, q]
    by_cases z : c % 2 = 1
    · rw [sF_cg (g := fun x => if (lT L)[i] = x then 1 else 0) _ _ (fun x _ _ => by
        rw [e]
        by_cases w : (lT L)[i] = x
        · rw [if_pos w, if_pos ⟨z, by rw [w]⟩]
        · rw [if_neg w, if_neg (fun v => w (Option.some.inj v.2))]), sF_one, if_pos (by omega)]
      omega
    · rw [sF_cg (g := fun _ => 0) _ _ (fun x _ _ => by rw [if_neg (fun v => z v.1)]), sF_z]
      omega
/-- the unevenness: of the list made; of how many steps of each bit are cut -/
def unC (L : LB) (c : Nat) : Nat := mxF (cnB (exL L c)) (lN0 L + 2) 0 0 - mnF (cnB (exL L c)) (lN0 L + 2) 0 1000
def unV (L : LB) (k : Nat → Nat) : Nat := mxF (fun b => 4 * tlF L b - 2 * k b) (lN0 L) 0 (sF k (lN0 L) 0 + 2) - mnF (fun b => 4 * tlF L b - 2 * k b) (lN0 L) 0 (sF k (lN0 L) 0 + 2)
theorem pc_16 : ∀ (n u : Nat), pcN n u ≤ n := pc_64
theorem un_two {L : LB} (hw : wf0 L) {c : Nat} (h1 : 1 ≤ (lT L).length) (hc : c < 9223372036854775808) : mxF (cnB (exL L c)) (lN0 L + 2) 0 0 = mxF (fun b => 4 * tlF L b - 2 * kcF L ((lT L).length - 1) 0 c b) (lN0 L) 0 (sF (kcF L ((lT L).length - 1) 0 c) (lN0 L) 0 + 2) ∧ mnF (cnB (exL L c)) (lN0 L + 2) 0 1000 = mnF (fun b => 4 * tlF L b - 2 * kcF L ((lT L).length - 1) 0 c b) (lN0 L) 0 (sF (kcF L ((lT L).length - 1) 0 c) (lN0 L) 0 + 2) := by
  have hl := wf_len hw
  have p := pc_64 ((lT L).length - 1) c
  rw [kc_sum hw _ _ _ (by omega)]
  exact mx_two (fun x hx => by have := exL_c (x := x) h1 hc hx; omega) (exL_n hw h1 hc (Or.inl rfl)) (exL_n hw h1 hc (Or.inr rfl)) (by omega)
theorem unC_v {L : LB} (hw : wf0 L) {c : Nat} (h1 : 1 ≤ (lT L).length) (hc : c < 9223372036854775808) : unC L c = unV L (kcF L ((lT L).length - 1) 0 c) := by
  obtain ⟨a, b⟩ := un_two hw h1 hc
  unfold unC unV
  rw [a, b]
