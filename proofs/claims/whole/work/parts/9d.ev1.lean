/-! EVENEST: counting -/
def cnB : List Nat → Nat → Nat
  | [], _ => 0
  | x :: t, b => (if x = b then 1 else 0) + cnB t b
theorem cnB_app (b : Nat) (m : List Nat) : ∀ l, cnB (l ++ m) b = cnB l b + cnB m b := by
  intro l
  induction l with
  | nil => show cnB m b = 0 + cnB m b; omega
  | cons x t ih =>
    show (if x = b then 1 else 0) + cnB (t ++ m) b = (if x = b then 1 else 0) + cnB t b + cnB m b
    rw [ih]; omega
theorem cnB_one (x b : Nat) : cnB [x] b = if x = b then 1 else 0 := by
  show (if x = b then 1 else 0) + 0 = _
  omega
theorem cnB_rev (b : Nat) : ∀ l, cnB l.reverse b = cnB l b := by
  intro l
  induction l with
  | nil => rfl
  | cons x t ih =>
    rw [List.reverse_cons, cnB_app, ih, cnB_one]
    show _ = (if x = b then 1 else 0) + cnB t b
    omega
theorem cnB_no {b : Nat} : ∀ l : List Nat, (∀ x ∈ l, x ≠ b) → cnB l b = 0 := by
  intro l
  induction l with
  | nil => intro _; rfl
  | cons x t ih =>
    intro h
    show (if x = b then 1 else 0) + cnB t b = 0
    rw [if_neg (h x (List.mem_cons_self ..)), ih (fun y hy => h y (List.mem_cons_of_mem _ hy))]
theorem cnB_le (b : Nat) : ∀ l : List Nat, cnB l b ≤ l.length := by
  intro l
  induction l with
  | nil => exact Nat.le_refl _
  | cons x t ih =>
    show (if x = b then 1 else 0) + cnB t b ≤ t.length + 1
    by_cases z : x = b
    · rw [if_pos z]; omega
    · rw [if_neg z]; omega
theorem slc_add (L : LB) (f a b : Nat) : slc L f (a + b) = slc L f a ++ slc L (f + a) b := by
  unfold slc
  rw [List.take_add, List.drop_drop]
theorem slc_s1 {L : LB} {i : Nat} (h : i < (lT L).length) (x : Nat) : cnB (slc L i 1) x = if (lT L)[i]? = some x then 1 else 0 := by
  have e : (lT L)[i]? = some (lT L)[i] := List.getElem?_eq_getElem h
  rw [slc_cons (n := 0) e, slc_0, cnB_one, e]
  by_cases z : (lT L)[i] = x
  · rw [if_pos z, if_pos (by rw [z])]
  · rw [if_neg z, if_neg (fun q => z (Option.some.inj q))]
theorem slc_c1 {L : LB} {i m : Nat} (h : i < (lT L).length) (x : Nat) : cnB (slc L i (m + 1)) x = (if (lT L)[i]? = some x then 1 else 0) + cnB (slc L (i + 1) m) x := by
  rw [Nat.add_comm m 1, slc_add, cnB_app, slc_s1 h]
/-- sums -/
def sF (f : Nat → Nat) : Nat → Nat → Nat
  | 0, _ => 0
  | m + 1, b => f b + sF f m (b + 1)
theorem sF_add (f g : Nat → Nat) : ∀ m b, sF (fun x => f x + g x) m b = sF f m b + sF g m b := by
  intro m
  induction m with
  | zero => intro b; rfl
  | succ m ih =>
    intro b
    show f b + g b + sF (fun x => f x + g x) m (b + 1) = f b + sF f m (b + 1) + (g b + sF g m (b + 1))
    rw [ih]; omega
theorem sF_cg {f g : Nat → Nat} : ∀ m b, (∀ x, b ≤ x → x < b + m → f x = g x) → sF f m b = sF g m b := by
  intro m
  induction m with
  | zero => intro b _; rfl
  | succ m ih =>
    intro b h
    show f b + sF f m (b + 1) = g b + sF g m (b + 1)
    rw [h b (by omega) (by omega), ih (b + 1) (fun x h1 h2 => h x (by omega) (by omega))]
theorem sF_z : ∀ m b, sF (fun _ => 0) m b = 0 := by
  intro m
  induction m with
  | zero => intro b; rfl
  | succ m ih => intro b; show 0 + sF (fun _ => 0) m (b + 1) = 0; rw [ih]
theorem sF_one (y : Nat) : ∀ m b, sF (fun x => if y = x then 1 else 0) m b = if b ≤ y ∧ y < b + m then 1 else 0 := by
  intro m
  induction m with
  | zero => intro b; rw [if_neg (by omega)]; rfl
  | succ m ih =>
    intro b
    show (if y = b then 1 else 0) + sF (fun x => if y = x then 1 else 0) m (b + 1) = _
    rw [ih]
    by_cases z : y = b
    · rw [if_pos z, if_neg (by omega), if_pos (by omega)]
    · rw [if_neg z]
      by_cases q : b + 1 ≤ y ∧ y < b + 1 + m
      · rw [if_pos q, if_pos (by omega)]
      · rw [if_neg q, if_neg (by omega)]
theorem sF_cn {N : Nat} : ∀ l : List Nat, (∀ x ∈ l, x < N) → sF (cnB l) N 0 = l.length := by
  intro l
  induction l with
  | nil => intro _; exact sF_z N 0
  | cons y t ih =>
    intro h
    have e := sF_add (fun x => if y = x then 1 else 0) (cnB t) N 0
    rw [sF_one, if_pos ⟨Nat.zero_le _, by have := h y (List.mem_cons_self ..); omega⟩, ih (fun z hz => h z (List.mem_cons_of_mem _ hz))] at e
    show sF (fun x => (if y = x then 1 else 0) + cnB t x) N 0 = t.length + 1
    rw [e]; omega
/-- the most, the least -/
def mxF (f : Nat → Nat) : Nat → Nat → Nat → Nat
  | 0, _, a => a
  | m + 1, b, a => mxF f m (b + 1) (max a (f b))
def mnF (f : Nat → Nat) : Nat → Nat → Nat → Nat
  | 0, _, a => a
  | m + 1, b, a => mnF f m (b + 1) (min a (f b))
theorem mxF_x (f : Nat → Nat) (y : Nat) : ∀ m b a, mxF f m b (max a y) = max (mxF f m b a) y := by
  intro m
  induction m with
  | zero => intro b a; rfl
  | succ m ih =>
    intro b a
    show mxF f m (b + 1) (max (max a y) (f b)) = max (mxF f m (b + 1) (max a (f b))) y
    rw [← ih, show max (max a y) (f b) = max (max a (f b)) y by omega]
theorem mnF_x (f : Nat → Nat) (y : Nat) : ∀ m b a, mnF f m b (min a y) = min (mnF f m b a) y := by
  intro m
  induction m with
  | zero => intro b a; rfl
  | succ m ih =>
    intro b a
    show mnF f m (b + 1) (min (min a y) (f b)) = min (mnF f m (b + 1) (min a (f b))) y
    rw [← ih, show min (min a y) (f b) = min (min a (f b)) y by omega]
theorem mxF_s (f : Nat → Nat) : ∀ m b a, mxF f (m + 1) b a = max (mxF f m b a) (f (b + m)) := by
  intro m
  induction m with
  | zero => intro b a; rfl
  | succ m ih =>
    intro b a
    show mxF f (m + 1) (b + 1) (max a (f b)) = max (mxF f m (b + 1) (max a (f b))) (f (b + (m + 1)))
    rw [ih, show b + 1 + m = b + (m + 1) by omega]
theorem mnF_s (f : Nat → Nat) : ∀ m b a, mnF f (m + 1) b a = min (mnF f m b a) (f (b + m)) := by
  intro m
  induction m with
  | zero => intro b a; rfl
  | succ m ih =>
    intro b a
    show mnF f (m + 1) (b + 1) (min a (f b)) = min (mnF f m (b + 1) (min a (f b))) (f (b + (m + 1)))
    rw [ih, show b + 1 + m = b + (m + 1) by omega]
theorem mxF_cg {f g : Nat → Nat} : ∀ m b a, (∀ x, b ≤ x → x < b + m → f x = g x) → mxF f m b a = mxF g m b a := by
  intro m
  induction m with
  | zero => intro b a _; rfl
  | succ m ih =>
    intro b a h
    show mxF f m (b + 1) (max a (f b)) = mxF g m (b + 1) (max a (g b))
    rw [h b (by omega) (by omega), ih (b + 1) _ (fun x h1 h2 => h x (by omega) (by omega))]
theorem mnF_cg {f g : Nat → Nat} : ∀ m b a, (∀ x, b ≤ x → x < b + m → f x = g x) → mnF f m b a = mnF g m b a := by
  intro m
  induction m with
  | zero => intro b a _; rfl
  | succ m ih =>
    intro b a h
    show mnF f m (b + 1) (min a (f b)) = mnF g m (b + 1) (min a (g b))
    rw [h b (by omega) (by omega), ih (b + 1) _ (fun x h1 h2 => h x (by omega) (by omega))]
theorem mxF_le {f : Nat → Nat} {B : Nat} : ∀ m b a, a ≤ B → (∀ x, b ≤ x → x < b + m → f x ≤ B) → mxF f m b a ≤ B := by
  intro m
  induction m with
  | zero => intro b a h _; exact h
  | succ m ih =>
    intro b a h1 h2
    have := h2 b (by omega) (by omega)
    exact ih (b + 1) _ (by omega) (fun x h3 h4 => h2 x (by omega) (by omega))
theorem mxF_ge (f : Nat → Nat) : ∀ m b a, a ≤ mxF f m b a := by
  intro m
  induction m with
  | zero => intro b a; exact Nat.le_refl _
  | succ m ih => intro b a; have := ih (b + 1) (max a (f b)); show a ≤ mxF f m (b + 1) (max a (f b)); omega
theorem mnF_le (f : Nat → Nat) : ∀ m b a, mnF f m b a ≤ a := by
  intro m
  induction m with
  | zero => intro b a; exact Nat.le_refl _
  | succ m ih => intro b a; have := ih (b + 1) (min a (f b)); show mnF f m (b + 1) (min a (f b)) ≤ a; omega
theorem mx_two {f g : Nat → Nat} {N k : Nat} (h : ∀ x, x < N → f x = g x) (h1 : f N = k) (h2 : f (N + 1) = k) (hk : k ≤ 1000) : mxF f (N + 2) 0 0 = mxF g N 0 k ∧ mnF f (N + 2) 0 1000 = mnF g N 0 k := by
  have a := mxF_x g k N 0 0
  have b := mnF_x g k N 0 1000
  rw [show max 0 k = k by omega] at a
  rw [show min 1000 k = k by omega] at b
  refine ⟨?_, ?_⟩
  · rw [mxF_s, mxF_s, Nat.zero_add, Nat.zero_add, h1, h2, mxF_cg (g := g) N 0 0 (fun x _ q => h x (by omega)), a]; omega
  · rw [mnF_s, mnF_s, Nat.zero_add, Nat.zero_add, h1, h2, mnF_cg (g := g) N 0 1000 (fun x _ q => h x (by omega)), b]; omega
