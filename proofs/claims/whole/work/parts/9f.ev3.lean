/-! EVENEST: the first cuts, and the choices one after another -/
abbrev sgN (L : LB) (i : Nat) : Nat := (lT L)[i]?.getD 0
abbrev dcF (r : Nat → Nat) (y : Nat) : Nat → Nat := fun x => if x = y then r x - 1 else r x
def fcF (L : LB) : Nat → Nat → (Nat → Nat) → Nat
  | 0, _, _ => 0
  | m + 1, i, r => if r (sgN L i) = 0 then 2 * fcF L m (i + 1) r else 1 + 2 * fcF L m (i + 1) (dcF r (sgN L i))
theorem sgN_e {L : LB} {i : Nat} (h : i < (lT L).length) : (lT L)[i]? = some (sgN L i) := by
  have e := List.getElem?_eq_getElem (l := lT L) (i := i) h
  unfold sgN
  rw [e]
  rfl
theorem fc_lt {L : LB} : ∀ m i r, fcF L m i r < 2 ^ m := by
  intro m
  induction m with
  | zero => intro i r; show 0 < 1; omega
  | succ m ih =>
    intro i r
    have p : 2 ^ (m + 1) = 2 * 2 ^ m := by rw [Nat.pow_succ]; omega
    unfold fcF
    by_cases z : r (sgN L i) = 0
    · rw [if_pos z]; have := ih (i + 1) r; omega
    · rw [if_neg z]; have := ih (i + 1) (dcF r (sgN L i)); omega
theorem fc_k {L : LB} : ∀ m i r, i + m ≤ (lT L).length → (∀ x, r x ≤ cnB (slc L i m) x) → ∀ x, kcF L m i (fcF L m i r) x = r x := by
  intro m
  induction m with
  | zero =>
    intro i r _ h x
    have := h x
    rw [slc_0] at this
    have this : r x ≤ 0 := this
    show 0 = r x
    omega
  | succ m ih =>
    intro i r hi h x
    have e := sgN_e (L := L) (i := i) (by omega)
    have hs : ∀ y, cnB (slc L i (m + 1)) y = (if sgN L i = y then 1 else 0) + cnB (slc L (i + 1) m) y := fun y => by
      rw [slc_c1 (by omega), e]
      by_cases z : sgN L i = y
      · rw [if_pos z, if_pos (by rw [z])]
      · rw [if_neg z, if_neg (fun q => z (Option.some.inj q))]
    show (if fcF L (m + 1) i r % 2 = 1 ∧ (lT L)[i]? = some x then 1 else 0) + kcF L m (i + 1) (fcF L (m + 1) i r / 2) x = r x
    have ef : fcF L (m + 1) i r = if r (sgN L i) = 0 then 2 * fcF L m (i + 1) r else 1 + 2 * fcF L m (i + 1) (dcF r (sgN L i)) := rfl
    by_cases z : r (sgN L i) = 0
    · rw [if_pos z] at ef
      have q := ih (i + 1) r (by omega) (fun y => by
        have a := h y
        rw [hs] at a
        by_cases w : sgN L i = y
        · rw [← w, z]; exact Nat.zero_le _
        · rw [if_neg w] at a; omega) x
      rw [ef, if_neg (fun w => by omega), Nat.zero_add, Nat.mul_div_cancel_left _ (by decide)]
      exact q
    · rw [if_neg z] at ef
      have q := ih (i + 1) (dcF r (sgN L i)) (by omega) (fun y => by
        have a := h y
        rw [hs] at a
        show (if y = sgN L i then r y - 1 else r y) ≤ _
        by_cases w : sgN L i = y
        · rw [if_pos w] at a; rw [if_pos w.symm]; omega
        · rw [if_neg w] at a; rw [if_neg (fun v => w v.symm)]; omega) x
      have q : kcF L m (i + 1) (fcF L m (i + 1) (dcF r (sgN L i))) x = if x = sgN L i then r x - 1 else r x := q
      rw [ef, show (1 + 2 * fcF L m (i + 1) (dcF r (sgN L i))) / 2 = fcF L m (i + 1) (dcF r (sgN L i)) by omega, q, e]
      by_cases w : x = sgN L i
      · rw [if_pos w, if_pos ⟨by omega, by rw [w]⟩, w]; omega
      · rw [if_neg w, if_neg (fun v => w (Option.some.inj v.2).symm)]; omega
theorem fc_le {L : LB} : ∀ m i r c, i + m ≤ (lT L).length → (∀ x, r x ≤ kcF L m i c x) → fcF L m i r ≤ c := by
  intro m
  induction m with
  | zero => intro i r c _ _; exact Nat.zero_le _
  | succ m ih =>
    intro i r c hi h
    have e := sgN_e (L := L) (i := i) (by omega)
    have hk : ∀ x, kcF L (m + 1) i c x = (if c % 2 = 1 ∧ sgN L i = x then 1 else 0) + kcF L m (i + 1) (c / 2) x := fun x => by
      show (if c % 2 = 1 ∧ (lT L)[i]? = some x then 1 else 0) + kcF L m (i + 1) (c / 2) x = _
      rw [e]
      by_cases z : c % 2 = 1 ∧ sgN L i = x
      · rw [if_pos z, if_pos ⟨z.1, by rw [z.2]⟩]
      · rw [if_neg z, if_neg (fun w => z ⟨w.1, Option.some.inj w.2⟩)]
    have ef : fcF L (m + 1) i r = if r (sgN L i) = 0 then 2 * fcF L m (i + 1) r else 1 + 2 * fcF L m (i + 1) (dcF r (sgN L i)) := rfl
    by_cases z : r (sgN L i) = 0
    · rw [if_pos z] at ef
      have q := ih (i + 1) r (c / 2) (by omega) (fun x => by
        have a := h x
        rw [hk] at a
        by_cases w : sgN L i = x
        · rw [← w, z]; exact Nat.zero_le _
        · rw [if_neg (fun v => w v.2)] at a; omega)
      rw [ef]; omega
    · rw [if_neg z] at ef
      by_cases zc : c % 2 = 1
      · have q := ih (i + 1) (dcF r (sgN L i)) (c / 2) (by omega) (fun x => by
          have a := h x
          rw [hk] at a
          show (if x = sgN L i then r x - 1 else r x) ≤ _
          by_cases w : x = sgN L i
          · rw [if_pos w]; rw [if_pos ⟨zc, w.symm⟩] at a; omega
          · rw [if_neg w]; rw [if_neg (fun v => w v.2.symm)] at a; omega)
        rw [ef]; omega
      · have hle : ∀ x, r x ≤ kcF L m (i + 1) (c / 2) x := fun x => by
          have a := h x
          rw [hk, if_neg (fun v => zc v.1)] at a
          omega
        have hd : ∀ x, dcF r (sgN L i) x ≤ r x := fun x => by
          show (if x = sgN L i then r x - 1 else r x) ≤ _
          by_cases w : x = sgN L i
          · rw [if_pos w]; omega
          · rw [if_neg w]; exact Nat.le_refl _
        have q := ih (i + 1) (dcF r (sgN L i)) (c / 2) (by omega) (fun x => Nat.le_trans (hd x) (hle x))
        have k := fc_k m (i + 1) (dcF r (sgN L i)) (by omega) (fun x => Nat.le_trans (hd x) (Nat.le_trans (hle x) (kc_le x m (i + 1) (c / 2) (by omega)))) (sgN L i)
        have k : kcF L m (i + 1) (fcF L m (i + 1) (dcF r (sgN L i))) (sgN L i) = if sgN L i = sgN L i then r (sgN L i) - 1 else r (sgN L i) := k
        rw [if_pos rfl] at k
        have a := hle (sgN L i)
        have ne : fcF L m (i + 1) (dcF r (sgN L i)) ≠ c / 2 := fun w => by
          rw [w] at k
          omega
        rw [ef]; omega
/-- the choices as numbers -/
abbrev ufN (k : Nat → Nat) (b v : Nat) : Nat → Nat := fun x => if x = b then v else k x
def vlF (T k : Nat → Nat) : Nat → Nat → Nat
  | 0, _ => 0
  | m + 1, b => k b + (T b + 1) * vlF T k m (b + 1)
def prF (T : Nat → Nat) : Nat → Nat → Nat
  | 0, _ => 1
  | m + 1, b => (T b + 1) * prF T m (b + 1)
def nxF (T : Nat → Nat) : Nat → Nat → (Nat → Nat) → Option (Nat → Nat)
  | 0, _, _ => none
  | m + 1, b, k => if T b ≤ k b then nxF T m (b + 1) (ufN k b 0) else some (ufN k b (k b + 1))
theorem vl_cg {T k k' : Nat → Nat} : ∀ m b, (∀ x, b ≤ x → k x = k' x) → vlF T k m b = vlF T k' m b := by
  intro m
  induction m with
  | zero => intro b _; rfl
  | succ m ih =>
    intro b h
    show k b + (T b + 1) * vlF T k m (b + 1) = k' b + (T b + 1) * vlF T k' m (b + 1)
    rw [h b (Nat.le_refl _), ih (b + 1) (fun x q => h x (by omega))]
theorem vl_lt {T k : Nat → Nat} (h : ∀ x, k x ≤ T x) : ∀ m b, vlF T k m b < prF T m b := by
  intro m
  induction m with
  | zero => intro b; show 0 < 1; omega
  | succ m ih =>
    intro b
    have q := Nat.mul_le_mul_left (T b + 1) (show vlF T k m (b + 1) + 1 ≤ prF T m (b + 1) from ih (b + 1))
    rw [Nat.mul_succ] at q
    have := h b
    show k b + (T b + 1) * vlF T k m (b + 1) < (T b + 1) * prF T m (b + 1)
    omega
theorem vl_inj {T k k' : Nat → Nat} (h : ∀ x, k x ≤ T x) (h' : ∀ x, k' x ≤ T x) : ∀ m b, vlF T k m b = vlF T k' m b → ∀ x, b ≤ x → x < b + m → k x = k' x := by
  intro m
  induction m with
  | zero => intro b _ x h1 h2; omega
  | succ m ih =>
    intro b e x h1 h2
    have e : k b + (T b + 1) * vlF T k m (b + 1) = k' b + (T b + 1) * vlF T k' m (b + 1) := e
    have a1 := h b
    have a2 := h' b
    have em : k b = k' b := by
      have q := congrArg (· % (T b + 1)) e
      rw [Nat.add_mul_mod_self_left, Nat.add_mul_mod_self_left, Nat.mod_eq_of_lt (by omega), Nat.mod_eq_of_lt (by omega)] at q
      exact q
    by_cases z : x = b
    · rw [z]; exact em
    · rw [em] at e
      exact ih (b + 1) (Nat.eq_of_mul_eq_mul_left (Nat.succ_pos (T b)) (Nat.add_left_cancel e)) x (by omega) (by omega)
theorem nx_none {T : Nat → Nat} : ∀ m b k, (∀ x, k x ≤ T x) → nxF T m b k = none → vlF T k m b + 1 = prF T m b := by
  intro m
  induction m with
  | zero => intro b k _ _; rfl
  | succ m ih =>
    intro b k h e
    have e : (if T b ≤ k b then nxF T m (b + 1) (ufN k b 0) else some (ufN k b (k b + 1))) = none := e
    by_cases z : T b ≤ k b
    · rw [if_pos z] at e
      have q := ih (b + 1) (ufN k b 0) (fun x => by
        show (if x = b then 0 else k x) ≤ T x
        by_cases w : x = b
        · rw [if_pos w]; exact Nat.zero_le _
        · rw [if_neg w]; exact h x) e
      rw [vl_cg (k' := k) m (b + 1) (fun x w => by show (if x = b then 0 else k x) = k x; rw [if_neg (by omega)])] at q
      have := h b
      show k b + (T b + 1) * vlF T k m (b + 1) + 1 = (T b + 1) * prF T m (b + 1)
      rw [← q, Nat.mul_succ]
      omega
    · rw [if_neg z] at e; cases e
theorem nx_some {T : Nat → Nat} : ∀ m b k k', (∀ x, k x ≤ T x) → nxF T m b k = some k' → (∀ x, k' x ≤ T x) ∧ vlF T k' m b = vlF T k m b + 1 ∧ ∀ x, x < b → k' x = k x := by
  intro m
  induction m with
  | zero => intro b k k' _ e; cases e
  | succ m ih =>
    intro b k k' h e
    have e : (if T b ≤ k b then nxF T m (b + 1) (ufN k b 0) else some (ufN k b (k b + 1))) = some k' := e
    by_cases z : T b ≤ k b
    · rw [if_pos z] at e
      obtain ⟨q1, q2, q3⟩ := ih (b + 1) (ufN k b 0) k' (fun x => by
        show (if x = b then 0 else k x) ≤ T x
        by_cases w : x = b
        · rw [if_pos w]; exact Nat.zero_le _
        · rw [if_neg w]; exact h x) e
      rw [vl_cg (k' := k) (k := ufN k b 0) m (b + 1) (fun x w => by show (if x = b then 0 else k x) = k x; rw [if_neg (by omega)])] at q2
      have q4 : k' b = if b = b then 0 else k b := q3 b (by omega)
      rw [if_pos rfl] at q4
      refine ⟨q1, ?_, fun x hx => ?_⟩
      · have := h b
        show k' b + (T b + 1) * vlF T k' m (b + 1) = k b + (T b + 1) * vlF T k m (b + 1) + 1
        rw [q2, q4, Nat.mul_succ]
        omega
      · have q5 : k' x = if x = b then 0 else k x := q3 x (by omega)
        rw [if_neg (by omega)] at q5
        exact q5
    · rw [if_neg z] at e
      have e := Option.some.inj e
      subst e
      refine ⟨fun x => ?_, ?_, fun x hx => by show (if x = b then _ else k x) = k x; rw [if_neg (by omega)]⟩
      · show (if x = b then k b + 1 else k x) ≤ T x
        by_cases w : x = b
        · rw [if_pos w, w]; omega
        · rw [if_neg w]; exact h x
      · show (if b = b then k b + 1 else k b) + (T b + 1) * vlF T (ufN k b (k b + 1)) m (b + 1) = k b + (T b + 1) * vlF T k m (b + 1) + 1
        rw [if_pos rfl, vl_cg (k' := k) m (b + 1) (fun x w => by show (if x = b then _ else k x) = k x; rw [if_neg (by omega)])]
        omega
theorem lt_pow2 : ∀ n : Nat, n + 1 ≤ 2 ^ n := by
  intro n
  induction n with
  | zero => decide
  | succ n ih => rw [Nat.pow_succ]; omega
theorem pr_le {T : Nat → Nat} : ∀ m b, prF T m b ≤ 2 ^ sF T m b := by
  intro m
  induction m with
  | zero => intro b; exact Nat.le_refl _
  | succ m ih =>
    intro b
    show (T b + 1) * prF T m (b + 1) ≤ 2 ^ (T b + sF T m (b + 1))
    rw [Nat.pow_add]
    exact Nat.mul_le_mul (lt_pow2 _) (ih (b + 1))
