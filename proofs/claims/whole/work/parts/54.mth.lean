/-! NUMBERS OF THINGS -/
def allF (p : Nat → Bool) : Nat → Nat → Bool
  | 0, _ => true
  | m + 1, i => if p i = true then allF p m (i + 1) else false
theorem allF_iff (p : Nat → Bool) : ∀ m i, allF p m i = true ↔ ∀ j, i ≤ j → j < i + m → p j = true := by
  intro m
  induction m with
  | zero => intro i; exact ⟨fun _ j h1 h2 => by omega, fun _ => rfl⟩
  | succ m ih =>
    intro i
    unfold allF
    by_cases z : p i = true
    · rw [if_pos z, ih (i + 1)]
      constructor
      · intro h j h1 h2
        by_cases e : j = i
        · rw [e]; exact z
        · exact h j (by omega) (by omega)
      · intro h j h1 h2
        exact h j (by omega) (by omega)
    · rw [if_neg z]
      exact ⟨fun q => (by cases q), fun h => absurd (h i (by omega) (by omega)) z⟩
theorem bool_eq {a b : Bool} (h : a = true ↔ b = true) : a = b := by
  cases a <;> cases b
  · rfl
  · exact absurd (h.mpr rfl) (by decide)
  · exact absurd (h.mp rfl) (by decide)
  · rfl
theorem cntB_s (p : Nat → Bool) (n : Nat) : cntB p (n + 1) = cntB p n + (bif p n then 1 else 0) := rfl
theorem cntB_st {p : Nat → Bool} {n : Nat} (h : p n = true) : cntB p (n + 1) = cntB p n + 1 := by rw [cntB_s, h]; rfl
theorem cntB_sf {p : Nat → Bool} {n : Nat} (h : p n = false) : cntB p (n + 1) = cntB p n := by rw [cntB_s, h]; rfl
theorem cntB_pos {p : Nat → Bool} : ∀ n, (∃ i, i < n ∧ p i = true) ↔ 0 < cntB p n := by
  intro n
  induction n with
  | zero => exact ⟨fun ⟨i, h, _⟩ => by omega, fun h => absurd h (by show ¬ 0 < 0; decide)⟩
  | succ n ih =>
    cases h : p n with
    | true =>
      rw [cntB_st h]
      exact ⟨fun _ => by omega, fun _ => ⟨n, by omega, h⟩⟩
    | false =>
      rw [cntB_sf h, ← ih]
      constructor
      · intro ⟨i, h1, h2⟩
        refine ⟨i, ?_, h2⟩
        by_cases e : i = n
        · rw [e, h] at h2; cases h2
        · omega
      · intro ⟨i, h1, h2⟩
        exact ⟨i, by omega, h2⟩
theorem cntB_two {p : Nat → Bool} : ∀ n, (∃ i j, i < j ∧ j < n ∧ p i = true ∧ p j = true) ↔ 2 ≤ cntB p n := by
  intro n
  induction n with
  | zero => exact ⟨fun ⟨i, j, h, h2, _⟩ => by omega, fun h => absurd h (by show ¬ 2 ≤ 0; decide)⟩
  | succ n ih =>
    cases h : p n with
    | true =>
      rw [cntB_st h]
      constructor
      · intro ⟨i, j, h1, h2, h3, h4⟩
        have := (cntB_pos n).mp ⟨i, by omega, h3⟩
        omega
      · intro q
        obtain ⟨i, h1, h2⟩ := (cntB_pos (p := p) n).mpr (by omega)
        exact ⟨i, n, h1, by omega, h2, h⟩
    | false =>
      rw [cntB_sf h, ← ih]
      constructor
      · intro ⟨i, j, h1, h2, h3, h4⟩
        refine ⟨i, j, h1, ?_, h3, h4⟩
        by_cases e : j = n
        · rw [e, h] at h4; cases h4
        · omega
      · intro ⟨i, j, h1, h2, h3, h4⟩
        exact ⟨i, j, h1, by omega, h3, h4⟩
theorem cntB_zero {p : Nat → Bool} {n : Nat} : cntB p n = 0 ↔ ∀ i, i < n → p i = false := by
  constructor
  · intro h i hi
    cases e : p i with
    | false => rfl
    | true => have := (cntB_pos n).mp ⟨i, hi, e⟩; omega
  · intro h
    rcases Nat.eq_zero_or_pos (cntB p n) with z | z
    · exact z
    · obtain ⟨i, h1, h2⟩ := (cntB_pos n).mpr z
      rw [h i h1] at h2; cases h2
theorem cntB_co {p q : Nat → Bool} : ∀ n, (∀ i, i < n → p i = q i) → cntB p n = cntB q n := by
  intro n
  induction n with
  | zero => intro _; rfl
  | succ n ih => intro h; rw [cntB_s, cntB_s, ih (fun i hi => h i (by omega)), h n (by omega)]
def smN (f : Nat → Nat) : Nat → Nat
  | 0 => 0
  | n + 1 => smN f n + f n
theorem smN_0 {f : Nat → Nat} : ∀ n, smN f n = 0 ↔ ∀ w, w < n → f w = 0 := by
  intro n
  induction n with
  | zero => exact ⟨fun _ w h => by omega, fun _ => rfl⟩
  | succ n ih =>
    show smN f n + f n = 0 ↔ _
    constructor
    · intro h w hw
      by_cases e : w = n
      · rw [e]; omega
      · exact (ih.mp (by omega)) w (by omega)
    · intro h
      have h1 := ih.mpr (fun w hw => h w (by omega))
      have h2 := h n (by omega)
      omega
theorem smN_ad (f g : Nat → Nat) : ∀ n, smN (fun w => f w + g w) n = smN f n + smN g n := by
  intro n
  induction n with
  | zero => rfl
  | succ n ih =>
    show smN (fun w => f w + g w) n + (f n + g n) = smN f n + f n + (smN g n + g n)
    omega
theorem smN_co {f g : Nat → Nat} : ∀ n, (∀ w, w < n → f w = g w) → smN f n = smN g n := by
  intro n
  induction n with
  | zero => intro _; rfl
  | succ n ih =>
    intro h
    show smN f n + f n = smN g n + g n
    rw [ih (fun w hw => h w (by omega)), h n (by omega)]
theorem smN_pt (a : Nat) : ∀ n, smN (fun w => bif decide (a = w) then 1 else 0) n = if a < n then 1 else 0 := by
  intro n
  induction n with
  | zero => rw [if_neg (by omega)]; rfl
  | succ n ih =>
    show smN _ n + (bif decide (a = n) then 1 else 0) = _
    rw [ih]
    by_cases e : a = n
    · rw [decide_eq_true e, if_neg (by omega), if_pos (by omega)]; rfl
    · rw [decide_eq_false e]
      by_cases z : a < n
      · rw [if_pos z, if_pos (by omega)]; rfl
      · rw [if_neg z, if_neg (by omega)]; rfl
theorem cnt_sm (f : Nat → Nat) : ∀ n, cntB (fun w => decide (0 < f w)) n + smN (fun w => f w - 1) n = smN f n := by
  intro n
  induction n with
  | zero => rfl
  | succ n ih =>
    show cntB (fun w => decide (0 < f w)) n + (bif decide (0 < f n) then 1 else 0) + (smN (fun w => f w - 1) n + (f n - 1)) = smN f n + f n
    by_cases z : 0 < f n
    · rw [decide_eq_true z]; simp only [cond_true]; omega
    · rw [decide_eq_false z]; simp only [cond_false]; omega
theorem sm_cw {L : LB} {M : Nat} (h : ∀ i, wd L i < M) : ∀ k, smN (fun w => cwN L w k) M = k := by
  intro k
  induction k with
  | zero => exact (smN_0 M).mpr (fun w _ => rfl)
  | succ k ih =>
    have e : smN (fun w => cwN L w (k + 1)) M = smN (fun w => cwN L w k + (bif decide (wd L k = w) then 1 else 0)) M := smN_co M (fun w _ => cwN_s L w k)
    rw [e, smN_ad, ih, smN_pt, if_pos (h k)]
theorem cW_out {L : LB} (hw : wf0 L) {w : Nat} (h : 2 ^ lN0 L ≤ w) : cW L w = 0 := cntB_zero.mpr (fun i _ => decide_eq_false (by have := wd_lt hw i; omega))
/-- each word once -/
theorem cln_w {L : LB} (hw : wf0 L) : clnB L = true ↔ ∀ w, w < 256 → cW L w ≤ 1 := by
  have h1 := sm_cw (fun i => wd_lt hw i) (shN L)
  have h2 := cnt_sm (fun w => cW L w) (2 ^ lN0 L)
  have h1 : smN (fun w => cW L w) (2 ^ lN0 L) = shN L := h1
  rw [h1] at h2
  have h2 : unlN L + smN (fun w => cW L w - 1) (2 ^ lN0 L) = shN L := h2
  unfold clnB
  rw [decide_eq_true_iff]
  constructor
  · intro e w hw2
    have h3 := (smN_0 (2 ^ lN0 L)).mp (show smN (fun w => cW L w - 1) (2 ^ lN0 L) = 0 by omega) w
    by_cases z : w < 2 ^ lN0 L
    · have := h3 z; omega
    · rw [cW_out hw (by omega)]; omega
  · intro h
    have h3 := (smN_0 (f := fun w => cW L w - 1) (2 ^ lN0 L)).mpr (fun w hw2 => by
      have := h w (Nat.lt_of_lt_of_le hw2 (pow8 hw.1))
      show cW L w - 1 = 0
      omega)
    omega
theorem cln_i {L : LB} (hw : wf0 L) : clnB L = true ↔ ∀ i j, i < j → j < shN L → wd L i ≠ wd L j := by
  rw [cln_w hw]
  constructor
  · intro h i j h1 h2 e
    have := h (wd L i) (wd_256 hw i)
    have h3 : 2 ≤ cW L (wd L i) := (cntB_two (p := fun k => decide (wd L k = wd L i)) (shN L)).mp ⟨i, j, h1, h2, decide_eq_true rfl, decide_eq_true e.symm⟩
    omega
  · intro h w _
    rcases Nat.lt_or_ge 1 (cW L w) with z | z
    · obtain ⟨i, j, h1, h2, h3, h4⟩ := (cntB_two (p := fun k => decide (wd L k = w)) (shN L)).mpr z
      exact absurd ((of_decide_eq_true h3).trans (of_decide_eq_true h4).symm) (h i j h1 h2)
    · exact z
theorem pb_sym (L : LB) (a c : Nat) : pbN L a c = pbN L c a := by
  have e : (if a < c then c - a else a - c) = (if c < a then a - c else c - a) := by
    by_cases z : a < c
    · rw [if_pos z, if_neg (by omega)]
    · by_cases z2 : c < a
      · rw [if_neg z, if_pos z2]
      · rw [if_neg z, if_neg z2]; omega
  unfold pbN
  rw [e]
theorem pb_pos {L : LB} {a c : Nat} (ha : a < shN L) (hc : c < shN L) (h : a ≠ c) : 1 ≤ pbN L a c := by
  have e : 1 ≤ (if a < c then c - a else a - c) ∧ (if a < c then c - a else a - c) < shN L := by
    by_cases z : a < c
    · rw [if_pos z]; omega
    · rw [if_neg z]; omega
  unfold pbN
  generalize (if a < c then c - a else a - c) = k at *
  cases hb : lpB L with
  | true => rw [if_pos rfl]; rw [shN_lp hb] at e; omega
  | false => rw [if_neg (by decide)]; omega
theorem pop1 : ∀ w : Nat, w < 256 → pop w < 2 → w = 0 ∨ w = 2 ^ lowN 8 w := by decide +kernel
theorem pop0 : ∀ w : Nat, w < 256 → pop w = 0 → w = 0 := by decide +kernel
theorem popP : ∀ x : Nat, x < 8 → pop (2 ^ x) = 1 := by decide +kernel
theorem xor_0 {a b : Nat} (h : a ^^^ b = 0) : a = b := by
  have e : (a ^^^ b) ^^^ b = 0 ^^^ b := by rw [h]
  rw [Nat.xor_assoc, Nat.xor_self, Nat.xor_zero, Nat.zero_xor] at e
  exact e
theorem lst_u {L : LB} (hw : wf0 L) (hc : clnB L = true) {b : Nat} (hb : b < shN L) : 0 < cW L (wd L b) ∧ lstP L (wd L b) (shN L) = b := by
  have h0 : 0 < cW L (wd L b) := (cntB_pos (p := fun k => decide (wd L k = wd L b)) (shN L)).mp ⟨b, hb, decide_eq_true rfl⟩
  obtain ⟨h1, h2⟩ := lstP_lt L (wd L b) (shN L) h0
  refine ⟨h0, ?_⟩
  have hi := (cln_i hw).mp hc
  rcases Nat.lt_trichotomy (lstP L (wd L b) (shN L)) b with z | z | z
  · exact absurd h2 (hi _ _ z hb)
  · exact z
  · exact absurd h2.symm (hi _ _ z h1)
/-- snakes -/
theorem snkI_iff (L : LB) (p : Nat) : ∀ m x, snkI L p m x = true ↔ ∀ y, x ≤ y → y < x + m → ¬ (0 < cW L (wd L p ^^^ 2 ^ y) ∧ 1 < pbN L p (lstP L (wd L p ^^^ 2 ^ y) (shN L))) := by
  intro m
  induction m with
  | zero => intro x; exact ⟨fun _ y h1 h2 => by omega, fun _ => rfl⟩
  | succ m ih =>
    intro x
    unfold snkI
    by_cases z : 0 < cW L (wd L p ^^^ 2 ^ x) ∧ 1 < pbN L p (lstP L (wd L p ^^^ 2 ^ x) (shN L))
    · rw [if_pos z]
      exact ⟨fun q => (by cases q), fun h => absurd z (h x (by omega) (by omega))⟩
    · rw [if_neg z, ih (x + 1)]
      constructor
      · intro h y h1 h2
        by_cases e : y = x
        · rw [e]; exact z
        · exact h y (by omega) (by omega)
      · intro h y h1 h2
        exact h y (by omega) (by omega)
theorem snkF_iff (L : LB) : ∀ m p, snkF L m p = true ↔ ∀ q, p ≤ q → q < p + m → snkI L q (lN0 L) 0 = true := by
  intro m
  induction m with
  | zero => intro x; exact ⟨fun _ y h1 h2 => by omega, fun _ => rfl⟩
  | succ m ih =>
    intro x
    unfold snkF
    by_cases z : snkI L x (lN0 L) 0 = true
    · rw [if_pos z, ih (x + 1)]
      constructor
      · intro h y h1 h2
        by_cases e : y = x
        · rw [e]; exact z
        · exact h y (by omega) (by omega)
      · intro h y h1 h2
        exact h y (by omega) (by omega)
    · rw [if_neg z]
      exact ⟨fun q => (by cases q), fun h => absurd (h x (by omega) (by omega)) z⟩
def snR (L : LB) : Bool := allF (fun a => allF (fun b => !(decide (1 < pbN L a b) && decide (pop (wd L a ^^^ wd L b) < 2))) a 0) (shN L) 0
theorem snR_iff (L : LB) : snR L = true ↔ ∀ a b, b < a → a < shN L → ¬ (1 < pbN L a b ∧ pop (wd L a ^^^ wd L b) < 2) := by
  unfold snR
  rw [allF_iff]
  constructor
  · intro h a b h1 h2 h3
    have q := (allF_iff _ _ _).mp (h a (by omega) (by omega)) b (by omega) (by omega)
    rw [decide_eq_true h3.1, decide_eq_true h3.2] at q
    cases q
  · intro h a _ h2
    refine (allF_iff _ _ _).mpr (fun b _ h3 => ?_)
    have q := h a b (by omega) (by omega)
    by_cases z1 : 1 < pbN L a b
    · by_cases z2 : pop (wd L a ^^^ wd L b) < 2
      · exact absurd ⟨z1, z2⟩ q
      · rw [decide_eq_false z2, Bool.and_false]; rfl
    · rw [decide_eq_false z1]; rfl
theorem snk_eq {L : LB} (hw : wf0 L) (hc : clnB L = true) : snkF L (shN L) 0 = snR L := by
  refine bool_eq ?_
  rw [snkF_iff, snR_iff]
  have h8 := hw.1
  constructor
  · intro h a b h1 h2 ⟨h3, h4⟩
    have wa := wd_lt hw a
    have wb := wd_lt hw b
    have wx : wd L a ^^^ wd L b < 2 ^ lN0 L := Nat.xor_lt_two_pow wa wb
    have wx2 : wd L a ^^^ wd L b < 256 := Nat.lt_of_lt_of_le wx (pow8 h8)
    rcases pop1 _ wx2 h4 with e | e
    · exact absurd (xor_0 e).symm ((cln_i hw).mp hc b a h1 h2)
    · have hx : lowN 8 (wd L a ^^^ wd L b) < lN0 L := by
        rw [e] at wx
        exact (Nat.pow_lt_pow_iff_right (by omega)).mp wx
      have q := (snkI_iff L a _ _).mp (h a (by omega) (by omega)) (lowN 8 (wd L a ^^^ wd L b)) (by omega) (by omega)
      rw [← e, ← Nat.xor_assoc, Nat.xor_self, Nat.zero_xor] at q
      obtain ⟨u1, u2⟩ := lst_u hw hc (b := b) (by omega)
      rw [u2] at q
      exact q ⟨u1, h3⟩
  · intro h p _ h2
    refine (snkI_iff L p _ _).mpr (fun x _ hx ⟨h3, h4⟩ => ?_)
    obtain ⟨l1, l2⟩ := lstP_lt L (wd L p ^^^ 2 ^ x) (shN L) h3
    have px := popP x (by omega)
    have ex : wd L p ^^^ wd L (lstP L (wd L p ^^^ 2 ^ x) (shN L)) = 2 ^ x := by
      rw [l2, ← Nat.xor_assoc, Nat.xor_self, Nat.zero_xor]
    rcases Nat.lt_trichotomy (lstP L (wd L p ^^^ 2 ^ x) (shN L)) p with z | z | z
    · exact h p _ z (by omega) ⟨h4, by rw [ex]; omega⟩
    · rw [z, Nat.xor_self] at ex
      have := Nat.two_pow_pos x
      omega
    · refine h _ p z l1 ⟨by rw [pb_sym]; exact h4, ?_⟩
      rw [Nat.xor_comm, ex]; omega
/-- spread -/
theorem frI_iff {L : LB} {i u k : Nat} : ∀ m j f, frI L i m j f u < k ↔ f u < k ∧ ∀ y, j ≤ y → y < j + m → pop (wd L i ^^^ wd L y) = u → pbN L i y < k := by
  intro m
  induction m with
  | zero => intro j f; exact ⟨fun h => ⟨h, fun y h1 h2 => by omega⟩, fun h => h.1⟩
  | succ m ih =>
    intro j f
    show frI L i m (j + 1) (upM f (pop (wd L i ^^^ wd L j)) (pbN L i j)) u < k ↔ _
    rw [ih]
    have e : upM f (pop (wd L i ^^^ wd L j)) (pbN L i j) u < k ↔ f u < k ∧ (pop (wd L i ^^^ wd L j) = u → pbN L i j < k) := by
      unfold upM
      by_cases z : u = pop (wd L i ^^^ wd L j)
      · rw [if_pos z]
        exact ⟨fun h => ⟨by omega, fun _ => by omega⟩, fun ⟨h1, h2⟩ => by have := h2 z.symm; omega⟩
      · rw [if_neg z]
        exact ⟨fun h => ⟨h, fun q => absurd q.symm z⟩, fun h => h.1⟩
    rw [e]
    constructor
    · intro ⟨⟨h1, h2⟩, h3⟩
      refine ⟨h1, fun y a b c => ?_⟩
      by_cases q : y = j
      · rw [q] at c ⊢; exact h2 c
      · exact h3 y (by omega) (by omega) c
    · intro ⟨h1, h2⟩
      exact ⟨⟨h1, fun c => h2 j (by omega) (by omega) c⟩, fun y a b c => h2 y (by omega) (by omega) c⟩
theorem frO_iff {L : LB} {u k : Nat} : ∀ m i f, i + m = shN L → (frO L m i f u < k ↔ f u < k ∧ ∀ x y, i ≤ x → x < y → y < shN L → pop (wd L x ^^^ wd L y) = u → pbN L x y < k) := by
  intro m
  induction m with
  | zero => intro i f hi; exact ⟨fun h => ⟨h, fun x y h1 h2 h3 => by omega⟩, fun h => h.1⟩
  | succ m ih =>
    intro i f hi
    show frO L m (i + 1) (frI L i (shN L - (i + 1)) (i + 1) f) u < k ↔ _
    rw [ih (i + 1) _ (by omega), frI_iff]
    constructor
    · intro ⟨⟨h1, h2⟩, h3⟩
      refine ⟨h1, fun x y a b c e => ?_⟩
      by_cases q : x = i
      · rw [q] at b e ⊢; exact h2 y (by omega) (by omega) e
      · exact h3 x y (by omega) b c e
    · intro ⟨h1, h2⟩
      exact ⟨⟨h1, fun y a b c => h2 i y (by omega) (by omega) (by omega) c⟩, fun x y a b c e => h2 x y (by omega) b c e⟩
theorem spH_iff {f : Nat → Nat} {k : Nat} : ∀ m u, spH f k m u = true ↔ ∀ v, u ≤ v → v < u + m → f v < k := by
  intro m
  induction m with
  | zero => intro u; exact ⟨fun _ v h1 h2 => by omega, fun _ => rfl⟩
  | succ m ih =>
    intro u
    unfold spH
    by_cases z : f u < k
    · rw [if_pos z, ih (u + 1)]
      constructor
      · intro h v h1 h2
        by_cases e : v = u
        · rw [e]; exact z
        · exact h v (by omega) (by omega)
      · intro h v h1 h2
        exact h v (by omega) (by omega)
    · rw [if_neg z]
      exact ⟨fun q => (by cases q), fun h => absurd (h u (by omega) (by omega)) z⟩
def spR (L : LB) (k : Nat) : Bool := allF (fun a => allF (fun b => !(decide (k ≤ pbN L a b) && decide (pop (wd L a ^^^ wd L b) < k))) a 0) (shN L) 0
theorem spR_iff (L : LB) (k : Nat) : spR L k = true ↔ ∀ a b, b < a → a < shN L → ¬ (k ≤ pbN L a b ∧ pop (wd L a ^^^ wd L b) < k) := by
  unfold spR
  rw [allF_iff]
  constructor
  · intro h a b h1 h2 h3
    have q := (allF_iff _ _ _).mp (h a (by omega) (by omega)) b (by omega) (by omega)
    rw [decide_eq_true h3.1, decide_eq_true h3.2] at q
    cases q
  · intro h a _ h2
    refine (allF_iff _ _ _).mpr (fun b _ h3 => ?_)
    have q := h a b (by omega) (by omega)
    by_cases z1 : k ≤ pbN L a b
    · by_cases z2 : pop (wd L a ^^^ wd L b) < k
      · exact absurd ⟨z1, z2⟩ q
      · rw [decide_eq_false z2, Bool.and_false]; rfl
    · rw [decide_eq_false z1]; rfl
theorem spd_eq {L : LB} {k : Nat} (hk : 1 ≤ k) : spH (frO L (shN L) 0 (fun _ => 0)) k k 0 = spR L k := by
  refine bool_eq ?_
  rw [spH_iff, spR_iff]
  constructor
  · intro h a b h1 h2 ⟨h3, h4⟩
    have q := ((frO_iff (L := L) (u := pop (wd L a ^^^ wd L b)) (k := k) (shN L) 0 (fun _ => 0) (by omega)).mp (h _ (by omega) (by omega))).2 b a (by omega) h1 h2 (by rw [Nat.xor_comm])
    rw [pb_sym] at q
    omega
  · intro h v _ hv
    refine (frO_iff (shN L) 0 (fun _ => 0) (by omega)).mpr ⟨by omega, fun x y _ b c e => ?_⟩
    have q := h y x b c
    rw [pb_sym, Nat.xor_comm, e] at q
    omega
theorem spR_1 {L : LB} (hw : wf0 L) : spR L 1 = clnB L := by
  refine bool_eq ?_
  rw [spR_iff, cln_i hw]
  constructor
  · intro h i j h1 h2 e
    refine h j i h1 h2 ⟨pb_pos h2 (by omega) (by omega), ?_⟩
    rw [e, Nat.xor_self]
    decide
  · intro h a b h1 h2 ⟨h3, h4⟩
    exact h b a h1 h2 (xor_0 (pop0 _ (xor_256 (wd_256 hw b) (wd_256 hw a)) (by rw [Nat.xor_comm]; omega)))
/-- order -/
theorem mxT_sp (L : LB) : ∀ n, (∀ o, o < n → tuN L o ≤ mxT L n) ∧ (0 < n → ∃ x, x < n ∧ tuN L x = mxT L n ∧ ∀ o, o < x → tuN L o < mxT L n) := by
  intro n
  induction n with
  | zero => exact ⟨fun o h => by omega, fun h => by omega⟩
  | succ n ih =>
    obtain ⟨i1, i2⟩ := ih
    have e : mxT L (n + 1) = max (mxT L n) (tuN L n) := rfl
    rw [e]
    refine ⟨fun o h => ?_, fun _ => ?_⟩
    · by_cases z : o = n
      · rw [z]; omega
      · have := i1 o (by omega); omega
    · by_cases z0 : n = 0
      · subst z0
        refine ⟨0, by omega, ?_, fun o h => by omega⟩
        show tuN L 0 = max 0 (tuN L 0)
        omega
      · obtain ⟨x, x1, x2, x3⟩ := i2 (by omega)
        by_cases z : mxT L n < tuN L n
        · refine ⟨n, by omega, by omega, fun o h => ?_⟩
          have := i1 o h
          omega
        · refine ⟨x, by omega, by omega, fun o h => ?_⟩
          have := x3 o h
          omega
theorem mnT_sp {L : LB} (hw : wf0 L) : ∀ n, (∀ o, o < n → mnT L n ≤ tuN L o) ∧ (0 < n → ∃ x, x < n ∧ tuN L x = mnT L n ∧ ∀ o, x < o → o < n → mnT L n < tuN L o) := by
  intro n
  induction n with
  | zero => exact ⟨fun o h => by omega, fun h => by omega⟩
  | succ n ih =>
    obtain ⟨i1, i2⟩ := ih
    have e : mnT L (n + 1) = min (mnT L n) (tuN L n) := rfl
    have h256 := tuN_le hw n
    rw [e]
    refine ⟨fun o h => ?_, fun _ => ?_⟩
    · by_cases z : o = n
      · rw [z]; omega
      · have := i1 o (by omega); omega
    · by_cases z0 : n = 0
      · subst z0
        refine ⟨0, by omega, ?_, fun o h h2 => by omega⟩
        show tuN L 0 = min 256 (tuN L 0)
        omega
      · obtain ⟨x, x1, x2, x3⟩ := i2 (by omega)
        by_cases z : tuN L n ≤ mnT L n
        · refine ⟨n, by omega, by omega, fun o h h2 => by omega⟩
        · refine ⟨x, by omega, by omega, fun o h h2 => ?_⟩
          by_cases z3 : o = n
          · rw [z3]; omega
          · have := x3 o h (by omega)
            omega
theorem cntB_all1 {p : Nat → Bool} {x : Nat} : ∀ n, x < n → p x = false → (cntB p n + 1 = n ↔ ∀ i, i < n → i ≠ x → p i = true) := by
  have full : ∀ n, (cntB p n = n ↔ ∀ i, i < n → p i = true) := by
    intro n
    induction n with
    | zero => exact ⟨fun _ i h => by omega, fun _ => rfl⟩
    | succ n ih =>
      have hle := cntB_le p n
      cases h : p n with
      | true =>
        rw [cntB_st h]
        constructor
        · intro e i hi
          by_cases z : i = n
          · rw [z]; exact h
          · exact ih.mp (by omega) i (by omega)
        · intro e
          have := ih.mpr (fun i hi => e i (by omega))
          omega
      | false =>
        rw [cntB_sf h]
        exact ⟨fun e => by omega, fun e => by have := e n (by omega); rw [h] at this; cases this⟩
  intro n
  induction n with
  | zero => intro h; omega
  | succ n ih =>
    intro hx hp
    have hle := cntB_le p n
    by_cases z : x = n
    · subst z
      rw [cntB_sf hp]
      constructor
      · intro e i hi hne
        exact (full x).mp (by omega) i (by omega)
      · intro e
        have := (full x).mpr (fun i hi => e i (by omega) (by omega))
        omega
    · cases h : p n with
      | true =>
        rw [cntB_st h]
        constructor
        · intro e i hi hne
          by_cases z2 : i = n
          · rw [z2]; exact h
          · exact (ih (by omega) hp).mp (by omega) i (by omega) hne
        · intro e
          have := (ih (by omega) hp).mpr (fun i hi hne => e i (by omega) hne)
          omega
      | false =>
        rw [cntB_sf h]
        constructor
        · intro e i hi hne
          have h1 := (full n).mp (by omega) x (by omega)
          rw [hp] at h1; cases h1
        · intro e
          have := e n (by omega) (fun q => z q.symm)
          rw [h] at this; cases this
theorem ah_self (L : LB) (x : Nat) : ahB L x x = false := by
  unfold ahB
  rw [decide_eq_false (by omega), decide_eq_false (show ¬ x < x by omega), Bool.and_false]; rfl
theorem ah_iff (L : LB) (x o : Nat) : ahB L x o = true ↔ tuN L x < tuN L o ∨ (tuN L o = tuN L x ∧ o < x) := by
  unfold ahB
  rw [Bool.or_eq_true, Bool.and_eq_true, decide_eq_true_iff, decide_eq_true_iff, decide_eq_true_iff]
theorem ordF_f {L : LB} {k : Int} : ∀ m x, (∃ y, x ≤ y ∧ y < x + m ∧ ((cntB (ahB L y) (lN0 L) : Nat) : Int) = k) → ∃ y : Nat, ordF L k m x = (y : Int) ∧ ((cntB (ahB L y) (lN0 L) : Nat) : Int) = k ∧ x ≤ y ∧ y < x + m := by
  intro m
  induction m with
  | zero => intro x ⟨y, h1, h2, _⟩; omega
  | succ m ih =>
    intro x ⟨y, h1, h2, h3⟩
    unfold ordF
    by_cases z : ((cntB (ahB L x) (lN0 L) : Nat) : Int) = k
    · rw [if_pos z]; exact ⟨x, rfl, z, by omega, by omega⟩
    · rw [if_neg z]
      obtain ⟨y', e1, e2, e3, e4⟩ := ih (x + 1) ⟨y, by
        by_cases q : y = x
        · rw [q] at h3; exact absurd h3 z
        · omega, by omega, h3⟩
      exact ⟨y', e1, e2, by omega, by omega⟩
theorem ord_0 {L : LB} (h : 0 < lN0 L) : ∃ y : Nat, ordF L 0 (lN0 L) 0 = (y : Int) ∧ y < lN0 L ∧ tuN L y = mxT L (lN0 L) := by
  obtain ⟨i1, i2⟩ := mxT_sp L (lN0 L)
  obtain ⟨x, x1, x2, x3⟩ := i2 h
  have hz : cntB (ahB L x) (lN0 L) = 0 := cntB_zero.mpr (fun o ho => by
    cases e : ahB L x o with
    | false => rfl
    | true =>
      have := (ah_iff L x o).mp e
      have h1 := i1 o ho
      rcases this with q | ⟨q1, q2⟩
      · omega
      · have := x3 o q2; omega)
  obtain ⟨y, e1, e2, e3, e4⟩ := ordF_f (L := L) (k := 0) (lN0 L) 0 ⟨x, by omega, by omega, by rw [hz]; rfl⟩
  refine ⟨y, e1, by omega, ?_⟩
  have hz2 := cntB_zero.mp (show cntB (ahB L y) (lN0 L) = 0 by omega) x x1
  have h1 := i1 y (by omega)
  by_cases q : tuN L y < tuN L x
  · have := (ah_iff L y x).mpr (Or.inl q)
    rw [hz2] at this; cases this
  · omega
theorem ord_n {L : LB} (hw : wf0 L) (h : 0 < lN0 L) : ∃ y : Nat, ordF L ((lN0 L : Nat) - 1 : Int) (lN0 L) 0 = (y : Int) ∧ y < lN0 L ∧ tuN L y = mnT L (lN0 L) := by
  obtain ⟨i1, i2⟩ := mnT_sp hw (lN0 L)
  obtain ⟨x, x1, x2, x3⟩ := i2 h
  have hz : cntB (ahB L x) (lN0 L) + 1 = lN0 L := (cntB_all1 (lN0 L) x1 (ah_self L x)).mpr (fun o ho hne => by
    refine (ah_iff L x o).mpr ?_
    have h1 := i1 o ho
    by_cases q : x < o
    · have := x3 o q ho; omega
    · omega)
  obtain ⟨y, e1, e2, e3, e4⟩ := ordF_f (L := L) (k := (lN0 L : Nat) - 1) (lN0 L) 0 ⟨x, by omega, by omega, by omega⟩
  refine ⟨y, e1, by omega, ?_⟩
  have h1 := i1 y (by omega)
  by_cases q : x = y
  · rw [← q]; exact x2
  · have := (ah_iff L y x).mp ((cntB_all1 (lN0 L) (show y < lN0 L by omega) (ah_self L y)).mp (by omega) x x1 q)
    omega
