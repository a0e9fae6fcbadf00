/-! SEARCHES: what they come to -/
abbrev SQ : Type := Int × List Nat × Nat
def scB (fr : List Nat → Nat → Bool) (rec : List Nat → Nat → SQ) (T : Nat) (l : List Nat) : Nat → Nat → Nat → SQ
  | 0, _, t => (0, [], t)
  | m + 1, k, t => if fr l k = true then (if t = T then (-3, [], t) else if (rec (l ++ [k]) (t + 1)).1 = 0 then scB fr rec T l m (k + 1) (rec (l ++ [k]) (t + 1)).2.2 else rec (l ++ [k]) (t + 1)) else scB fr rec T l m (k + 1) t
def sch (fr : List Nat → Nat → Bool) (en : List Nat → Option (List Nat)) (N T : Nat) : Nat → List Nat → Nat → SQ
  | 0, l, t => match en l with
    | some l' => (1, l', t)
    | none => (0, [], t)
  | m + 1, l, t => scB fr (sch fr en N T m) T l N 0 t
theorem scB_n {fr : List Nat → Nat → Bool} {rec : List Nat → Nat → SQ} {T : Nat} {l : List Nat} {t : Nat} : ∀ (m k : Nat), nxI (fr l) m k = -1 → scB fr rec T l m k t = (0, [], t) := by
  intro m
  induction m with
  | zero => intro k _; rfl
  | succ m ih =>
    intro k h
    have h : (if fr l k = true then (k : Int) else nxI (fr l) m (k + 1)) = -1 := h
    by_cases z : fr l k = true
    · rw [if_pos z] at h; omega
    · rw [if_neg z] at h
      show (if fr l k = true then _ else _) = _
      rw [if_neg z]
      exact ih (k + 1) h
theorem nxI_c {f : Nat → Bool} : ∀ (m k : Nat), nxI f m k = -1 ∨ ∃ j : Nat, nxI f m k = j ∧ k ≤ j ∧ j < k + m ∧ f j = true := by
  intro m
  induction m with
  | zero => intro k; exact Or.inl rfl
  | succ m ih =>
    intro k
    by_cases z : f k = true
    · refine Or.inr ⟨k, ?_, by omega, by omega, z⟩
      show (if f k = true then (k : Int) else nxI f m (k + 1)) = _
      rw [if_pos z]
    · have e : nxI f (m + 1) k = nxI f m (k + 1) := by
        show (if f k = true then (k : Int) else nxI f m (k + 1)) = _
        rw [if_neg z]
      rw [e]
      rcases ih (k + 1) with q | ⟨j, j1, j2, j3, j4⟩
      · exact Or.inl q
      · exact Or.inr ⟨j, j1, by omega, by omega, j4⟩
theorem scB_s {fr : List Nat → Nat → Bool} {rec : List Nat → Nat → SQ} {T : Nat} {l : List Nat} {t : Nat} : ∀ (m k j : Nat), nxI (fr l) m k = (j : Int) → scB fr rec T l m k t = if t = T then (-3, [], t) else if (rec (l ++ [j]) (t + 1)).1 = 0 then scB fr rec T l (k + m - (j + 1)) (j + 1) (rec (l ++ [j]) (t + 1)).2.2 else rec (l ++ [j]) (t + 1) := by
  intro m
  induction m with
  | zero => intro k j h; have h : (-1 : Int) = j := h; omega
  | succ m ih =>
    intro k j h
    have h : (if fr l k = true then (k : Int) else nxI (fr l) m (k + 1)) = j := h
    by_cases z : fr l k = true
    · rw [if_pos z] at h
      have : k = j := by omega
      subst this
      show (if fr l k = true then _ else _) = _
      rw [if_pos z, show k + (m + 1) - (k + 1) = m by omega]
    · rw [if_neg z] at h
      show (if fr l k = true then _ else _) = _
      rw [if_neg z, ih (k + 1) j h, show k + 1 + m - (j + 1) = k + (m + 1) - (j + 1) by omega]
theorem nxI_co {f g : Nat → Bool} : ∀ (m k : Nat), (∀ j, k ≤ j → j < k + m → f j = g j) → nxI f m k = nxI g m k := by
  intro m
  induction m with
  | zero => intro k _; rfl
  | succ m ih =>
    intro k h
    show (if f k = true then (k : Int) else nxI f m (k + 1)) = (if g k = true then (k : Int) else nxI g m (k + 1))
    rw [h k (by omega) (by omega), ih (k + 1) (fun j h1 h2 => h j (by omega) (by omega))]
/-! for lists of all words of the scope -/
abbrev pth (L : LB) (l : List Nat) : LB := (lN0 L, lA L, lB L, lS L, l)
def inP (L : LB) (l : List Nat) (w : Nat) : Bool := decide (0 < cntB (fun i => decide (wd (pth L l) i = w)) (l.length + 1))
theorem inP_t {L : LB} {l : List Nat} {w : Nat} : inP L l w = true ↔ ∃ i, i < l.length + 1 ∧ wd (pth L l) i = w := by
  unfold inP
  rw [decide_eq_true_iff, ← cntB_pos]
  constructor
  · rintro ⟨i, h1, h2⟩; exact ⟨i, h1, of_decide_eq_true h2⟩
  · rintro ⟨i, h1, h2⟩; exact ⟨i, h1, decide_eq_true h2⟩
theorem len_a (l : List Nat) (k : Nat) : (l ++ [k]).length = l.length + 1 := by rw [List.length_append]; rfl
theorem wd_a {L : LB} {l : List Nat} {k i : Nat} (h : i ≤ l.length) : wd (pth L (l ++ [k])) i = wd (pth L l) i := wd_push (L := pth L l) h
theorem wd_e {L : LB} {l : List Nat} {k : Nat} : wd (pth L (l ++ [k])) (l.length + 1) = wd (pth L l) l.length ^^^ 2 ^ k := wd_pushE (pth L l) k
theorem inP_a {L : LB} {l : List Nat} {k w : Nat} : inP L (l ++ [k]) w = if w = wd (pth L l) l.length ^^^ 2 ^ k then true else inP L l w := by
  by_cases z : w = wd (pth L l) l.length ^^^ 2 ^ k
  · rw [if_pos z, inP_t]
    exact ⟨l.length + 1, by rw [len_a]; omega, by rw [wd_e]; exact z.symm⟩
  · rw [if_neg z]
    cases q : inP L l w with
    | true =>
      obtain ⟨i, h1, h2⟩ := inP_t.mp q
      exact inP_t.mpr ⟨i, by rw [len_a]; omega, by rw [wd_a (by omega)]; exact h2⟩
    | false =>
      cases q2 : inP L (l ++ [k]) w with
      | false => rfl
      | true =>
        obtain ⟨i, h1, h2⟩ := inP_t.mp q2
        rw [len_a] at h1
        by_cases z2 : i = l.length + 1
        · rw [z2, wd_e] at h2
          exact absurd h2.symm z
        · rw [wd_a (by omega)] at h2
          rw [inP_t.mpr ⟨i, by omega, h2⟩] at q
          exact q
theorem inP_0 {L : LB} {w : Nat} : inP L [] w = if w = lS L then true else false := by
  by_cases z : w = lS L
  · rw [if_pos z]
    exact inP_t.mpr ⟨0, by decide, by rw [wd_0]; exact z.symm⟩
  · rw [if_neg z]
    cases q : inP L [] w with
    | false => rfl
    | true =>
      obtain ⟨i, h1, h2⟩ := inP_t.mp q
      have h1 : i < 0 + 1 := h1
      have : i = 0 := by omega
      rw [this, wd_0] at h2
      exact absurd h2.symm z
def brF (L : LB) (l : List Nat) (w : Nat) : Bool := !inSc L w || inP L l w
def frF (L : LB) (law : Int) (l : List Nat) (k : Nat) : Bool := frS (pth L l) (brF L l) law k
def enF (L : LB) (law : Int) (l : List Nat) : Option (List Nat) := if law = 1 ∨ law = 3 then (if pop (wd (pth L l) l.length ^^^ lS L) = 1 then (if law = 3 ∧ oppB (pth L (l ++ [lowN 31 (wd (pth L l) l.length ^^^ lS L)])) = false then none else some (l ++ [lowN 31 (wd (pth L l) l.length ^^^ lS L)])) else none) else some l
/-- the words of a path are unlike, and of the scope -/
def VP (L : LB) (l : List Nat) : Prop := (∀ i, i ≤ l.length → inSc L (wd (pth L l) i) = true) ∧ ∀ i j, i < j → j ≤ l.length → wd (pth L l) i ≠ wd (pth L l) j
theorem frF_t {L : LB} {law : Int} {l : List Nat} {k : Nat} (h : frF L law l k = true) : inSc L (wd (pth L l) l.length ^^^ 2 ^ k) = true ∧ inP L l (wd (pth L l) l.length ^^^ 2 ^ k) = false := by
  unfold frF frS at h
  rw [Bool.and_eq_true] at h
  have h := h.1
  have h : (!brF L l (wd (pth L l) l.length ^^^ 2 ^ k)) = true := h
  unfold brF at h
  cases q1 : inSc L (wd (pth L l) l.length ^^^ 2 ^ k) with
  | false => rw [q1] at h; cases h
  | true =>
    cases q2 : inP L l (wd (pth L l) l.length ^^^ 2 ^ k) with
    | false => exact ⟨rfl, rfl⟩
    | true => rw [q1, q2] at h; cases h
theorem VP.push {L : LB} {law : Int} {l : List Nat} {k : Nat} (h : VP L l) (hf : frF L law l k = true) : VP L (l ++ [k]) := by
  obtain ⟨f1, f2⟩ := frF_t hf
  refine ⟨fun i hi => ?_, fun i j hi hj => ?_⟩
  · rw [len_a] at hi
    by_cases z : i = l.length + 1
    · rw [z, wd_e]; exact f1
    · rw [wd_a (by omega)]; exact h.1 i (by omega)
  · rw [len_a] at hj
    by_cases z : j = l.length + 1
    · rw [z, wd_e, wd_a (by omega)]
      intro q
      rw [inP_t.mpr ⟨i, by omega, q⟩] at f2
      cases f2
    · rw [wd_a (by omega), wd_a (by omega)]; exact h.2 i j hi (by omega)
theorem cnt_inj {p : Nat → Bool} : ∀ (M n : Nat) (f : Nat → Nat), (∀ i, i < n → f i < M ∧ p (f i) = true) → (∀ i j, i < j → j < n → f i ≠ f j) → n ≤ cntB p M := by
  intro M
  induction M with
  | zero =>
    intro n f h1 _
    by_cases z : n = 0
    · rw [z]; exact Nat.zero_le _
    · have := (h1 0 (by omega)).1; omega
  | succ M ih =>
    intro n f h1 h2
    by_cases z : ∃ i, i < n ∧ f i = M
    · obtain ⟨i0, i1, i2⟩ := z
      have hp := (h1 i0 i1).2
      rw [i2] at hp
      rw [cntB_st hp]
      have ne : ∀ j, j < n → j ≠ i0 → f j ≠ M := fun j hj hne q => by
        rcases Nat.lt_or_gt_of_ne hne with w | w
        · exact h2 j i0 w i1 (by rw [q, i2])
        · exact h2 i0 j w hj (by rw [q, i2])
      have := ih (n - 1) (fun i => if i < i0 then f i else f (i + 1)) (fun i hi => by
        by_cases w : i < i0
        · rw [if_pos w]
          have a := h1 i (by omega)
          have b := ne i (by omega) (by omega)
          exact ⟨by omega, a.2⟩
        · rw [if_neg w]
          have a := h1 (i + 1) (by omega)
          have b := ne (i + 1) (by omega) (by omega)
          exact ⟨by omega, a.2⟩) (fun i j hi hj => by
        by_cases w : i < i0
        · rw [if_pos w]
          by_cases w2 : j < i0
          · rw [if_pos w2]; exact h2 i j hi (by omega)
          · rw [if_neg w2]; exact h2 i (j + 1) (by omega) (by omega)
        · rw [if_neg w, if_neg (by omega)]; exact h2 (i + 1) (j + 1) (by omega) (by omega))
      omega
    · have := ih n f (fun i hi => ⟨by
        have a := (h1 i hi).1
        have b : f i ≠ M := fun q => z ⟨i, hi, q⟩
        omega, (h1 i hi).2⟩) h2
      rw [cntB_s]
      omega
theorem VP.len {L : LB} {l : List Nat} (h : VP L l) (hw : wf0 (pth L l)) : l.length + 1 ≤ cntB (inSc L) (2 ^ lN0 L) :=
  cnt_inj (2 ^ lN0 L) (l.length + 1) (fun i => wd (pth L l) i) (fun i hi => ⟨wd_lt hw i, h.1 i (by omega)⟩) (fun i j hi hj => h.2 i j hi (by omega))
theorem VP.end {L : LB} {law : Int} {l : List Nat} (h : VP L l) (hw : wf0 (pth L l)) (hl : l.length < 256) (e : l.length + 1 = cntB (inSc L) (2 ^ lN0 L)) {k : Nat} (hk : k < lN0 L) : frF L law l k = false := by
  cases q : frF L law l k with
  | false => rfl
  | true =>
    have h2 := (h.push q).len (wf_push (L := pth L l) hw hk hl)
    rw [len_a] at h2
    omega
theorem VP.st {L : LB} (h : inSc L (lS L) = true) : VP L [] := by
  refine ⟨fun i hi => ?_, fun i j hi hj => ?_⟩
  · have hi : i ≤ 0 := hi
    have : i = 0 := by omega
    rw [this, wd_0]; exact h
  · have hj : j ≤ 0 := hj
    omega
theorem brF_a {L : LB} {l : List Nat} {k : Nat} (w : Nat) : brF L (l ++ [k]) w = if w = wd (pth L l) l.length ^^^ 2 ^ k then true else brF L l w := by
  unfold brF
  rw [inP_a]
  by_cases z : w = wd (pth L l) l.length ^^^ 2 ^ k
  · rw [if_pos z, if_pos z, Bool.or_true]
  · rw [if_neg z, if_neg z]
theorem VP.last {L : LB} {l : List Nat} {k : Nat} (h : VP L (l ++ [k])) : inSc L (wd (pth L l) l.length ^^^ 2 ^ k) = true ∧ inP L l (wd (pth L l) l.length ^^^ 2 ^ k) = false := by
  refine ⟨?_, ?_⟩
  · have := h.1 (l.length + 1) (by rw [len_a]; omega)
    rw [wd_e] at this
    exact this
  · cases q : inP L l (wd (pth L l) l.length ^^^ 2 ^ k) with
    | false => rfl
    | true =>
      obtain ⟨i, h1, h2⟩ := inP_t.mp q
      have := h.2 i (l.length + 1) (by omega) (by rw [len_a]; omega)
      rw [wd_e, wd_a (by omega)] at this
      exact absurd h2 this
theorem brF_b {L : LB} {l : List Nat} {k : Nat} (hv : VP L (l ++ [k])) (w : Nat) : brF L l w = if w = wd (pth L l) l.length ^^^ 2 ^ k then false else brF L (l ++ [k]) w := by
  obtain ⟨f1, f2⟩ := hv.last
  by_cases z : w = wd (pth L l) l.length ^^^ 2 ^ k
  · rw [if_pos z, z]
    unfold brF
    rw [f1, f2]; rfl
  · rw [if_neg z, brF_a, if_neg z]
