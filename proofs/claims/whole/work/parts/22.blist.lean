/-! LISTS OF BITS: what they are, how a BitList holds one -/
def pop (n : Nat) : Nat := (List.range 16).foldl (fun a i => a + n / 2 ^ i % 2) 0
/-- bits, lowest level, highest level, start, steps -/
abbrev LB : Type := Nat × Nat × Nat × Nat × List Nat
abbrev lN0 (L : LB) : Nat := L.1
abbrev lA (L : LB) : Nat := L.2.1
abbrev lB (L : LB) : Nat := L.2.2.1
abbrev lS (L : LB) : Nat := L.2.2.2.1
abbrev lT (L : LB) : List Nat := L.2.2.2.2
def wdL : Nat → List Nat → Nat → Nat
  | s, _, 0 => s
  | s, [], _ + 1 => s
  | s, b :: l, i + 1 => wdL (s ^^^ 2 ^ b) l i
abbrev wd (L : LB) (i : Nat) : Nat := wdL (lS L) (lT L) i
theorem wdL_succ : ∀ (l : List Nat) (s i : Nat) (b : Nat), l[i]? = some b → wdL s l (i + 1) = wdL s l i ^^^ 2 ^ b := by
  intro l
  induction l with
  | nil => intro s i b h; cases h
  | cons c l ih =>
    intro s i b h
    match i, h with
    | 0, h => cases h; cases l <;> rfl
    | i + 1, h => exact ih (s ^^^ 2 ^ c) i b (by simpa using h)
theorem wdL_lt {N : Nat} : ∀ (l : List Nat) (s i : Nat), s < 2 ^ N → (∀ b ∈ l, b < N) → wdL s l i < 2 ^ N := by
  intro l
  induction l with
  | nil => intro s i h _; cases i <;> exact h
  | cons c l ih =>
    intro s i h hb
    match i with
    | 0 => exact h
    | i + 1 => exact ih _ i (Nat.xor_lt_two_pow h (Nat.pow_lt_pow_right (by omega) (hb c List.mem_cons_self))) (fun b hb' => hb b (List.mem_cons_of_mem _ hb'))
/-- what holds of any BitList's numbers -/
def wf0 (L : LB) : Prop := lN0 L ≤ 8 ∧ lA L ≤ 8 ∧ lB L ≤ 8 ∧ lS L < 2 ^ lN0 L ∧ (lT L).length ≤ 256 ∧ ∀ b ∈ lT L, b < lN0 L
/-- a list that a slot has -/
def wfL (L : LB) : Prop := wf0 L ∧ 1 ≤ lN0 L ∧ lA L ≤ lB L ∧ lB L ≤ lN0 L
theorem wd_lt {L : LB} (h : wf0 L) (i : Nat) : wd L i < 2 ^ lN0 L := wdL_lt _ _ i h.2.2.2.1 h.2.2.2.2.2
theorem pow8 {n : Nat} (h : n ≤ 8) : 2 ^ n ≤ 256 := by
  have := Nat.pow_le_pow_right (show 0 < 2 by decide) h
  exact this
theorem wd_256 {L : LB} (h : wf0 L) (i : Nat) : wd L i < 256 := Nat.lt_of_lt_of_le (wd_lt h i) (pow8 h.1)
def blm (σ : HP) (b : Int) : Prop := 32 ≤ b ∧ b + 2 < σ (-1) 0 ∧ σ b (-1) = 0 ∧ σ b 0 = b + 1 ∧ σ b 1 = b + 2 ∧ σ (b + 1) (-1) = 20 ∧ σ (b + 1) (-2) = 256 ∧ σ (b + 2) (-1) = 20 ∧ σ (b + 2) (-2) = 257
def blr (σ : HP) (b : Int) (L : LB) : Prop := blm σ b ∧ σ b 3 = lN0 L ∧ σ b 4 = lA L ∧ σ b 5 = lB L ∧ σ b 6 = ((lT L).length : Nat) ∧ (∀ (i x : Nat), (lT L)[i]? = some x → σ (b + 1) i = x) ∧ ∀ i : Nat, i ≤ (lT L).length → σ (b + 2) i = (wd L i : Nat)
def isLp (L : LB) : Prop := 0 < (lT L).length ∧ wd L (lT L).length = wd L 0
def lpB (L : LB) : Bool := decide (0 < (lT L).length) && decide (wd L (lT L).length = wd L 0)
def shN (L : LB) : Nat := bif lpB L then (lT L).length else (lT L).length + 1
def inSc (L : LB) (w : Nat) : Bool := decide (lA L ≤ pop w) && decide (pop w ≤ lB L)
def b2i (b : Bool) : Int := bif b then 1 else 0
theorem pop_le : ∀ n : Nat, n < 256 → pop n ≤ 8 := by decide +kernel
def bc1 (x : Int) : Int := x - i_and (i_ushr x 1) 1431655765
def bc2 (x : Int) : Int := i_and x 858993459 + i_and (i_ushr x 2) 858993459
def bc3 (x : Int) : Int := i_and (x + i_ushr x 4) 252645135
def bc4 (x : Int) : Int := x + i_ushr x 8
def bc5 (x : Int) : Int := x + i_ushr x 16
def bcX (x : Int) : Int := i_and (bc5 (bc4 (bc3 (bc2 (bc1 x))))) 63
theorem bcX_ok : ∀ n : Nat, n < 256 → bcX n = (pop n : Nat) := by decide +kernel
theorem ob1 {d : Nat} (h : 1 ≤ d) : ∃ e, d = e + 1 := ⟨d - 1, by omega⟩
/-- Integer.bitCount -/
theorem s50 {d : Nat} (h : 1 ≤ d) (σ : HP) {n : Nat} (hn : n < 256) : clR PG0 MX d 50 [vI n] σ = some (((pop n : Nat) : Int), σ) := by
  obtain ⟨d, rfl⟩ := ob1 h
  rw [ce_50, sg_50_0, ← bcX_ok n hn]
  rfl
/-- comesRound -/
theorem s43 {d : Nat} (h : 1 ≤ d) {σ : HP} {b : Int} {L : LB} (hb : blr σ b L) (hw : wf0 L) : clR PG0 MX d 43 [vR b] σ = some (b2i (lpB L), σ) := by
  obtain ⟨d, rfl⟩ := ob1 h
  obtain ⟨⟨m1, m2, m3, m4, m5, m6, m7, m8, m9⟩, f3, f4, f5, f6, fs, fw⟩ := hb
  have hl := hw.2.2.2.2.1
  rw [ce_43, sg_43_0]
  have e6 : wr (σ b 6) = ((lT L).length : Nat) := by rw [f6]; exact wrn (by omega)
  have e0 : wr 0 = 0 := wr_0
  simp only [m5, e6, e0]
  refine step_t (by omega) ?_
  by_cases h0 : (lT L).length = 0
  · refine step_t (by omega) ?_
    unfold lpB
    rw [decide_eq_false (by omega)]
    rfl
  · refine step_f (by omega) ?_
    repeat (refine step_t (by omega) ?_)
    have w1 := fw (lT L).length (Nat.le_refl _)
    have w0 := fw 0 (Nat.zero_le _)
    have w0 : σ (b + 2) 0 = (wd L 0 : Nat) := w0
    have q1 := wd_256 hw (lT L).length
    have q0 := wd_256 hw 0
    rw [w1, w0, wrn (by omega), wrn (by omega)]
    unfold lpB
    rw [decide_eq_true (show 0 < (lT L).length by omega)]
    by_cases he : wd L (lT L).length = wd L 0
    · rw [he, decide_eq_true rfl]
      refine step_f (by omega) ?_
      rfl
    · rw [decide_eq_false he]
      refine step_t (by omega) ?_
      rfl
