/-! WHAT IS KNOWN OF THE MACHINE'S TABLES AND OLD CELLS -/
def Aw (w : WD) : Nat → Prop := fun q => (wH w).size ≤ q
def StrB (w : WD) (i : Int) (s : State) : Prop := va_O "java/lang/String" (wO w i) (Aw w) s (wH w) ∧ va_OF "java/lang/String" "coder" "B" (.int 0) (wO w i) (Aw w) s (wH w) ∧ ∃ v : Nat, va_OF "java/lang/String" "value" "[B" (.ref v) (wO w i) (Aw w) s (wH w) ∧ va_T .byte v (wX w i (-2)).toNat (fun j => .int (Int32.ofInt (wX w i j))) (Aw w) s (wH w)
def ScrB (w : WD) (s : State) : Prop := wX w 1 (-1) = 40 ∧ 0 ≤ wX w 1 (-2) ∧ wX w 1 (-2) < 2147483648 ∧ wO w 1 < (wH w).size ∧ ∃ xs : Nat → Int32, va_X (wO w 1) (wX w 1 (-2)).toNat xs s (wH w) ∧ ∀ j : Nat, (j : Int) < wX w 1 (-2) → xs j = Int32.ofInt (wX w 1 j)
def OldB (w : WD) (s : State) : Prop := ScrB w s ∧ (∀ i, 2 ≤ i → i < 12 → wX w i (-1) = 30 ∧ 0 ≤ wX w i (-2) ∧ wX w i (-2) < 100 ∧ (∀ j, 0 ≤ j → j < wX w i (-2) → 0 ≤ wX w i j ∧ wX w i j < 128) ∧ StrB w i s) ∧ (∀ i, 12 ≤ i → i < 32 → wX w i (-1) = -5) ∧ (∀ e ∈ scL, ∀ own tx, ownL[e.1]? = some own → strL[e.2.2]? = some tx → vk_R own e.2.1 tx (wO w e.2.2) s) ∧ va_Z "java/lang/String" "COMPACT_STRINGS" "Z" (.int 1) (Aw w) s (wH w) ∧ ∃ v : Value, (v = .null ∨ ∃ q, v = .ref q) ∧ va_Z "jdk/internal/util/Preconditions" "SIOOBE_FORMATTER" "Ljava/util/function/BiFunction;" v (Aw w) s (wH w)
def KB (w : WD) (s : State) : Prop := va_K (wD w) cls0 [(wA w 0, .int), (wA w 1, .byte), (wA w 2, .boolean), (wA w 3, .object "OneAtATime$BitList")] s ∧ OldB w s ∧ va_AO "OneAtATime$BitList" s
theorem StrB.moved {w : WD} {i : Int} {u U : State} (hv : u.vm.Alike U.vm) (h : StrB w i u) : StrB w i U := by
  obtain ⟨h1, h2, v, h3, h4⟩ := h
  exact ⟨h1.moved hv, h2.moved hv, v, h3.moved hv, h4.moved hv⟩
theorem ScrB.moved {w : WD} {u U : State} (hv : u.vm.Alike U.vm) (h : ScrB w u) : ScrB w U := by
  obtain ⟨h1, h2, h3, h4, xs, h5, h6⟩ := h
  exact ⟨h1, h2, h3, h4, xs, h5.moved hv, h6⟩
theorem KB.warm {w : WD} {u U : State} (hW : u.WarmedH U.vm) (h : KB w u) : KB w U := by
  obtain ⟨hk, ⟨h1, h2, h3, h4, h5, v, h6, h7⟩, h8⟩ := h
  exact ⟨va_K.moved hW.alike hk, ⟨h1.moved hW.alike, fun i a b => ⟨(h2 i a b).1, (h2 i a b).2.1, (h2 i a b).2.2.1, (h2 i a b).2.2.2.1, (h2 i a b).2.2.2.2.moved hW.alike⟩, h3, fun e he own tx a b => (h4 e he own tx a b).warm hW, h5.moved hW.alike, v, h6, h7.moved hW.alike⟩, h8.moved hW.alike⟩
theorem KB.same {w : WD} {u U : State} (hv : U.vm = u.vm) (h : KB w u) : KB w U := by
  obtain ⟨hk, ⟨h1, h2, h3, h4, h5, v, h6, h7⟩, h8⟩ := h
  have ha : u.vm.Alike U.vm := by rw [hv]; exact Vm.Alike.refl u.vm
  exact ⟨va_K.moved ha hk, ⟨h1.moved ha, fun i a b => ⟨(h2 i a b).1, (h2 i a b).2.1, (h2 i a b).2.2.1, (h2 i a b).2.2.2.1, (h2 i a b).2.2.2.2.moved ha⟩, h3, fun e he own tx a b => (h4 e he own tx a b).same hv, h5.moved ha, v, h6, h7.moved ha⟩, h8.moved ha⟩
/-- what holds in a body of a method of the program -/
def CX (w : WD) (q : MR) (p : Program) (s : State) (m : MethodId) (args : Array Value) (meth : Method) (c : Code) : Prop := p.tables.exec = Jvm.exec ∧ c.code = q.2.2.1 ∧ c.maxLocals = q.2.2.2.1 ∧ s.vm.findClass q.2.1.cls = some m.cls ∧ (∀ w ∈ gtb, w.before args s = true) ∧ KB w s ∧ (q.2.1.name = "<init>" → meth.name = "<init>") ∧ ownL[q.1]? = some q.2.1.cls
def brTT (f : Nat) : List (Bool × Nat) → Nat
  | [] => f
  | (b, t) :: l => bif b then t else brTT f l
theorem brs_T (K : KN) (ls st : List MV) (σ : HP) (f : Nat) : ∀ br, brs K ls st σ f br = K (brTT f br) ls st σ := by
  intro br
  induction br with
  | nil => rfl
  | cons q l ih =>
    obtain ⟨b, t⟩ := q
    cases b
    · exact ih
    · rfl
theorem brT_sw (pc : Nat) (r1 : Nat) (x : Int) : ∀ (l : List Int) (lo : Int), brTT r1 (swB x (swT pc lo l)) = if lo ≤ x ∧ x < lo + l.length then ((pc : Int) + l.getD (x - lo).toNat 0).toNat else r1 := by
  intro l
  induction l with
  | nil => intro lo; rw [if_neg (by simp)]; rfl
  | cons o l ih =>
    intro lo
    show (bif decide (x = lo) then ((pc : Int) + o).toNat else brTT r1 (swB x (swT pc (lo + 1) l))) = _
    by_cases h : x = lo
    · subst h
      rw [decide_eq_true rfl, if_pos (by simp; omega)]
      simp
    · rw [decide_eq_false h, ih]
      show (if _ then _ else _) = _
      by_cases h2 : lo + 1 ≤ x ∧ x < lo + 1 + l.length
      · rw [if_pos h2, if_pos (by simp; omega)]
        have e : (x - lo).toNat = (x - (lo + 1)).toNat + 1 := by omega
        rw [e, List.getD_cons_succ]
      · rw [if_neg h2, if_neg (by simp; omega)]
theorem brT_lk (pc : Nat) (r1 : Nat) (d x : Int) (hr : (pc : Int) + d = r1) : ∀ (l : List (Int × Int)), (l.all (fun y => decide (0 ≤ (pc : Int) + y.2))) = true → ((pc : Int) + Op.lookupswitch.offset l d x = (brTT r1 (swB x (l.map (fun y => (y.1, ((pc : Int) + y.2).toNat)))) : Nat)) := by
  intro l
  induction l with
  | nil => intro _; exact hr
  | cons o l ih =>
    intro h
    simp only [List.all_cons, Bool.and_eq_true, decide_eq_true_eq] at h
    show _ = ((bif decide (x = o.1) then ((pc : Int) + o.2).toNat else brTT r1 (swB x (l.map (fun y => (y.1, ((pc : Int) + y.2).toNat)))) : Nat) : Int)
    obtain ⟨a, b⟩ := o
    by_cases hx : x = a
    · subst hx
      rw [decide_eq_true rfl]
      show _ = (((pc : Int) + b).toNat : Int)
      rw [Int.toNat_of_nonneg h.1]
      simp [Op.lookupswitch.offset]
    · rw [decide_eq_false hx]
      show _ = ((brTT r1 (swB x (l.map (fun y => (y.1, ((pc : Int) + y.2).toNat)))) : Nat) : Int)
      rw [← ih h.2]
      simp [Op.lookupswitch.offset, hx, Ne.symm hx]
theorem idx_in {i n : Int} (h0 : 0 ≤ wr i) (h1 : wr i < n) : ¬ (Int32.ofInt i < 0 ∨ n.toNat ≤ (Int32.ofInt i).toNatClampNeg) := by
  intro h
  rcases h with h | h
  · have := Int32.lt_iff_toInt_lt.mp h
    rw [Int32.toInt_zero] at this
    unfold wr at h0
    omega
  · have e : (Int32.ofInt i).toNatClampNeg = (wr i).toNat := rfl
    rw [e] at h
    omega
theorem o32 (z : Int32) : Int32.ofInt z.toInt = z := Int32.ofInt_toInt z
theorem o64 (z : Int64) : Int64.ofInt z.toInt = z := Int64.ofInt_toInt z
theorem wr_lt (x y : Int) : wr x < wr y ↔ Int32.ofInt x < Int32.ofInt y := Int32.lt_iff_toInt_lt.symm
theorem wr_le (x y : Int) : wr x ≤ wr y ↔ Int32.ofInt x ≤ Int32.ofInt y := Int32.le_iff_toInt_le.symm
theorem wr_eq (x y : Int) : wr x = wr y ↔ Int32.ofInt x = Int32.ofInt y := Int32.toInt_inj
