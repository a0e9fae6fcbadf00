/-! HOW THE SMALL MACHINE LIES IN THE MACHINE -/
/-- classes' numbers and slots; array classes; the heap at the law's start; where its old cells lie; what they hold -/
abbrev WD : Type := va_G × (Nat → ClassId) × Heap × (Int → Nat) × HP
abbrev wD (w : WD) : va_G := w.1
abbrev wA (w : WD) : Nat → ClassId := w.2.1
abbrev wH (w : WD) : Heap := w.2.2.1
abbrev wO (w : WD) : Int → Nat := w.2.2.2.1
abbrev wX (w : WD) : HP := w.2.2.2.2
def adr (w : WD) (a : Int) : Nat := if a < 32 then wO w a else (wH w).size + (a - 32).toNat
def cv (w : WD) : MV → Value
  | .inl x => .int (Int32.ofInt x)
  | .inr (.inl x) => if x ≤ 0 then .null else .ref (adr w x)
  | .inr (.inr (.inl x)) => .long (Int64.ofInt x)
  | .inr (.inr (.inr _)) => .null
theorem cv_I (w : WD) (x : Int) : cv w (vI x) = .int (Int32.ofInt x) := rfl
theorem cv_L (w : WD) (x : Int) : cv w (vL x) = .long (Int64.ofInt x) := rfl
theorem cv_R0 (w : WD) {x : Int} (h : x ≤ 0) : cv w (vR x) = .null := by show (if x ≤ 0 then _ else _) = _; rw [if_pos h]
theorem cv_R (w : WD) {x : Int} (h : 0 < x) : cv w (vR x) = .ref (adr w x) := by show (if x ≤ 0 then _ else _) = _; rw [if_neg (by omega)]
theorem adr_new (w : WD) {a : Int} (h : 32 ≤ a) : adr w a = (wH w).size + (a - 32).toNat := by unfold adr; rw [if_neg (by omega)]
theorem adr_ge (w : WD) {a : Int} (h : 32 ≤ a) : (wH w).size ≤ adr w a := by rw [adr_new w h]; omega
theorem adr_inj (w : WD) {a b : Int} (ha : 32 ≤ a) (hb : 32 ≤ b) (h : adr w a = adr w b) : a = b := by rw [adr_new w ha, adr_new w hb] at h; omega
/-- a cell with the row f at an address -/
def celR (w : WD) (f : Int → Int) (q : Nat) (H : Heap) : Prop :=
  if f (-1) = 20 then H[q]? = some (arrV (wA w 0) (f (-2)).toNat (fun j => cv w (vI (f j))))
  else if f (-1) = 21 then H[q]? = some (arrV (wA w 1) (f (-2)).toNat (fun j => cv w (vI (f j))))
  else if f (-1) = 22 then H[q]? = some (arrV (wA w 2) (f (-2)).toNat (fun j => cv w (vI (f j))))
  else if f (-1) = 23 then H[q]? = some (arrV (wA w 3) (f (-2)).toNat (fun j => cv w (vR (f j))))
  else 0 ≤ f (-1) ∧ ∃ r : vw_C, cls0[(f (-1)).toNat]? = some r ∧ t_OB q ((wD w).1 (f (-1)).toNat) r.2.2 ((wD w).2 (f (-1)).toNat) H (fun k => cv w (tagV (fkd (f (-1)).toNat k) (f k)))
def Rel (w : WD) (σ : HP) (H : Heap) : Prop := 32 ≤ σ (-1) 0 ∧ H.size = (wH w).size + (σ (-1) 0 - 32).toNat ∧ (∀ a, 32 ≤ a → a < σ (-1) 0 → celR w (σ a) (adr w a) H) ∧ (∀ q, q < (wH w).size → H[q]? = (wH w)[q]?) ∧ ∀ a j, 0 < a → a < 32 → σ a j = wX w a j
theorem celR.kept {w : WD} {f : Int → Int} {q : Nat} {H H1 : Heap} (h : celR w f q H) (hq : H1[q]? = H[q]?) : celR w f q H1 := by
  unfold celR at h ⊢
  split
  · rw [if_pos ‹_›] at h; exact hq.trans h
  · rw [if_neg ‹_›] at h
    split
    · rw [if_pos ‹_›] at h; exact hq.trans h
    · rw [if_neg ‹_›] at h
      split
      · rw [if_pos ‹_›] at h; exact hq.trans h
      · rw [if_neg ‹_›] at h
        split
        · rw [if_pos ‹_›] at h; exact hq.trans h
        · rw [if_neg ‹_›] at h
          obtain ⟨h0, r, h1, h2⟩ := h
          exact ⟨h0, r, h1, h2.kept hq⟩
theorem celR_20 {w : WD} {f : Int → Int} {q : Nat} {H : Heap} (h : f (-1) = 20) : celR w f q H ↔ H[q]? = some (arrV (wA w 0) (f (-2)).toNat (fun j => cv w (vI (f j)))) := by unfold celR; rw [if_pos h]
theorem celR_21 {w : WD} {f : Int → Int} {q : Nat} {H : Heap} (h : f (-1) = 21) : celR w f q H ↔ H[q]? = some (arrV (wA w 1) (f (-2)).toNat (fun j => cv w (vI (f j)))) := by unfold celR; rw [if_neg (by omega), if_pos h]
theorem celR_22 {w : WD} {f : Int → Int} {q : Nat} {H : Heap} (h : f (-1) = 22) : celR w f q H ↔ H[q]? = some (arrV (wA w 2) (f (-2)).toNat (fun j => cv w (vI (f j)))) := by unfold celR; rw [if_neg (by omega), if_neg (by omega), if_pos h]
theorem celR_23 {w : WD} {f : Int → Int} {q : Nat} {H : Heap} (h : f (-1) = 23) : celR w f q H ↔ H[q]? = some (arrV (wA w 3) (f (-2)).toNat (fun j => cv w (vR (f j)))) := by unfold celR; rw [if_neg (by omega), if_neg (by omega), if_neg (by omega), if_pos h]
theorem celR_ob {w : WD} {f : Int → Int} {q : Nat} {H : Heap} {c : Nat} {r : vw_C} (h : f (-1) = c) (hc : cls0[c]? = some r) : celR w f q H ↔ t_OB q ((wD w).1 c) r.2.2 ((wD w).2 c) H (fun k => cv w (tagV (fkd c k) (f k))) := by
  have hl : c < 10 := (List.getElem?_eq_some_iff.mp hc).1
  have e : (f (-1)).toNat = c := by omega
  unfold celR
  rw [if_neg (by omega), if_neg (by omega), if_neg (by omega), if_neg (by omega), e]
  constructor
  · intro ⟨h0, r', h1, h2⟩
    rw [hc] at h1
    cases h1
    exact h2
  · intro h2
    exact ⟨by omega, r, hc, h2⟩
theorem celR_no {w : WD} {f : Int → Int} {q : Nat} {H : Heap} (h : celR w f q H) : f (-1) < 24 := by
  unfold celR at h
  split at h
  · omega
  · split at h
    · omega
    · split at h
      · omega
      · split at h
        · omega
        · obtain ⟨h0, r, h1, h2⟩ := h
          have hl : (f (-1)).toNat < 10 := (List.getElem?_eq_some_iff.mp h1).1
          omega
theorem up_row (σ : HP) (a j x : Int) : up σ a j x a = fun k => if k = j then x else σ a k := by
  funext k
  simp [up]
theorem up_off (σ : HP) {a b : Int} (j x : Int) (h : b ≠ a) : up σ a j x b = σ b := by
  funext k
  simp [up, h]
theorem Rel.put {w : WD} {σ : HP} {H H1 : Heap} {a j x : Int} (hR : Rel w σ H) (ha : 32 ≤ a) (hz : H1.size = H.size) (ho : ∀ q, q ≠ adr w a → H1[q]? = H[q]?) (hc : celR w (fun k => if k = j then x else σ a k) (adr w a) H1) : Rel w (up σ a j x) H1 := by
  obtain ⟨h1, h2, h3, h4, h5⟩ := hR
  have e : up σ a j x (-1) = σ (-1) := up_off σ j x (by omega)
  refine ⟨by rw [e]; exact h1, by rw [e, hz]; exact h2, fun b hb hb2 => ?_, fun q hq => ?_, fun b k hb hb2 => ?_⟩
  · rw [e] at hb2
    by_cases hba : b = a
    · subst hba
      rw [up_row]
      exact hc
    · rw [up_off σ j x hba]
      exact (h3 b hb hb2).kept (ho _ (fun z => hba (adr_inj w hb ha z)))
  · rw [ho q (by have := adr_ge w ha; omega)]
    exact h4 q hq
  · rw [up_off σ j x (by omega)]
    exact h5 b k hb hb2
theorem Rel.new {w : WD} {σ σ' : HP} {H H1 : Heap} (hR : Rel w σ H) (h0 : σ' (-1) 0 = σ (-1) 0 + 1) (hs : ∀ b, b ≠ σ (-1) 0 → b ≠ -1 → σ' b = σ b) (hz : H1.size = H.size + 1) (ho : ∀ q, q < H.size → H1[q]? = H[q]?) (hc : celR w (σ' (σ (-1) 0)) (adr w (σ (-1) 0)) H1) : Rel w σ' H1 := by
  obtain ⟨h1, h2, h3, h4, h5⟩ := hR
  refine ⟨by omega, by omega, fun b hb hb2 => ?_, fun q hq => ?_, fun b k hb hb2 => ?_⟩
  · by_cases hba : b = σ (-1) 0
    · rw [hba]; exact hc
    · rw [hs b hba (by omega)]
      exact (h3 b hb (by omega)).kept (ho _ (by rw [adr_new w hb]; omega))
  · rw [ho q (by omega)]
    exact h4 q hq
  · rw [hs b (by omega) (by omega)]
    exact h5 b k hb hb2
theorem Rel.adr_size {w : WD} {σ : HP} {H : Heap} (hR : Rel w σ H) : adr w (σ (-1) 0) = H.size := by rw [adr_new w hR.1, hR.2.1]
/-! locals -/
def al1 (w : WD) (i : Nat) (v : MV) : Option (Nat × Value) := match v with
  | .inr (.inr (.inr _)) => none
  | v => some (i, cv w v)
def al (w : WD) : Nat → List MV → List (Nat × Value)
  | _, [] => []
  | n, v :: l => match al1 w n v with
    | some q => q :: al w (n + 1) l
    | none => al w (n + 1) l
theorem al1_some {w : WD} {i : Nat} {v : MV} (h : v ≠ vU) : al1 w i v = some (i, cv w v) := by
  match v with
  | .inl x => rfl
  | .inr (.inl x) => rfl
  | .inr (.inr (.inl x)) => rfl
  | .inr (.inr (.inr ())) => exact absurd rfl h
theorem al_mem (w : WD) : ∀ (l : List MV) (n : Nat) (q : Nat × Value), q ∈ al w n l ↔ ∃ i v, l[i]? = some v ∧ v ≠ vU ∧ q = (n + i, cv w v) := by
  intro l
  induction l with
  | nil => intro n q; constructor
           · intro h; cases h
           · intro ⟨i, v, h, _⟩; simp at h
  | cons a l ih =>
    intro n q
    have key : (∃ i v, (a :: l)[i]? = some v ∧ v ≠ vU ∧ q = (n + i, cv w v)) ↔ (a ≠ vU ∧ q = (n, cv w a)) ∨ ∃ i v, l[i]? = some v ∧ v ≠ vU ∧ q = (n + 1 + i, cv w v) := by
      constructor
      · intro ⟨i, v, h1, h2, h3⟩
        match i, h1, h3 with
        | 0, h1, h3 => cases h1; exact Or.inl ⟨h2, h3⟩
        | i + 1, h1, h3 => exact Or.inr ⟨i, v, by simpa using h1, h2, by rw [h3]; congr 1; omega⟩
      · intro h
        rcases h with ⟨h1, h2⟩ | ⟨i, v, h1, h2, h3⟩
        · exact ⟨0, a, rfl, h1, h2⟩
        · exact ⟨i + 1, v, by simpa using h1, h2, by rw [h3]; congr 1; omega⟩
    rw [key]
    by_cases ha : a = vU
    · subst ha
      show q ∈ al w (n + 1) l ↔ _
      rw [ih]
      constructor
      · exact Or.inr
      · intro h
        rcases h with ⟨h1, _⟩ | h
        · exact absurd rfl h1
        · exact h
    · have e : al w n (a :: l) = (n, cv w a) :: al w (n + 1) l := by
        show (match al1 w n a with
          | some q => q :: al w (n + 1) l
          | none => al w (n + 1) l) = _
        rw [al1_some ha]
      rw [e, List.mem_cons, ih]
      constructor
      · intro h
        rcases h with h | h
        · exact Or.inl ⟨ha, h⟩
        · exact Or.inr h
      · intro h
        rcases h with ⟨_, h⟩ | h
        · exact Or.inl h
        · exact Or.inr h
def LR (w : WD) (nL : Nat) (ls : List MV) (arr : Array Slot) : Prop := ls.length = nL ∧ lv_has arr nL (al w 0 ls)
theorem LR.at {w : WD} {nL : Nat} {ls : List MV} {arr : Array Slot} (h : LR w nL ls arr) {i : Nat} {v : MV} (hv : ls[i]? = some v) (hn : v ≠ vU) : arr[i]? = some (.val (cv w v)) := by
  have := h.2.2.2 (i, cv w v) ((al_mem w ls 0 _).mpr ⟨i, v, hv, hn, by rw [Nat.zero_add]⟩)
  exact this
theorem clob_len (ls : List MV) (k : Nat) : (clob ls k).length = ls.length := by
  unfold clob
  split
  · rfl
  · split
    · simp
    · rfl
theorem clob_at {ls : List MV} {k i : Nat} {v : MV} (h : (clob ls k)[i]? = some v) (hv : v ≠ vU) : ls[i]? = some v ∧ ¬ (i + 1 = k ∧ ∃ x, v = vL x) := by
  unfold clob at h
  split at h
  · exact ⟨h, fun z => by omega⟩
  · rename_i j
    split at h
    · rename_i x hx
      by_cases hij : i = j
      · subst hij
        rw [List.getElem?_set_self (by exact (List.getElem?_eq_some_iff.mp hx).1)] at h
        exact absurd (Option.some.inj h).symm hv
      · rw [List.getElem?_set_ne (fun z => hij z.symm)] at h
        exact ⟨h, fun z => by omega⟩
    · rename_i hx
      refine ⟨h, fun ⟨z1, x, z2⟩ => ?_⟩
      have : i = j := by omega
      subst this
      exact hx x (by rw [h, z2])
theorem cv_cat {w : WD} {v : MV} (h : (cv w v).category = 2) : ∃ x, v = vL x := by
  match v with
  | .inl x => cases h
  | .inr (.inl x) =>
    exfalso
    by_cases hx : x ≤ 0
    · rw [cv_R0 w hx] at h; cases h
    · rw [cv_R w (by omega)] at h; cases h
  | .inr (.inr (.inl x)) => exact ⟨x, rfl⟩
  | .inr (.inr (.inr _)) => cases h
theorem LR.st1 {w : WD} {nL k : Nat} {ls l : List MV} {arr : Array Slot} {v : MV} (h : LR w nL ls arr) (hs : sto1 ls k v = some l) : k < nL ∧ (∀ arr', lv_has arr' nL ((k, cv w v) :: (al w 0 ls).filter (fun q => !(q.1 == k) && !(q.1 + 1 == k && q.2.category == 2))) → LR w nL l arr') := by
  unfold sto1 at hs
  split at hs
  · rename_i z hz
    have hk : k < nL := by rw [← h.1]; exact (List.getElem?_eq_some_iff.mp hz).1
    cases hs
    refine ⟨hk, fun arr' h' => ⟨by rw [List.length_set, clob_len]; exact h.1, h'.1, h'.2.1, fun q hq => ?_⟩⟩
    obtain ⟨i, u, h1, h2, h3⟩ := (al_mem w _ 0 q).mp hq
    subst h3
    rw [Nat.zero_add]
    by_cases hik : i = k
    · subst hik
      rw [List.getElem?_set_self (by rw [clob_len, h.1]; exact hk)] at h1
      cases h1
      exact h'.2.2 _ List.mem_cons_self
    · rw [List.getElem?_set_ne (fun z => hik z.symm)] at h1
      obtain ⟨g1, g2⟩ := clob_at h1 h2
      refine h'.2.2 (i, cv w u) (List.mem_cons_of_mem _ (List.mem_filter.mpr ⟨(al_mem w ls 0 _).mpr ⟨i, u, g1, h2, by rw [Nat.zero_add]⟩, ?_⟩))
      simp only [Bool.and_eq_true, Bool.not_eq_true', beq_eq_false_iff_ne, Bool.and_eq_false_iff]
      refine ⟨hik, ?_⟩
      by_cases hi1 : i + 1 = k
      · right
        intro hc
        exact g2 ⟨hi1, cv_cat hc⟩
      · left
        exact hi1
  · cases hs
theorem LR.st2 {w : WD} {nL k : Nat} {ls l : List MV} {arr : Array Slot} {v : MV} (h : LR w nL ls arr) (hs : sto2 ls k v = some l) : k + 1 < nL ∧ (∀ arr', lv_has arr' nL ((k, cv w v) :: (al w 0 ls).filter (fun q => !(q.1 == k) && (!(q.1 == k + 1) && !(q.1 + 1 == k && q.2.category == 2)))) → LR w nL l arr') := by
  unfold sto2 at hs
  split at hs
  · rename_i z hz
    have hk : k + 1 < nL := by rw [← h.1]; exact (List.getElem?_eq_some_iff.mp hz).1
    cases hs
    refine ⟨hk, fun arr' h' => ⟨by rw [List.length_set, List.length_set, clob_len]; exact h.1, h'.1, h'.2.1, fun q hq => ?_⟩⟩
    obtain ⟨i, u, h1, h2, h3⟩ := (al_mem w _ 0 q).mp hq
    subst h3
    rw [Nat.zero_add]
    by_cases hik : i = k
    · subst hik
      rw [List.getElem?_set_self (by rw [List.length_set, clob_len, h.1]; omega)] at h1
      cases h1
      exact h'.2.2 _ List.mem_cons_self
    · rw [List.getElem?_set_ne (fun z => hik z.symm)] at h1
      by_cases hik1 : i = k + 1
      · subst hik1
        rw [List.getElem?_set_self (by rw [clob_len, h.1]; omega)] at h1
        exact absurd (Option.some.inj h1).symm h2
      · rw [List.getElem?_set_ne (fun z => hik1 z.symm)] at h1
        obtain ⟨g1, g2⟩ := clob_at h1 h2
        refine h'.2.2 (i, cv w u) (List.mem_cons_of_mem _ (List.mem_filter.mpr ⟨(al_mem w ls 0 _).mpr ⟨i, u, g1, h2, by rw [Nat.zero_add]⟩, ?_⟩))
        simp only [Bool.and_eq_true, Bool.not_eq_true', beq_eq_false_iff_ne, Bool.and_eq_false_iff]
        refine ⟨hik, hik1, ?_⟩
        by_cases hi1 : i + 1 = k
        · right
          intro hc
          exact g2 ⟨hi1, cv_cat hc⟩
        · left
          exact hi1
  · cases hs
