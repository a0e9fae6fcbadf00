-- @after 2
/-! THE STATE THAT BOTH SIDES SHOW: lists in slots, acts, tape, fault, what is told -/
abbrev AS : Type := (Nat → Option LB) × List (Nat × Option LB) × List Nat × Nat × Int × List Nat
abbrev AS.sl (S : AS) : Nat → Option LB := S.1
abbrev AS.hs (S : AS) : List (Nat × Option LB) := S.2.1
abbrev AS.tp (S : AS) : List Nat := S.2.2.1
abbrev AS.fk (S : AS) : Nat := S.2.2.2.1
abbrev AS.fp (S : AS) : Int := S.2.2.2.2.1
abbrev AS.ot (S : AS) : List Nat := S.2.2.2.2.2
abbrev mkA (sl : Nat → Option LB) (hs : List (Nat × Option LB)) (tp : List Nat) (fk : Nat) (fp : Int) (ot : List Nat) : AS := (sl, hs, tp, fk, fp, ot)
def setS (f : Nat → Option LB) (s : Nat) (o : Option LB) : Nat → Option LB := fun i => if i = s then o else f i
def unN : (Nat → Option LB) → List (Nat × Option LB) → Nat → (Nat → Option LB)
  | f, _, 0 => f
  | f, [], _ + 1 => f
  | f, (s, o) :: h, n + 1 => unN (setS f s o) h n
/-- an act: a slot becomes another -/
def actS (S : AS) (s : Nat) (o : Option LB) : AS := (mkA (setS S.sl s o) (((s, S.sl s) :: S.hs).take 10) S.tp S.fk S.fp S.ot)
def setl (S : AS) (s : Nat) (o : Option LB) : AS := if S.sl s = o then S else actS S s o
def i32 (x : Int) : Prop := -2147483648 ≤ x ∧ x ≤ 2147483647
theorem i32.wr {x : Int} (h : i32 x) : wr x = x := wr_id h.1 h.2
/-- the list that a slot has, if it has one -/
def gl (S : AS) (s : Int) : Option LB := if 0 ≤ s ∧ s < 3 then S.sl s.toNat else none
/-! the class -/
def rowO (σ : HP) (b : Int) (o : Option LB) : Prop := ∃ L, blr σ b L ∧ wf0 L ∧ σ b 2 = b2i o.isSome ∧ ∀ M, o = some M → M = L ∧ wfL L
def byR (σ : HP) (a c m : Int) (l : List Nat) : Prop := σ a 1 = (l.length : Nat) ∧ (l.length : Int) ≤ m ∧ ∀ (i x : Nat), l[i]? = some x → x < 256 ∧ i_and (σ c i) 255 = x
def CR (σ : HP) (S : AS) : Prop := (rowO σ 34 (S.sl 0)) ∧ (rowO σ 37 (S.sl 1)) ∧ (rowO σ 40 (S.sl 2)) ∧ (∃ n : Nat, n < 10 ∧ σ 46 2 = n ∧ ∀ (i : Nat) (s : Nat) (o : Option LB), S.hs[i]? = some (s, o) → s < 3 ∧ σ 78 (((n + 9 - i) % 10 : Nat) : Int) = s ∧ rowO σ (48 + 3 * (((n + 9 - i) % 10 : Nat) : Int)) o) ∧ (σ 46 3 = (S.hs.length : Nat)) ∧ (S.hs.length ≤ 10) ∧ (byR σ 80 81 400 S.tp) ∧ (σ 79 4 = S.fk) ∧ (σ 79 5 = S.fp) ∧ (byR σ 82 83 2400 S.ot)
theorem CR.s0 {σ : HP} {S : AS} (h : CR σ S) : rowO σ 34 (S.sl 0) := h.1
theorem CR.s1 {σ : HP} {S : AS} (h : CR σ S) : rowO σ 37 (S.sl 1) := h.2.1
theorem CR.s2 {σ : HP} {S : AS} (h : CR σ S) : rowO σ 40 (S.sl 2) := h.2.2.1
theorem CR.nx {σ : HP} {S : AS} (h : CR σ S) : ∃ n : Nat, n < 10 ∧ σ 46 2 = n ∧ ∀ (i : Nat) (s : Nat) (o : Option LB), S.hs[i]? = some (s, o) → s < 3 ∧ σ 78 (((n + 9 - i) % 10 : Nat) : Int) = s ∧ rowO σ (48 + 3 * (((n + 9 - i) % 10 : Nat) : Int)) o := h.2.2.2.1
theorem CR.dp {σ : HP} {S : AS} (h : CR σ S) : σ 46 3 = (S.hs.length : Nat) := h.2.2.2.2.1
theorem CR.dl {σ : HP} {S : AS} (h : CR σ S) : S.hs.length ≤ 10 := h.2.2.2.2.2.1
theorem CR.tp {σ : HP} {S : AS} (h : CR σ S) : byR σ 80 81 400 S.tp := h.2.2.2.2.2.2.1
theorem CR.fk {σ : HP} {S : AS} (h : CR σ S) : σ 79 4 = S.fk := h.2.2.2.2.2.2.2.1
theorem CR.fp {σ : HP} {S : AS} (h : CR σ S) : σ 79 5 = S.fp := h.2.2.2.2.2.2.2.2.1
theorem CR.ot {σ : HP} {S : AS} (h : CR σ S) : byR σ 82 83 2400 S.ot := h.2.2.2.2.2.2.2.2.2
theorem blr_same {σ σ' : HP} {b : Int} {L : LB} (h : blr σ b L) (h0 : σ (-1) 0 ≤ σ' (-1) 0) (hs : ∀ a j, b ≤ a → a ≤ b + 2 → σ' a j = σ a j) : blr σ' b L := by
  obtain ⟨⟨m1, m2, m3, m4, m5, m6, m7, m8, m9⟩, f3, f4, f5, f6, fs, fw⟩ := id h
  refine ⟨⟨m1, by omega, ?_, ?_, ?_, ?_, ?_, ?_, ?_⟩, ?_, ?_, ?_, ?_, fun i x hx => ?_, fun i hi => ?_⟩
  · rw [hs _ _ (by omega) (by omega)]; exact m3
  · rw [hs _ _ (by omega) (by omega)]; exact m4
  · rw [hs _ _ (by omega) (by omega)]; exact m5
  · rw [hs _ _ (by omega) (by omega)]; exact m6
  · rw [hs _ _ (by omega) (by omega)]; exact m7
  · rw [hs _ _ (by omega) (by omega)]; exact m8
  · rw [hs _ _ (by omega) (by omega)]; exact m9
  · rw [hs _ _ (by omega) (by omega)]; exact f3
  · rw [hs _ _ (by omega) (by omega)]; exact f4
  · rw [hs _ _ (by omega) (by omega)]; exact f5
  · rw [hs _ _ (by omega) (by omega)]; exact f6
  · rw [hs _ _ (by omega) (by omega)]; exact fs i x hx
  · rw [hs _ _ (by omega) (by omega)]; exact fw i hi
theorem rowO_same {σ σ' : HP} {b : Int} {o : Option LB} (h : rowO σ b o) (h0 : σ (-1) 0 ≤ σ' (-1) 0) (hs : ∀ a j, b ≤ a → a ≤ b + 2 → σ' a j = σ a j) : rowO σ' b o := by
  obtain ⟨L, h1, h2, h3, h4⟩ := h
  exact ⟨L, blr_same h1 h0 hs, h2, by rw [hs _ _ (by omega) (by omega)]; exact h3, h4⟩
theorem byR_same {σ σ' : HP} {a c m : Int} {l : List Nat} (h : byR σ a c m l) (h1 : ∀ j, σ' a j = σ a j) (h2 : ∀ j, σ' c j = σ c j) : byR σ' a c m l := by
  obtain ⟨g1, g2, g3⟩ := h
  exact ⟨by rw [h1]; exact g1, g2, fun i x hx => by rw [h2]; exact g3 i x hx⟩
theorem CR.same {σ σ' : HP} {S : AS} (h : CR σ S) (h0 : σ (-1) 0 ≤ σ' (-1) 0) (hs : ∀ a j, (34 ≤ a ∧ a ≤ 42) ∨ (46 ≤ a ∧ a ≤ 83) → σ' a j = σ a j) : CR σ' S := by
  obtain ⟨n, n1, n2, n3⟩ := h.nx
  refine ⟨rowO_same h.s0 h0 (fun a j h1 h2 => hs a j (by omega)), rowO_same h.s1 h0 (fun a j h1 h2 => hs a j (by omega)), rowO_same h.s2 h0 (fun a j h1 h2 => hs a j (by omega)), ⟨n, n1, ?_, fun i s o hi => ?_⟩, ?_, h.dl, byR_same h.tp (fun j => hs _ _ (by omega)) (fun j => hs _ _ (by omega)), ?_, ?_, byR_same h.ot (fun j => hs _ _ (by omega)) (fun j => hs _ _ (by omega))⟩
  · rw [hs _ _ (by omega)]; exact n2
  · obtain ⟨g1, g2, g3⟩ := n3 i s o hi
    have hm : (n + 9 - i) % 10 < 10 := Nat.mod_lt _ (by omega)
    exact ⟨g1, by rw [hs _ _ (by omega)]; exact g2, rowO_same g3 h0 (fun a j h1 h2 => hs a j (by omega))⟩
  · rw [hs _ _ (by omega)]; exact h.dp
  · rw [hs _ _ (by omega)]; exact h.fk
  · rw [hs _ _ (by omega)]; exact h.fp
theorem CR.slot {σ : HP} {S : AS} (h : CR σ S) : ∀ s : Nat, s < 3 → rowO σ (34 + 3 * s) (S.sl s) := by
  intro s hs
  rcases (show s = 0 ∨ s = 1 ∨ s = 2 by omega) with e | e | e <;> subst e
  · exact h.s0
  · exact h.s1
  · exact h.s2
theorem CR.got {σ : HP} {S : AS} (h : CR σ S) {s : Int} {L : LB} (e : gl S s = some L) : 0 ≤ s ∧ s < 3 ∧ blr σ (34 + 3 * s) L ∧ wfL L ∧ S.sl s.toNat = some L := by
  unfold gl at e
  by_cases z : 0 ≤ s ∧ s < 3
  · rw [if_pos z] at e
    obtain ⟨L', h1, h2, h3, h4⟩ := h.slot s.toNat (by omega)
    obtain ⟨e1, e2⟩ := h4 L e
    subst e1
    have es : (34 + 3 * ((s.toNat : Nat) : Int)) = 34 + 3 * s := by omega
    rw [es] at h1
    exact ⟨z.1, z.2, h1, e2, e⟩
  · rw [if_neg z] at e; cases e
/-! the fixed rows under changes -/
theorem Lay.upd {σ : HP} (h : Lay σ) {a j v : Int} (ha : layT.all (fun t => !(decide (t.1 = a) && decide (0 ≤ t.2.1))) = true) (h1 : a ≠ -1) (hj : 0 ≤ j) : Lay (up σ a j v) := by
  refine ⟨?_, fun t ht => ?_⟩
  · rw [up_n1 _ _ _ _ (by omega)]; exact h.1
  · have e := List.all_eq_true.mp ha t ht
    by_cases z : t.1 = a ∧ t.2.1 = j
    · rw [decide_eq_true z.1, decide_eq_true (show 0 ≤ t.2.1 by omega)] at e
      cases e
    · show (if t.1 = a ∧ t.2.1 = j then v else σ t.1 t.2.1) = _
      rw [if_neg z]
      exact h.2 t ht
theorem Lay.upf {σ : HP} (h : Lay σ) {a j v : Int} (ha : layT.all (fun t => !(decide (t.1 = a) && decide (t.2.1 = j))) = true) (h1 : a ≠ -1) : Lay (up σ a j v) := by
  refine ⟨?_, fun t ht => ?_⟩
  · rw [up_n1 _ _ _ _ (by omega)]; exact h.1
  · have e := List.all_eq_true.mp ha t ht
    by_cases z : t.1 = a ∧ t.2.1 = j
    · rw [decide_eq_true z.1, decide_eq_true z.2] at e
      cases e
    · show (if t.1 = a ∧ t.2.1 = j then v else σ t.1 t.2.1) = _
      rw [if_neg z]
      exact h.2 t ht
def blT (b : Int) : List (Int × Int × Int) := [(b, -1, 0), (b, 0, b + 1), (b, 1, b + 2), (b + 1, -1, 20), (b + 1, -2, 256), (b + 2, -1, 20), (b + 2, -2, 257)]
def okB (b : Int) : Bool := decide (32 ≤ b) && layT.all (fun t => decide (t.1 < b) || decide (b + 2 < t.1) || (blT b).contains t)
theorem Lay.ag3 {σ σ' : HP} {b : Int} (h : Lay σ) (ha : ag3 σ σ' b) (hb : blm σ' b) (ho : okB b = true) : Lay σ' := by
  unfold okB at ho
  rw [Bool.and_eq_true] at ho
  obtain ⟨m1, m2, m3, m4, m5, m6, m7, m8, m9⟩ := hb
  refine ⟨?_, fun t ht => ?_⟩
  · rw [ha _ _ (by omega)]; exact h.1
  · have e := List.all_eq_true.mp ho.2 t ht
    rw [Bool.or_eq_true, Bool.or_eq_true] at e
    rcases e with (e | e) | e
    · rw [ha _ _ (Or.inl (of_decide_eq_true e))]; exact h.2 t ht
    · rw [ha _ _ (Or.inr (of_decide_eq_true e))]; exact h.2 t ht
    · have e := List.contains_iff_mem.mp e
      simp only [blT, List.mem_cons, List.not_mem_nil, or_false] at e
      rcases e with e | e | e | e | e | e | e <;> subst e <;> assumption
theorem okB_34 : okB 34 = true := by decide +kernel
theorem okB_37 : okB 37 = true := by decide +kernel
theorem okB_40 : okB 40 = true := by decide +kernel
theorem okB_43 : okB 43 = true := by decide +kernel
theorem okB_s : ∀ i : Nat, i < 3 → okB (34 + 3 * i) = true := by decide +kernel
theorem okB_h : ∀ i : Nat, i < 10 → okB (48 + 3 * i) = true := by decide +kernel
/-- what a question may change in the class -/
def FS (σ σ' : HP) : Prop := (∀ a j, (a < 43 ∨ 45 < a) → (a < 85 ∨ 100 < a) → σ' a j = σ a j) ∧ Lay σ'
theorem FS.rf {σ : HP} (h : Lay σ) : FS σ σ := ⟨fun _ _ _ _ => rfl, h⟩
theorem FS.tr {a b c : HP} (h : FS a b) (h2 : FS b c) : FS a c := ⟨fun p j q r => (h2.1 p j q r).trans (h.1 p j q r), h2.2⟩
theorem FS.upd {σ σ' : HP} (h : FS σ σ') {a j v : Int} (h1 : 85 ≤ a ∧ a ≤ 100) (ha : layT.all (fun t => !(decide (t.1 = a) && decide (0 ≤ t.2.1))) = true) (hj : 0 ≤ j) : FS σ (up σ' a j v) := ⟨fun p k q r => by rw [up_n1 _ _ _ _ (by omega)]; exact h.1 p k q r, h.2.upd ha (by omega) hj⟩
theorem FS.upf {σ σ' : HP} (h : FS σ σ') {a j v : Int} (h1 : 85 ≤ a ∧ a ≤ 100) (ha : layT.all (fun t => !(decide (t.1 = a) && decide (t.2.1 = j))) = true) : FS σ (up σ' a j v) := ⟨fun p k q r => by rw [up_n1 _ _ _ _ (by omega)]; exact h.1 p k q r, h.2.upf ha (by omega)⟩
theorem FS.ag3 {σ σ' σ2 : HP} (h : FS σ σ') (ha : ag3 σ' σ2 43) (hb : blm σ2 43) : FS σ σ2 := ⟨fun p k q r => by rw [ha _ _ (by omega)]; exact h.1 p k q r, h.2.ag3 ha hb okB_43⟩
theorem FS.cr {σ σ' : HP} {S : AS} (h : FS σ σ') (hc : CR σ S) : CR σ' S := hc.same (by rw [h.1 _ _ (by omega) (by omega)]; exact Int.le_refl _) (fun a j hq => h.1 a j (by omega) (by omega))
theorem FS.blr {σ σ' : HP} {b : Int} {L : LB} (h : FS σ σ') (hb : blr σ b L) (h1 : b + 2 < 43 ∨ 45 < b) (h2 : b + 2 < 85 ∨ 100 < b) : blr σ' b L := blr_same hb (by rw [h.1 _ _ (by omega) (by omega)]; exact Int.le_refl _) (fun a j p q => h.1 a j (by omega) (by omega))
/-- what a call may change in the class -/
def FC (σ σ' : HP) : Prop := (∀ a j, (a < 34 ∨ 100 < a) → σ' a j = σ a j) ∧ Lay σ'
theorem FS.fc {σ σ' : HP} (h : FS σ σ') : FC σ σ' := ⟨fun a j q => h.1 a j (by omega) (by omega), h.2⟩
theorem FC.rf {σ : HP} (h : Lay σ) : FC σ σ := ⟨fun _ _ _ => rfl, h⟩
theorem FC.tr {a b c : HP} (h : FC a b) (h2 : FC b c) : FC a c := ⟨fun p j q => (h2.1 p j q).trans (h.1 p j q), h2.2⟩
/-! the reference -/
def encA (o : Option LB) (j : Nat) : Int := match o with
  | none => 0
  | some L => if j = 0 then (lN0 L : Nat) else if j = 1 then (lA L : Nat) else if j = 2 then (lB L : Nat) else if j = 3 then (lS L : Nat) else if j = 4 then ((lT L).length : Nat) else (((lT L)[j - 5]?.getD 0 : Nat) : Int)
def encR (f : Nat → Option LB) (k : Nat) : Int := encA (f (k / 261)) (k % 261)
def inR (σ : HP) (a c m : Int) (f : Int) (l : List Nat) : Prop := σ a f = (l.length : Nat) ∧ (l.length : Int) ≤ m ∧ ∀ (i x : Nat), l[i]? = some x → x < 256 ∧ σ c i = x
def MM (σ : HP) (S : AS) : Prop := (∀ k : Nat, k < 783 → σ 102 k = encR S.sl k) ∧ (∀ (s : Nat) (L : LB), s < 3 → S.sl s = some L → wfL L) ∧ (σ 101 3 = (S.hs.length : Nat)) ∧ (S.hs.length ≤ 10) ∧ (∀ i : Nat, i < S.hs.length → ∀ k : Nat, k < 783 → σ 104 ((783 * (S.hs.length - 1 - i) + k : Nat) : Int) = encR (unN S.sl S.hs (i + 1)) k) ∧ (∀ (i s : Nat) (o : Option LB), S.hs[i]? = some (s, o) → s < 3 ∧ ∀ L, o = some L → wfL L) ∧ (inR σ 101 106 400 7 S.tp) ∧ (σ 101 8 = S.fk) ∧ (σ 101 9 = S.fp) ∧ (inR σ 101 114 2400 28 S.ot)
theorem MM.row {σ : HP} {S : AS} (h : MM σ S) : ∀ k : Nat, k < 783 → σ 102 k = encR S.sl k := h.1
theorem MM.wf {σ : HP} {S : AS} (h : MM σ S) : ∀ (s : Nat) (L : LB), s < 3 → S.sl s = some L → wfL L := h.2.1
theorem MM.km {σ : HP} {S : AS} (h : MM σ S) : σ 101 3 = (S.hs.length : Nat) := h.2.2.1
theorem MM.dl {σ : HP} {S : AS} (h : MM σ S) : S.hs.length ≤ 10 := h.2.2.2.1
theorem MM.kp {σ : HP} {S : AS} (h : MM σ S) : ∀ i : Nat, i < S.hs.length → ∀ k : Nat, k < 783 → σ 104 ((783 * (S.hs.length - 1 - i) + k : Nat) : Int) = encR (unN S.sl S.hs (i + 1)) k := h.2.2.2.2.1
theorem MM.hw {σ : HP} {S : AS} (h : MM σ S) : ∀ (i s : Nat) (o : Option LB), S.hs[i]? = some (s, o) → s < 3 ∧ ∀ L, o = some L → wfL L := h.2.2.2.2.2.1
theorem MM.tp {σ : HP} {S : AS} (h : MM σ S) : inR σ 101 106 400 7 S.tp := h.2.2.2.2.2.2.1
theorem MM.fk {σ : HP} {S : AS} (h : MM σ S) : σ 101 8 = S.fk := h.2.2.2.2.2.2.2.1
theorem MM.fp {σ : HP} {S : AS} (h : MM σ S) : σ 101 9 = S.fp := h.2.2.2.2.2.2.2.2.1
theorem MM.ot {σ : HP} {S : AS} (h : MM σ S) : inR σ 101 114 2400 28 S.ot := h.2.2.2.2.2.2.2.2.2
/-- what a question may change in the reference -/
def FQ (σ σ' : HP) : Prop := (∀ a j, a < 101 ∨ a = 102 ∨ a = 103 ∨ a = 104 ∨ a = 106 ∨ 114 ≤ a ∨ (a = 101 ∧ (j ≤ 4 ∨ (6 ≤ j ∧ j ≤ 9) ∨ 27 ≤ j)) → σ' a j = σ a j) ∧ Lay σ'
theorem FQ.rf {σ : HP} (h : Lay σ) : FQ σ σ := ⟨fun _ _ _ => rfl, h⟩
theorem FQ.tr {a b c : HP} (h : FQ a b) (h2 : FQ b c) : FQ a c := ⟨fun p j q => (h2.1 p j q).trans (h.1 p j q), h2.2⟩
theorem FQ.upd {σ σ' : HP} (h : FQ σ σ') {a j v : Int} (h1 : a = 105 ∨ (107 ≤ a ∧ a ≤ 113)) (ha : layT.all (fun t => !(decide (t.1 = a) && decide (0 ≤ t.2.1))) = true) (hj : 0 ≤ j) : FQ σ (up σ' a j v) := ⟨fun p k q => by rw [up_n1 _ _ _ _ (by omega)]; exact h.1 p k q, h.2.upd ha (by omega) hj⟩
theorem FQ.upf {σ σ' : HP} (h : FQ σ σ') {j v : Int} (h1 : j = 5 ∨ (10 ≤ j ∧ j ≤ 26)) (ha : layT.all (fun t => !(decide (t.1 = 101) && decide (t.2.1 = j))) = true) : FQ σ (up σ' 101 j v) := ⟨fun p k q => by
    by_cases z : p = 101
    · rw [up_n2 _ _ _ _ (by omega)]; exact h.1 p k q
    · rw [up_n1 _ _ _ _ z]; exact h.1 p k q, h.2.upf ha (by omega)⟩
theorem FQ.mr {σ σ' : HP} {S : AS} (h : FQ σ σ') (m : MM σ S) : MM σ' S := by
  refine ⟨fun k hk => ?_, m.wf, ?_, m.dl, fun i hi k hk => ?_, m.hw, ⟨?_, m.tp.2.1, fun i x hx => ⟨(m.tp.2.2 i x hx).1, ?_⟩⟩, ?_, ?_, ⟨?_, m.ot.2.1, fun i x hx => ⟨(m.ot.2.2 i x hx).1, ?_⟩⟩⟩
  · rw [h.1 _ _ (by omega)]; exact m.row k hk
  · rw [h.1 _ _ (by omega)]; exact m.km
  · rw [h.1 _ _ (by omega)]; exact m.kp i hi k hk
  · rw [h.1 _ _ (by omega)]; exact m.tp.1
  · rw [h.1 _ _ (by omega)]; exact (m.tp.2.2 i x hx).2
  · rw [h.1 _ _ (by omega)]; exact m.fk
  · rw [h.1 _ _ (by omega)]; exact m.fp
  · rw [h.1 _ _ (by omega)]; exact m.ot.1
  · rw [h.1 _ _ (by omega)]; exact (m.ot.2.2 i x hx).2
/-- what a call may change in the reference -/
def FM (σ σ' : HP) : Prop := (∀ a j, a < 101 ∨ 114 < a → σ' a j = σ a j) ∧ Lay σ'
theorem FQ.fm {σ σ' : HP} (h : FQ σ σ') : FM σ σ' := ⟨fun a j q => h.1 a j (by omega), h.2⟩
theorem FM.rf {σ : HP} (h : Lay σ) : FM σ σ := ⟨fun _ _ _ => rfl, h⟩
theorem FM.tr {a b c : HP} (h : FM a b) (h2 : FM b c) : FM a c := ⟨fun p j q => (h2.1 p j q).trans (h.1 p j q), h2.2⟩
/-! texts -/
def txC : List (List Nat) := [[32, 108, 101, 118, 101, 108, 115, 32], [32, 115, 116, 97, 114, 116, 32], [32, 116, 111, 32], [58], [59], [98, 105, 116, 115], [98, 105, 116, 115, 32], [108, 101, 118, 101, 108, 115], [115, 116, 97, 114, 116], [116, 111]]
def Txt (σ : HP) : Prop := ∀ (i : Nat) (t : List Nat), txC[i]? = some t → σ (2 + i) (-1) = 30 ∧ σ (2 + i) (-2) = (t.length : Nat) ∧ ∀ (j x : Nat), t[j]? = some x → σ (2 + i) j = x
