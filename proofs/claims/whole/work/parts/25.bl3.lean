/-- steps of a list from i on, n of them, the bits named by k more -/
def slc (L : LB) (i n : Nat) : List Nat := ((lT L).drop i).take n
theorem slc_0 (L : LB) (i : Nat) : slc L i 0 = [] := rfl
theorem slc_cons {L : LB} {i n x : Nat} (h : (lT L)[i]? = some x) : slc L i (n + 1) = x :: slc L (i + 1) n := by
  have hlt := (List.getElem?_eq_some_iff.mp h).1
  unfold slc
  rw [List.drop_eq_getElem_cons hlt, List.take_succ_cons]
  congr 1
  exact (List.getElem?_eq_some_iff.mp h).2
abbrev appL (L : LB) (m : List Nat) : LB := (lN0 L, lA L, lB L, lS L, lT L ++ m)
theorem appL_nil (L : LB) : appL L [] = L := by
  show (lN0 L, lA L, lB L, lS L, lT L ++ []) = L
  rw [List.append_nil]
theorem appL_cons (L : LB) (x : Nat) (m : List Nat) : appL (pushL L x) m = appL L (x :: m) := by
  show (lN0 L, lA L, lB L, lS L, (lT L ++ [x]) ++ m) = (lN0 L, lA L, lB L, lS L, lT L ++ (x :: m))
  rw [List.append_assoc]
  rfl
theorem blr_wfl {L : LB} (h : wf0 L) : (lT L).length ≤ 256 := h.2.2.2.2.1
/-- pushOn: from i up to (not with) j -/
theorem s107 {d : Nat} (h : 6 ≤ d) {b c : Int} {M : LB} (hM : wf0 M) (hbc : c + 2 < b ∨ b + 2 < c) {j k : Nat} (hj : j ≤ (lT M).length) : ∀ (n i : Nat) (σ : HP) (L : LB), i + n = j → blr σ b L → wf0 L → blr σ c M → (lT L).length + n ≤ 256 → (∀ x ∈ slc M i n, x + k < lN0 L) → ∃ σ', rsP PG0 MX d 107 7 [vR b, vR c, vU, vI j, vI k, vI i] [] σ = some (0, σ') ∧ ag3 σ σ' b ∧ blr σ' b (appL L ((slc M i n).map (· + k))) ∧ σ' b 2 = σ b 2 := by
  have hlM := blr_wfl hM
  intro n
  induction n with
  | zero =>
    intro i σ L hij hb hw hc hn hx
    refine ⟨σ, ?_, ag3_rf σ b, ?_, rfl⟩
    · rw [sg_107_7]
      simp only [wrn (n := i) (by omega), wrn (n := j) (by omega)]
      refine step_t (by omega) ?_
      rfl
    · rw [slc_0, List.map_nil, appL_nil]
      exact hb
  | succ n ih =>
    intro i σ L hij hb hw hc hn hx
    obtain ⟨⟨m1, m2, m3, m4, m5, m6, m7, m8, m9⟩, f3, f4, f5, f6, fs, fw⟩ := id hc
    obtain ⟨⟨n1, n2, n3, -⟩, -⟩ := id hb
    obtain ⟨y, y1, y2⟩ := st_at hc (i := i) (by omega)
    have y3 := st_lt hM y1
    have h8 := hM.1
    rw [slc_cons y1] at hx ⊢
    have hy := hx y List.mem_cons_self
    have h82 := hw.1
    obtain ⟨σ1, a1, a2, a3, a4⟩ := s31 (d := d) (by omega) (x := y + k) hb hw hy (by omega)
    have hc1 := blr_ag hc a2 hbc n1
    obtain ⟨σ2, b1, b2, b3, b4⟩ := ih (i + 1) σ1 (pushL L (y + k)) (by omega) a3 (wf_push hw hy (by omega)) hc1 (by show (lT L ++ [y + k]).length + n ≤ 256; rw [List.length_append]; show (lT L).length + 1 + n ≤ 256; omega) (fun x hx' => hx x (List.mem_cons_of_mem _ hx'))
    refine ⟨σ2, ?_, ag3_tr a2 b2, ?_, b4.trans a4⟩
    · rw [sg_107_7]
      simp only [wrn (n := i) (by omega), wrn (n := j) (by omega), m4, f6, wr_len hM, y2]
      refine step_f (by omega) ?_
      refine step_t (by omega) ?_
      refine step_f (by omega) ?_
      repeat (refine step_t (by omega) ?_)
      refine step_c a1 ?_
      exact b1
    · rw [appL_cons] at b3
      exact b3
theorem s107a {d : Nat} (h : 7 ≤ d) {b c : Int} {M L : LB} {σ : HP} (hM : wf0 M) (hbc : c + 2 < b ∨ b + 2 < c) {i j k : Nat} (hij : i ≤ j) (hj : j ≤ (lT M).length) (hb : blr σ b L) (hw : wf0 L) (hc : blr σ c M) (hn : (lT L).length + (j - i) ≤ 256) (hx : ∀ x ∈ slc M i (j - i), x + k < lN0 L) : ∃ σ', clR PG0 MX d 107 [vR b, vR c, vI i, vI j, vI k] σ = some (0, σ') ∧ ag3 σ σ' b ∧ blr σ' b (appL L ((slc M i (j - i)).map (· + k))) ∧ σ' b 2 = σ b 2 := by
  obtain ⟨d, rfl⟩ := ob1 (show 1 ≤ d by omega)
  have hlM := blr_wfl hM
  obtain ⟨σ', e1, e2⟩ := s107 (d := d) (by omega) hM hbc (k := k) hj (j - i) i σ L (by omega) hb hw hc hn hx
  refine ⟨σ', ?_, e2⟩
  rw [ce_107, sg_107_0]
  refine step_c (p_max (by omega) σ _ _) ?_
  try dsimp only
  rw [wrn (n := i) (by omega), wr_0, if_neg (by omega)]
  rw [sg_107_7] at e1 ⊢
  exact e1
theorem wf_app : ∀ (m : List Nat) (L : LB), wf0 L → (lT L).length + m.length ≤ 256 → (∀ x ∈ m, x < lN0 L) → wf0 (appL L m) := by
  intro m
  induction m with
  | nil => intro L h _ _; rw [appL_nil]; exact h
  | cons x m ih =>
    intro L h hn hx
    rw [← appL_cons]
    have hn : (lT L).length + (m.length + 1) ≤ 256 := hn
    refine ih (pushL L x) (wf_push h (hx x List.mem_cons_self) (by omega)) ?_ (fun y hy => hx y (List.mem_cons_of_mem _ hy))
    show (lT L ++ [x]).length + m.length ≤ 256
    rw [List.length_append]
    show (lT L).length + 1 + m.length ≤ 256
    omega
/-- pushBack: from j - 1 down to i -/
theorem s123 {d : Nat} (h : 6 ≤ d) {b c : Int} {M : LB} (hM : wf0 M) (hbc : c + 2 < b ∨ b + 2 < c) {i : Nat} : ∀ (n : Nat) (σ : HP) (L : LB), i + n ≤ (lT M).length → blr σ b L → wf0 L → blr σ c M → (lT L).length + n ≤ 256 → (∀ x ∈ slc M i n, x < lN0 L) → ∃ σ', rsP PG0 MX d 123 12 [vR b, vR c, vI i, vU, vI ((i : Int) + n - 1)] [] σ = some (0, σ') ∧ ag3 σ σ' b ∧ blr σ' b (appL L (slc M i n).reverse) ∧ σ' b 2 = σ b 2 := by
  have hlM := blr_wfl hM
  intro n
  induction n with
  | zero =>
    intro σ L hij hb hw hc hn hx
    refine ⟨σ, ?_, ag3_rf σ b, ?_, rfl⟩
    · rw [sg_123_12]
      simp only [wrn (n := i) (by omega), wr_id (x := (i : Int) + ((0 : Nat) : Int) - 1) (by omega) (by omega)]
      refine step_t (by omega) ?_
      rfl
    · rw [slc_0]
      exact (appL_nil L).symm ▸ hb
  | succ n ih =>
    intro σ L hij hb hw hc hn hx
    obtain ⟨⟨m1, m2, m3, m4, m5, m6, m7, m8, m9⟩, f3, f4, f5, f6, fs, fw⟩ := id hc
    obtain ⟨⟨n1, n2, n3, -⟩, -⟩ := id hb
    obtain ⟨y, y1, y2⟩ := st_at hc (i := i + n) (by omega)
    have y3 := st_lt hM y1
    have h8 := hM.1
    have es : slc M i (n + 1) = slc M i n ++ [y] := by
      unfold slc
      rw [List.take_succ_eq_append_getElem (by rw [List.length_drop]; omega)]
      congr 2
      have := (List.getElem?_eq_some_iff.mp y1).2
      rw [← this, List.getElem_drop]
    rw [es] at hx ⊢
    have hy := hx y (by simp)
    have h82 := hw.1
    obtain ⟨σ1, a1, a2, a3, a4⟩ := s31 (d := d) (by omega) (x := y) hb hw hy (by omega)
    have hc1 := blr_ag hc a2 hbc n1
    obtain ⟨σ2, b1, b2, b3, b4⟩ := ih σ1 (pushL L y) (by omega) a3 (wf_push hw hy (by omega)) hc1 (by show (lT L ++ [y]).length + n ≤ 256; rw [List.length_append]; show (lT L).length + 1 + n ≤ 256; omega) (fun x hx' => hx x (List.mem_append_left _ hx'))
    refine ⟨σ2, ?_, ag3_tr a2 b2, ?_, b4.trans a4⟩
    · rw [sg_123_12]
      have ei : (i : Int) + ((n + 1 : Nat) : Int) - 1 = ((i + n : Nat) : Int) := by omega
      simp only [ei, wrn (n := i) (by omega), wrn (n := i + n) (by omega), m4, f6, wr_len hM, y2]
      refine step_f (by omega) ?_
      refine step_f (by omega) ?_
      repeat (refine step_t (by omega) ?_)
      refine step_c a1 ?_
      have e2 : ((i + n : Nat) : Int) + (-1) = (i : Int) + n - 1 := by omega
      try dsimp only
      rw [e2]
      exact b1
    · rw [appL_cons] at b3
      rw [List.reverse_append]
      exact b3
theorem s123a {d : Nat} (h : 7 ≤ d) {b c : Int} {M L : LB} {σ : HP} (hM : wf0 M) (hbc : c + 2 < b ∨ b + 2 < c) {i j : Nat} (hij : i ≤ j) (hj : j ≤ (lT M).length) (hb : blr σ b L) (hw : wf0 L) (hc : blr σ c M) (hn : (lT L).length + (j - i) ≤ 256) (hx : ∀ x ∈ slc M i (j - i), x < lN0 L) : ∃ σ', clR PG0 MX d 123 [vR b, vR c, vI i, vI j] σ = some (0, σ') ∧ ag3 σ σ' b ∧ blr σ' b (appL L (slc M i (j - i)).reverse) ∧ σ' b 2 = σ b 2 := by
  obtain ⟨d, rfl⟩ := ob1 (show 1 ≤ d by omega)
  have hlM := blr_wfl hM
  obtain ⟨⟨m1, m2, m3, m4, m5, m6, m7, m8, m9⟩, f3, f4, f5, f6, fs, fw⟩ := id hc
  obtain ⟨σ', e1, e2⟩ := s123 (d := d) (by omega) hM hbc (i := i) (j - i) σ L (by omega) hb hw hc hn hx
  refine ⟨σ', ?_, e2⟩
  rw [ce_123, sg_123_0]
  refine step_t (by omega) ?_
  refine step_c (p_min (by omega) σ _ _) ?_
  try dsimp only
  rw [f6, wr_len hM, wrn (n := j) (by omega)]
  have e3 : (if ((lT M).length : Int) < (j : Int) then ((lT M).length : Int) else (j : Int)) - 1 = (i : Int) + ((j - i : Nat) : Int) - 1 := by
    rw [if_neg (by omega)]
    omega
  rw [e3]
  rw [sg_123_12] at e1 ⊢
  exact e1
