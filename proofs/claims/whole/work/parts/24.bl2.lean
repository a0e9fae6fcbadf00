/-! BitLists are written -/
def ag3 (σ σ' : HP) (b : Int) : Prop := ∀ a j : Int, (a < b ∨ b + 2 < a) → σ' a j = σ a j
theorem ag3_tr {a b c : HP} {x : Int} (h : ag3 a b x) (h2 : ag3 b c x) : ag3 a c x := fun p j q => (h2 p j q).trans (h p j q)
theorem ag3_rf (σ : HP) (b : Int) : ag3 σ σ b := fun _ _ _ => rfl
theorem blr_ag {σ σ' : HP} {b c : Int} {L : LB} (hb : blr σ c L) (h : ag3 σ σ' b) (hc : c + 2 < b ∨ b + 2 < c) (h32 : 32 ≤ b) : blr σ' c L := by
  obtain ⟨⟨m1, m2, m3, m4, m5, m6, m7, m8, m9⟩, f3, f4, f5, f6, fs, fw⟩ := id hb
  have e0 : ∀ j, σ' (-1) j = σ (-1) j := fun j => h _ _ (by omega)
  have e1 : ∀ j, σ' c j = σ c j := fun j => h _ _ (by omega)
  have e2 : ∀ j, σ' (c + 1) j = σ (c + 1) j := fun j => h _ _ (by omega)
  have e3 : ∀ j, σ' (c + 2) j = σ (c + 2) j := fun j => h _ _ (by omega)
  unfold blr blm
  simp only [e0, e1, e2, e3]
  exact hb
abbrev pushL (L : LB) (x : Nat) : LB := (lN0 L, lA L, lB L, lS L, lT L ++ [x])
theorem wdL_app : ∀ (l m : List Nat) (s i : Nat), i ≤ l.length → wdL s (l ++ m) i = wdL s l i := by
  intro l
  induction l with
  | nil => intro m s i h; have : i = 0 := by simpa using h
           subst this; cases m <;> rfl
  | cons c l ih =>
    intro m s i h
    match i with
    | 0 => rfl
    | i + 1 => exact ih m _ i (by simpa using h)
theorem wd_push {L : LB} {x i : Nat} (h : i ≤ (lT L).length) : wd (pushL L x) i = wd L i := wdL_app _ _ _ _ h
theorem wd_pushE (L : LB) (x : Nat) : wd (pushL L x) ((lT L).length + 1) = wd L (lT L).length ^^^ 2 ^ x := by
  have h : (lT L ++ [x])[(lT L).length]? = some x := by simp
  have h2 := wdL_succ (lT L ++ [x]) (lS L) (lT L).length x h
  rw [wdL_app (lT L) [x] (lS L) _ (Nat.le_refl _)] at h2
  exact h2
theorem wf_push {L : LB} {x : Nat} (hw : wf0 L) (hx : x < lN0 L) (hl : (lT L).length < 256) : wf0 (pushL L x) := by
  obtain ⟨h1, h2, h3, h4, h5, h6⟩ := hw
  refine ⟨h1, h2, h3, h4, by show (lT L ++ [x]).length ≤ 256; rw [List.length_append]; exact hl, fun b hb => ?_⟩
  rcases List.mem_append.mp hb with h | h
  · exact h6 b h
  · rw [List.mem_singleton.mp h]; exact hx
/-- push -/
theorem s31 {d : Nat} (h : 2 ≤ d) {σ : HP} {b : Int} {L : LB} {x : Nat} (hb : blr σ b L) (hw : wf0 L) (hx : x < lN0 L) (hl : (lT L).length < 256) : ∃ σ', clR PG0 MX d 31 [vR b, vI x] σ = some (0, σ') ∧ ag3 σ σ' b ∧ blr σ' b (pushL L x) ∧ σ' b 2 = σ b 2 := by
  obtain ⟨d, rfl⟩ := ob1 (show 1 ≤ d by omega)
  obtain ⟨⟨m1, m2, m3, m4, m5, m6, m7, m8, m9⟩, f3, f4, f5, f6, fs, fw⟩ := id hb
  have h8 := hw.1
  have e256 : wr 256 = 256 := by decide
  have hx31 : 2 ^ x < 256 := Nat.lt_of_lt_of_le (Nat.pow_lt_pow_right (by omega) hx) (pow8 h8)
  have hq := wd_256 hw (lT L).length
  have e1 : i_shl 1 (x : Nat) = ((2 ^ x : Nat) : Int) := by
    have := i_shl_n (a := 1) (k := x) (by omega) (by omega)
    rw [Nat.one_mul] at this
    exact this
  have e2 : i_xor ((wd L (lT L).length : Nat) : Int) ((2 ^ x : Nat) : Int) = ((wd L (lT L).length ^^^ 2 ^ x : Nat) : Int) := i_xor_n (by omega) (by omega)
  have ew : wr ((((lT L).length : Nat) : Int) + 1) = (((lT L).length : Nat) : Int) + 1 := wr_id (by omega) (by omega)
  refine ⟨up (up (up σ (b + 1) ((lT L).length : Nat) x) (b + 2) (((lT L).length : Nat) + 1) ((wd L (lT L).length ^^^ 2 ^ x : Nat) : Int)) b 6 (((lT L).length : Nat) + 1), ?_, ?_, ?_, ?_⟩
  · rw [ce_31, sg_31_0]
    simp only [f6, e256, wr_len hw]
    refine step_t (by omega) ?_
    refine step_f (by omega) ?_
    refine step_t (by omega) ?_
    refine step_c (s30 (by omega) hb hw) ?_
    try dsimp only
    rw [wrn (n := x) (by omega), decide_eq_true (by omega)]
    refine step_f (show ¬ wr (b2i true) = 0 by decide) ?_
    have g1 : ((b + 1 : Int) ≠ -1) := by omega
    simp (disch := omega) only [m4, m5, f6, wr_len hw, up_s, up_n1, up_n2, ew, fw _ (Nat.le_refl _), e1, e2]
    repeat (refine step_t (by omega) ?_)
    rw [sg_31_52]
    simp (disch := omega) only [f6, up_s, up_n1, up_n2]
    repeat (refine step_t (by omega) ?_)
    rfl
  · intro a j ha
    simp (disch := omega) only [up_n1]
  · unfold blr blm
    simp (disch := omega) only [up_s, up_n1, up_n2]
    refine ⟨⟨m1, m2, m3, m4, m5, m6, m7, m8, m9⟩, f3, f4, f5, by show _ = (((lT L ++ [x]).length : Nat) : Int); rw [List.length_append]; rfl, fun i y hy => ?_, fun i hi => ?_⟩
    · by_cases hi : i < (lT L).length
      · have hy' : (lT L ++ [x])[i]? = some y := hy
        rw [List.getElem?_append_left hi] at hy'
        simp (disch := omega) only [up_n1, up_n2]
        exact fs i y hy'
      · have hlt : i < (lT L ++ [x]).length := (List.getElem?_eq_some_iff.mp hy).1
        have : i = (lT L).length := by simp at hlt; omega
        subst this
        have hy' : (lT L ++ [x])[(lT L).length]? = some y := hy
        simp at hy'
        subst hy'
        simp (disch := omega) only [up_s, up_n1, up_n2]
    · have hi : i ≤ (lT L ++ [x]).length := hi
      rw [List.length_append] at hi
      have hi' : i ≤ (lT L).length + 1 := hi
      by_cases hi2 : i ≤ (lT L).length
      · rw [wd_push hi2]
        simp (disch := omega) only [up_n1, up_n2]
        exact fw i hi2
      · have : i = (lT L).length + 1 := by omega
        subst this
        rw [wd_pushE]
        have ec : (((lT L).length + 1 : Nat) : Int) = (((lT L).length : Nat) : Int) + 1 := by omega
        rw [ec]
        simp (disch := omega) only [up_s, up_n1, up_n2]
  · simp (disch := omega) only [up_n1, up_n2]
/-- begin -/
theorem s28 {d : Nat} (h : 1 ≤ d) {σ : HP} {b : Int} (hb : blm σ b) (N A B S : Nat) : ∃ σ', clR PG0 MX d 28 [vR b, vI N, vI A, vI B, vI S] σ = some (0, σ') ∧ ag3 σ σ' b ∧ blr σ' b (N, A, B, S, []) ∧ σ' b 2 = 1 := by
  obtain ⟨d, rfl⟩ := ob1 (show 1 ≤ d by omega)
  obtain ⟨m1, m2, m3, m4, m5, m6, m7, m8, m9⟩ := hb
  refine ⟨up (up (up (up (up (up σ b 2 1) b 3 N) b 4 A) b 5 B) b 6 0) (b + 2) 0 S, ?_, ?_, ?_, ?_⟩
  · rw [ce_28, sg_28_0]
    simp (disch := omega) only [m5, up_s, up_n1, up_n2, wr_0]
    repeat (refine step_t (by omega) ?_)
    rfl
  · intro a j ha
    simp (disch := omega) only [up_n1]
  · unfold blr blm
    simp (disch := omega) only [up_s, up_n1, up_n2]
    refine ⟨⟨m1, m2, m3, m4, m5, m6, m7, m8, m9⟩, trivial, trivial, trivial, rfl, fun i y hy => ?_, fun i hi => ?_⟩
    · have hy : ([] : List Nat)[i]? = some y := hy
      simp at hy
    · have hi : i ≤ ([] : List Nat).length := hi
      have : i = 0 := by simpa using hi
      subst this
      show up _ (b + 2) 0 (S : Int) (b + 2) 0 = (S : Int)
      simp only [up_s]
  · simp (disch := omega) only [up_s, up_n1, up_n2]
/-- beginLike -/
theorem s104 {d : Nat} (h : 2 ≤ d) {σ : HP} {b c : Int} {L : LB} (hb : blm σ b) (hc : blr σ c L) (S : Nat) : ∃ σ', clR PG0 MX d 104 [vR b, vR c, vI S] σ = some (0, σ') ∧ ag3 σ σ' b ∧ blr σ' b (lN0 L, lA L, lB L, S, []) ∧ σ' b 2 = 1 := by
  obtain ⟨d, rfl⟩ := ob1 (show 1 ≤ d by omega)
  obtain ⟨⟨m1, m2, m3, m4, m5, m6, m7, m8, m9⟩, f3, f4, f5, f6, fs, fw⟩ := id hc
  obtain ⟨σ', e1, e2⟩ := s28 (d := d) (by omega) hb (lN0 L) (lA L) (lB L) S
  refine ⟨σ', ?_, e2⟩
  obtain ⟨n1, n2, n3, -⟩ := hb
  rw [ce_104, sg_104_0, f3, f4, f5]
  repeat (refine step_t (by omega) ?_)
  exact step_c e1 rfl
/-- pop -/
abbrev popL (L : LB) : LB := (lN0 L, lA L, lB L, lS L, (lT L).dropLast)
theorem s113 {d : Nat} (h : 1 ≤ d) {σ : HP} {b : Int} {L : LB} (hb : blr σ b L) (hw : wf0 L) : ∃ σ', clR PG0 MX d 113 [vR b] σ = some (0, σ') ∧ ag3 σ σ' b ∧ blr σ' b (popL L) ∧ σ' b 2 = σ b 2 := by
  obtain ⟨d, rfl⟩ := ob1 (show 1 ≤ d by omega)
  obtain ⟨⟨m1, m2, m3, m4, m5, m6, m7, m8, m9⟩, f3, f4, f5, f6, fs, fw⟩ := id hb
  rw [ce_113, sg_113_0]
  simp only [f6, wr_len hw]
  by_cases h0 : (lT L).length = 0
  · have he : lT L = [] := List.eq_nil_of_length_eq_zero h0
    refine ⟨σ, ?_, ag3_rf σ b, ?_, rfl⟩
    · refine step_t (by omega) ?_
      refine step_t (by omega) ?_
      rfl
    · have : popL L = L := by
        show (lN0 L, lA L, lB L, lS L, (lT L).dropLast) = L
        rw [he]
        show (lN0 L, lA L, lB L, lS L, ([] : List Nat)) = L
        rw [← he]
      rw [this]
      exact hb
  · refine ⟨up σ b 6 (((lT L).length : Nat) - 1), ?_, ?_, ?_, ?_⟩
    · refine step_t (by omega) ?_
      refine step_f (by omega) ?_
      repeat (refine step_t (by omega) ?_)
      rfl
    · intro a j ha
      simp (disch := omega) only [up_n1]
    · have hlen : (lT L).dropLast.length = (lT L).length - 1 := List.length_dropLast
      unfold blr blm
      simp (disch := omega) only [up_s, up_n1, up_n2]
      refine ⟨⟨m1, m2, m3, m4, m5, m6, m7, m8, m9⟩, f3, f4, f5, by show _ = (((lT L).dropLast.length : Nat) : Int); omega, fun i y hy => ?_, fun i hi => ?_⟩
      · have hy : (lT L).dropLast[i]? = some y := hy
        have hlt := (List.getElem?_eq_some_iff.mp hy).1
        rw [List.getElem?_dropLast, if_pos (by omega)] at hy
        exact fs i y hy
      · have hi : i ≤ (lT L).dropLast.length := hi
        rw [fw i (by omega)]
        have e : (lT L).dropLast ++ [(lT L).getLast (fun z => h0 (by rw [z]; rfl))] = lT L := List.dropLast_concat_getLast _
        have e2 := wdL_app (lT L).dropLast [(lT L).getLast (fun z => h0 (by rw [z]; rfl))] (lS L) i hi
        rw [e] at e2
        show ((wdL (lS L) (lT L) i : Nat) : Int) = ((wdL (lS L) (lT L).dropLast i : Nat) : Int)
        rw [e2]
    · simp (disch := omega) only [up_n2]
