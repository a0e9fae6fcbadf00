/-! THE REFERENCE: acts -/
theorem FM.upd {σ σ' : HP} (h : FM σ σ') {a j v : Int} (h1 : 101 < a ∧ a ≤ 114) (ha : layT.all (fun t => !(decide (t.1 = a) && decide (0 ≤ t.2.1))) = true) (hj : 0 ≤ j) : FM σ (up σ' a j v) := ⟨fun p k q => by rw [up_n1 _ _ _ _ (by omega)]; exact h.1 p k q, h.2.upd ha (by omega) hj⟩
theorem FM.upf {σ σ' : HP} (h : FM σ σ') {j v : Int} (ha : okf j) : FM σ (up σ' 101 j v) := ⟨fun p k q => by rw [up_n1 _ _ _ _ (by omega)]; exact h.1 p k q, h.2.upf ha (by omega)⟩
/-- all of the reference's state but its row -/
def MK (σ : HP) (S : AS) : Prop := σ 101 3 = (S.hs.length : Nat) ∧ S.hs.length ≤ 10 ∧ (∀ i : Nat, i < S.hs.length → ∀ k : Nat, k < 783 → σ 104 ((783 * (S.hs.length - 1 - i) + k : Nat) : Int) = encR (unN S.sl S.hs (i + 1)) k) ∧ (∀ (i s : Nat) (o : Option LB), S.hs[i]? = some (s, o) → s < 3 ∧ ∀ L, o = some L → wfL L) ∧ inR σ 101 106 400 7 S.tp ∧ σ 101 8 = S.fk ∧ σ 101 9 = S.fp ∧ inR σ 101 114 2400 28 S.ot
theorem MM.mk {σ : HP} {S : AS} (h : MM σ S) : MK σ S := ⟨h.km, h.dl, h.kp, h.hw, h.tp, h.fk, h.fp, h.ot⟩
theorem MK.mm {σ : HP} {S : AS} (h : MK σ S) (h1 : ∀ k : Nat, k < 783 → σ 102 k = encR S.sl k) (h2 : ∀ (s : Nat) (L : LB), s < 3 → S.sl s = some L → wfL L) : MM σ S := by
  obtain ⟨a, b, c, e, f, g, i, j⟩ := h
  exact ⟨h1, h2, a, b, c, e, f, g, i, j⟩
theorem inR_same {σ σ' : HP} {a c m f : Int} {l : List Nat} (h : inR σ a c m f l) (h1 : σ' a f = σ a f) (h2 : ∀ j, σ' c j = σ c j) : inR σ' a c m f l := ⟨by rw [h1]; exact h.1, h.2.1, fun i x hx => by rw [h2]; exact h.2.2 i x hx⟩
theorem MK.same {σ σ' : HP} {S : AS} (h : MK σ S) (hs : ∀ a j, a = 104 ∨ a = 106 ∨ a = 114 ∨ (a = 101 ∧ (j = 3 ∨ (7 ≤ j ∧ j ≤ 9) ∨ j = 28)) → σ' a j = σ a j) : MK σ' S := by
  obtain ⟨a, b, c, e, f, g, i, j⟩ := h
  refine ⟨by rw [hs _ _ (by omega)]; exact a, b, fun i hi k hk => by rw [hs _ _ (by omega)]; exact c i hi k hk, e, inR_same f (hs _ _ (by omega)) (fun j => hs _ _ (by omega)), by rw [hs _ _ (by omega)]; exact g, by rw [hs _ _ (by omega)]; exact i, inR_same j (hs _ _ (by omega)) (fun j => hs _ _ (by omega))⟩
theorem setS_s (f : Nat → Option LB) (s : Nat) (o : Option LB) : setS f s o s = o := by unfold setS; rw [if_pos rfl]
theorem setS_n (f : Nat → Option LB) {s t : Nat} (o : Option LB) (h : t ≠ s) : setS f s o t = f t := by unfold setS; rw [if_neg h]
theorem setS_b (f : Nat → Option LB) (s : Nat) (o : Option LB) : setS (setS f s o) s (f s) = f := by
  funext t
  by_cases z : t = s
  · subst z; rw [setS_s]
  · rw [setS_n _ _ z, setS_n _ _ z]
theorem unN_take : ∀ (n i : Nat) (f : Nat → Option LB) (h : List (Nat × Option LB)), i ≤ n → unN f (h.take n) i = unN f h i := by
  intro n
  induction n with
  | zero => intro i f h hi; have : i = 0 := by omega
            subst this; cases h <;> rfl
  | succ n ih =>
    intro i f h hi
    match i, h with
    | 0, [] => rfl
    | 0, _ :: _ => rfl
    | i + 1, [] => rfl
    | i + 1, (s, o) :: h => exact ih i _ h (by omega)
/-- remembers -/
theorem s183l {d : Nat} {σ0 : HP} : ∀ (m k : Nat) (σ : HP), k + m = 783 → FM σ0 σ → (∀ j : Nat, j < k → σ 103 j = σ 102 j) → ∃ σ', rsP PG0 MX d 183 2 [vR 101, vI k] [] σ = some (0, σ') ∧ FM σ0 σ' ∧ (∀ a j, a ≠ 103 → σ' a j = σ a j) ∧ ∀ j : Nat, j < 783 → σ' 103 j = σ 102 j := by
  intro m
  induction m with
  | zero =>
    intro k σ hk hF h1
    refine ⟨σ, ?_, hF, fun _ _ _ => rfl, fun j hj => h1 j (by omega)⟩
    rw [sg_183_2]
    (try simp (disch := omega) only [wr_id2])
    repeat (first | ((with_reducible refine step_t ?_ ?_); with_reducible exact True.intro) | ((with_reducible refine step_t ?_ ?_); omega) | ((with_reducible refine step_f ?_ ?_); omega))
    rfl
  | succ m ih =>
    intro k σ hk hF h1
    have hy := hF.2
    have y1 := hy.1; have k101 := y101_m1 hy; have p102 := y101_0 hy; have k102 := y102_m1 hy; have l102 := y102_m2 hy; have p103 := y101_1 hy; have k103 := y103_m1 hy; have l103 := y103_m2 hy
    have hF1 : FM σ0 (up σ 103 (k : Nat) (σ 102 k)) := hF.upd (by omega) okr_103 (by omega)
    obtain ⟨σ', k1, k2, k3, k4⟩ := ih (k + 1) _ (by omega) hF1 (fun j hj => by
      rw [up_n1 σ (a := 103) (b := 102) _ _ _ (by omega)]
      by_cases z : j = k
      · subst z; rw [up_s]
      · rw [up_n2 _ _ _ _ (by omega)]; exact h1 j (by omega))
    refine ⟨σ', ?_, k2, fun a j ha => by rw [k3 a j ha, up_n1 _ _ _ _ ha], fun j hj => by rw [k4 j hj, up_n1 _ _ _ _ (by omega)]⟩
    rw [sg_183_2]
    (try simp (disch := omega) only [p102, p103, wr_id2])
    repeat (first | ((with_reducible refine step_t ?_ ?_); with_reducible exact True.intro) | ((with_reducible refine step_t ?_ ?_); omega) | ((with_reducible refine step_f ?_ ?_); omega))
    exact k1
theorem s183 {d : Nat} (h : 1 ≤ d) {σ : HP} (hy : Lay σ) : ∃ σ', clR PG0 MX d 183 [vR 101] σ = some (0, σ') ∧ FM σ σ' ∧ (∀ a j, a ≠ 103 → σ' a j = σ a j) ∧ ∀ j : Nat, j < 783 → σ' 103 j = σ 102 j := by
  obtain ⟨d, rfl⟩ := ob1 (show 1 ≤ d by omega)
  obtain ⟨σ', k1, k2⟩ := s183l (d := d) 783 0 σ (by omega) (FM.rf hy) (fun j hj => by omega)
  refine ⟨σ', ?_, k2⟩
  rw [ce_183, sg_183_0]
  exact k1
/-- what is made -/
def mdR (σ : HP) (l : List Nat) : Prop := σ 101 5 = (l.length : Nat) ∧ l.length ≤ 600 ∧ ∀ i x : Nat, l[i]? = some x → σ 105 i = x
theorem mdR_same {σ σ' : HP} {l : List Nat} (h : mdR σ l) (h1 : σ' 101 5 = σ 101 5) (h2 : ∀ j, σ' 105 j = σ 105 j) : mdR σ' l := ⟨by rw [h1]; exact h.1, h.2.1, fun i x hx => by rw [h2]; exact h.2.2 i x hx⟩
/-- lays -/
theorem s182l {d : Nat} {σ0 : HP} {s : Nat} (hs : s < 3) {l : List Nat} : ∀ (m i : Nat) (σ : HP) (u2 u3 u4 u5 : MV), i + m = 256 → FM σ0 σ → mdR σ l → (∀ j : Nat, j < i → σ 102 (261 * (s : Int) + 5 + j) = (l[j]?.getD 0 : Nat)) → ∃ σ', rsP PG0 MX d 182 77 [vR 101, vI s, u2, u3, u4, u5, vI i] [] σ = some (0, σ') ∧ FM σ0 σ' ∧ (∀ a j, (a ≠ 102 ∨ j < 261 * (s : Int) + 5 ∨ 261 * (s : Int) + 261 ≤ j) → σ' a j = σ a j) ∧ ∀ j : Nat, j < 256 → σ' 102 (261 * (s : Int) + 5 + j) = (l[j]?.getD 0 : Nat) := by
  intro m
  induction m with
  | zero =>
    intro i σ u2 u3 u4 u5 hi hF hm h1
    refine ⟨σ, ?_, hF, fun _ _ _ => rfl, fun j hj => h1 j (by omega)⟩
    rw [sg_182_77]
    (try simp (disch := omega) only [wr_id2])
    repeat (first | ((with_reducible refine step_t ?_ ?_); with_reducible exact True.intro) | ((with_reducible refine step_t ?_ ?_); omega) | ((with_reducible refine step_f ?_ ?_); omega))
    rfl
  | succ m ih =>
    intro i σ u2 u3 u4 u5 hi hF hm h1
    have hy := hF.2
    have y1 := hy.1; have k101 := y101_m1 hy; have p102 := y101_0 hy; have k102 := y102_m1 hy; have l102 := y102_m2 hy; have p105 := y101_4 hy; have k105 := y105_m1 hy; have l105 := y105_m2 hy
    have m1 := hm.1
    have m2 := hm.2.1
    have hF1 : ∀ v : Int, FM σ0 (up σ 102 (261 * (s : Int) + 5 + i) v) := fun v => hF.upd (by omega) okr_102 (by omega)
    obtain ⟨σ', k1, k2, k3, k4⟩ := ih (i + 1) _ vU vU vU vU (by omega) (hF1 (l[i]?.getD 0 : Nat)) (mdR_same hm (up_n1 _ _ _ _ (by omega)) (fun j => up_n1 _ _ _ _ (by omega))) (fun j hj => by
      by_cases z : j = i
      · subst z; rw [up_s]
      · rw [up_n2 _ _ _ _ (by omega)]; exact h1 j (by omega))
    refine ⟨σ', ?_, k2, fun a j ha => by
      rw [k3 a j ha]
      rcases ha with ha | ha
      · rw [up_n1 _ _ _ _ ha]
      · rw [up_n2 _ _ _ _ (by omega)], k4⟩
    rw [sg_182_77]
    (try simp (disch := omega) only [p102, p105, m1, wr_id2])
    by_cases z : i < l.length
    · obtain ⟨x, hx⟩ : ∃ x, l[i]? = some x := ⟨_, List.getElem?_eq_getElem z⟩
      have e := hm.2.2 i x hx
      rw [hx] at k1
      repeat (first | ((with_reducible refine step_t ?_ ?_); with_reducible exact True.intro) | ((with_reducible refine step_t ?_ ?_); omega) | ((with_reducible refine step_f ?_ ?_); omega))
      rw [e]
      exact k1
    · rw [List.getElem?_eq_none (by omega)] at k1
      repeat (first | ((with_reducible refine step_t ?_ ?_); with_reducible exact True.intro) | ((with_reducible refine step_t ?_ ?_); omega) | ((with_reducible refine step_f ?_ ?_); omega))
      exact k1
theorem s182 {d : Nat} (h : 2 ≤ d) {σ : HP} {S : AS} (hy : Lay σ) (hm : MM σ S) {s : Nat} (hs : s < 3) {l : List Nat} (hd : mdR σ l) {o : Option LB} {a b c e : Int} (ha : encA o 0 = a) (hb : encA o 1 = b) (hc : encA o 2 = c) (he : encA o 3 = e) (hl : encA o 4 = (l.length : Nat)) (hT : ∀ i : Nat, i < 256 → encA o (5 + i) = (l[i]?.getD 0 : Nat)) : ∃ σ', clR PG0 MX d 182 [vR 101, vI s, vI a, vI b, vI c, vI e] σ = some (0, σ') ∧ FM σ σ' ∧ MK σ' S ∧ (∀ k : Nat, k < 783 → σ' 103 k = encR S.sl k) ∧ (∀ k : Nat, k < 783 → σ' 102 k = encR (setS S.sl s o) k) ∧ mdR σ' l := by
  obtain ⟨d, rfl⟩ := ob1 (show 1 ≤ d by omega)
  obtain ⟨σ1, j1, j2, j3, j4⟩ := s183 (d := d) (by omega) hy
  have hy1 := j2.2
  have y1 := hy.1; have k101 := y101_m1 hy
  have y1b := hy1.1; have k101b := y101_m1 hy1; have p102b := y101_0 hy1; have k102b := y102_m1 hy1; have l102b := y102_m2 hy1
  have e5 : σ1 101 5 = (l.length : Nat) := by rw [j3 _ _ (by omega)]; exact hd.1
  have F1 : FM σ (up σ1 102 (261 * (s : Int) + 0) a) := j2.upd (by omega) okr_102 (by omega)
  have F2 : FM σ (up (up σ1 102 (261 * (s : Int) + 0) a) 102 (261 * (s : Int) + 1) b) := F1.upd (by omega) okr_102 (by omega)
  have F3 : FM σ (up (up (up σ1 102 (261 * (s : Int) + 0) a) 102 (261 * (s : Int) + 1) b) 102 (261 * (s : Int) + 2) c) := F2.upd (by omega) okr_102 (by omega)
  have F4 : FM σ (up (up (up (up σ1 102 (261 * (s : Int) + 0) a) 102 (261 * (s : Int) + 1) b) 102 (261 * (s : Int) + 2) c) 102 (261 * (s : Int) + 3) e) := F3.upd (by omega) okr_102 (by omega)
  have F5 : FM σ (up (up (up (up (up σ1 102 (261 * (s : Int) + 0) a) 102 (261 * (s : Int) + 1) b) 102 (261 * (s : Int) + 2) c) 102 (261 * (s : Int) + 3) e) 102 (261 * (s : Int) + 4) (l.length : Nat)) := F4.upd (by omega) okr_102 (by omega)
  have g1 := F1.2
  have g2 := F2.2
  have g3 := F3.2
  have g4 := F4.2
  have y1c := g1.1; have k101c := y101_m1 g1; have p102c := y101_0 g1; have k102c := y102_m1 g1; have l102c := y102_m2 g1
  have y1d := g2.1; have k101d := y101_m1 g2; have p102d := y101_0 g2; have k102d := y102_m1 g2; have l102d := y102_m2 g2
  have y1e := g3.1; have k101e := y101_m1 g3; have p102e := y101_0 g3; have k102e := y102_m1 g3; have l102e := y102_m2 g3
  have y1f := g4.1; have k101f := y101_m1 g4; have p102f := y101_0 g4; have k102f := y102_m1 g4; have l102f := y102_m2 g4
  have e5f : (up (up (up (up σ1 102 (261 * (s : Int) + 0) a) 102 (261 * (s : Int) + 1) b) 102 (261 * (s : Int) + 2) c) 102 (261 * (s : Int) + 3) e) 101 5 = (l.length : Nat) := by
    rw [up_n1 _ _ _ _ (by omega), up_n1 _ _ _ _ (by omega), up_n1 _ _ _ _ (by omega), up_n1 _ _ _ _ (by omega)]; exact e5
  have hsm : ∀ x j, (x ≠ 102 ∨ j < 261 * (s : Int) ∨ 261 * (s : Int) + 4 < j) → (up (up (up (up (up σ1 102 (261 * (s : Int) + 0) a) 102 (261 * (s : Int) + 1) b) 102 (261 * (s : Int) + 2) c) 102 (261 * (s : Int) + 3) e) 102 (261 * (s : Int) + 4) (l.length : Nat)) x j = σ1 x j := fun x j hx => by
    rcases hx with hx | hx
    · rw [up_n1 _ _ _ _ hx, up_n1 _ _ _ _ hx, up_n1 _ _ _ _ hx, up_n1 _ _ _ _ hx, up_n1 _ _ _ _ hx]
    · rw [up_n2 _ _ _ _ (by omega), up_n2 _ _ _ _ (by omega), up_n2 _ _ _ _ (by omega), up_n2 _ _ _ _ (by omega), up_n2 _ _ _ _ (by omega)]
  have v0 : (up (up (up (up (up σ1 102 (261 * (s : Int) + 0) a) 102 (261 * (s : Int) + 1) b) 102 (261 * (s : Int) + 2) c) 102 (261 * (s : Int) + 3) e) 102 (261 * (s : Int) + 4) (l.length : Nat)) 102 (261 * (s : Int) + 0) = a := by
    rw [up_n2 _ _ _ _ (by omega), up_n2 _ _ _ _ (by omega), up_n2 _ _ _ _ (by omega), up_n2 _ _ _ _ (by omega), up_s]
  have v1 : (up (up (up (up (up σ1 102 (261 * (s : Int) + 0) a) 102 (261 * (s : Int) + 1) b) 102 (261 * (s : Int) + 2) c) 102 (261 * (s : Int) + 3) e) 102 (261 * (s : Int) + 4) (l.length : Nat)) 102 (261 * (s : Int) + 1) = b := by
    rw [up_n2 _ _ _ _ (by omega), up_n2 _ _ _ _ (by omega), up_n2 _ _ _ _ (by omega), up_s]
  have v2 : (up (up (up (up (up σ1 102 (261 * (s : Int) + 0) a) 102 (261 * (s : Int) + 1) b) 102 (261 * (s : Int) + 2) c) 102 (261 * (s : Int) + 3) e) 102 (261 * (s : Int) + 4) (l.length : Nat)) 102 (261 * (s : Int) + 2) = c := by
    rw [up_n2 _ _ _ _ (by omega), up_n2 _ _ _ _ (by omega), up_s]
  have v3 : (up (up (up (up (up σ1 102 (261 * (s : Int) + 0) a) 102 (261 * (s : Int) + 1) b) 102 (261 * (s : Int) + 2) c) 102 (261 * (s : Int) + 3) e) 102 (261 * (s : Int) + 4) (l.length : Nat)) 102 (261 * (s : Int) + 3) = e := by
    rw [up_n2 _ _ _ _ (by omega), up_s]
  have v4 : (up (up (up (up (up σ1 102 (261 * (s : Int) + 0) a) 102 (261 * (s : Int) + 1) b) 102 (261 * (s : Int) + 2) c) 102 (261 * (s : Int) + 3) e) 102 (261 * (s : Int) + 4) (l.length : Nat)) 102 (261 * (s : Int) + 4) = (l.length : Nat) := by
    rw [up_s]
  have hd5 : mdR (up (up (up (up (up σ1 102 (261 * (s : Int) + 0) a) 102 (261 * (s : Int) + 1) b) 102 (261 * (s : Int) + 2) c) 102 (261 * (s : Int) + 3) e) 102 (261 * (s : Int) + 4) (l.length : Nat)) l := mdR_same hd (by rw [hsm _ _ (by omega), j3 _ _ (by omega)]) (fun j => by rw [hsm _ _ (by omega), j3 _ _ (by omega)])
  generalize hσ5 : (up (up (up (up (up σ1 102 (261 * (s : Int) + 0) a) 102 (261 * (s : Int) + 1) b) 102 (261 * (s : Int) + 2) c) 102 (261 * (s : Int) + 3) e) 102 (261 * (s : Int) + 4) (l.length : Nat)) = σ5 at *
  obtain ⟨σ6, n1, n2, n3, n4⟩ := s182l (d := d) hs (l := l) 256 0 σ5 (vI a) (vI b) (vI c) (vI e) (by omega) F5 hd5 (fun j hj => by omega)
  have hsm2 : ∀ x j, x ≠ 102 → σ6 x j = σ1 x j := fun x j hx => by rw [n3 _ _ (Or.inl hx), hsm _ _ (Or.inl hx)]
  refine ⟨σ6, ?_, n2, ?_, fun k hk => ?_, fun k hk => ?_, ?_⟩
  · rw [ce_182, sg_182_0]
    repeat (first | ((with_reducible refine step_t ?_ ?_); with_reducible exact True.intro) | ((with_reducible refine step_t ?_ ?_); omega) | ((with_reducible refine step_f ?_ ?_); omega))
    refine step_c (j1) ?_
    try dsimp only
    (try simp (disch := omega) only [p102b, p102c, wr_id2])
    repeat (first | ((with_reducible refine step_t ?_ ?_); with_reducible exact True.intro) | ((with_reducible refine step_t ?_ ?_); omega) | ((with_reducible refine step_f ?_ ?_); omega))
    rw [sg_182_30]
    (try simp (disch := omega) only [p102d, p102e, wr_id2])
    repeat (first | ((with_reducible refine step_t ?_ ?_); with_reducible exact True.intro) | ((with_reducible refine step_t ?_ ?_); omega) | ((with_reducible refine step_f ?_ ?_); omega))
    rw [sg_182_58]
    (try simp (disch := omega) only [p102f, e5f, wr_id2])
    repeat (first | ((with_reducible refine step_t ?_ ?_); with_reducible exact True.intro) | ((with_reducible refine step_t ?_ ?_); omega) | ((with_reducible refine step_f ?_ ?_); omega))
    rw [hσ5]
    exact n1
  · exact hm.mk.same (fun x j hx => by rw [hsm2 _ _ (by omega), j3 _ _ (by omega)])
  · rw [hsm2 _ _ (by omega), j4 k hk]; exact hm.row k hk
  · have hk261 : k / 261 < 3 := by omega
    unfold encR
    by_cases z : k / 261 = s
    · rw [z, setS_s]
      have hk2 : (k : Int) = 261 * (s : Int) + ((k % 261 : Nat) : Int) := by omega
      rcases (show k % 261 = 0 ∨ k % 261 = 1 ∨ k % 261 = 2 ∨ k % 261 = 3 ∨ k % 261 = 4 ∨ 5 ≤ k % 261 by omega) with q | q | q | q | q | q
      · rw [hk2, q, ha, n3 _ _ (by omega)]; exact v0
      · rw [hk2, q, hb, n3 _ _ (by omega)]; exact v1
      · rw [hk2, q, hc, n3 _ _ (by omega)]; exact v2
      · rw [hk2, q, he, n3 _ _ (by omega)]; exact v3
      · rw [hk2, q, hl, n3 _ _ (by omega)]; exact v4
      · have e1 := n4 (k % 261 - 5) (by omega)
        have e2 := hT (k % 261 - 5) (by omega)
        rw [show 5 + (k % 261 - 5) = k % 261 by omega] at e2
        rw [e2, ← e1, show (k : Int) = 261 * (s : Int) + 5 + ((k % 261 - 5 : Nat) : Int) by omega]
    · rw [setS_n _ _ z, n3 _ _ (by omega), hsm _ _ (by omega), j3 _ _ (by omega)]
      exact hm.row k hk
  · exact mdR_same hd (by rw [hsm2 _ _ (by omega), j3 _ _ (by omega)]) (fun j => by rw [hsm2 _ _ (by omega), j3 _ _ (by omega)])
/-- keeps -/
theorem s184b {d : Nat} {σ0 : HP} {v : Int} {c : Nat} (hc : c < 10) : ∀ (m k : Nat) (σ : HP), k + m = 783 → FM σ0 σ → σ 101 3 = c → (∀ j : Nat, j < k → σ 104 ((783 * c + j : Nat) : Int) = σ 103 j) → ∃ σ', rsP PG0 MX d 184 52 [vR 101, vI v, vI k] [] σ = some (v, σ') ∧ FM σ0 σ' ∧ (∀ a j, (a ≠ 104 ∨ j < 783 * (c : Int)) → (a ≠ 101 ∨ j ≠ 3) → σ' a j = σ a j) ∧ σ' 101 3 = (c : Int) + 1 ∧ ∀ j : Nat, j < 783 → σ' 104 ((783 * c + j : Nat) : Int) = σ 103 j := by
  intro m
  induction m with
  | zero =>
    intro k σ hk hF h3 h1
    have hy := hF.2
    have y1 := hy.1; have k101 := y101_m1 hy
    refine ⟨up σ 101 3 ((c : Int) + 1), ?_, hF.upf okf_3, fun a j h4 h5 => ?_, up_s _ _ _ _, fun j hj => ?_⟩
    · rw [sg_184_52]
      (try simp (disch := omega) only [h3, wr_id2])
      repeat (first | ((with_reducible refine step_t ?_ ?_); with_reducible exact True.intro) | ((with_reducible refine step_t ?_ ?_); omega) | ((with_reducible refine step_f ?_ ?_); omega))
      rfl
    · rcases h5 with h5 | h5
      · rw [up_n1 _ _ _ _ h5]
      · rw [up_n2 _ _ _ _ h5]
    · rw [up_n1 _ _ _ _ (by omega)]; exact h1 j (by omega)
  | succ m ih =>
    intro k σ hk hF h3 h1
    have hy := hF.2
    have y1 := hy.1; have k101 := y101_m1 hy; have p103 := y101_1 hy; have k103 := y103_m1 hy; have l103 := y103_m2 hy; have p104 := y101_2 hy; have k104 := y104_m1 hy; have l104 := y104_m2 hy
    have hF1 : FM σ0 (up σ 104 ((783 * c + k : Nat) : Int) (σ 103 k)) := hF.upd (by omega) okr_104 (by omega)
    obtain ⟨σ', k1, k2, k3, k4, k5⟩ := ih (k + 1) _ (by omega) hF1 (by rw [up_n1 _ _ _ _ (by omega)]; exact h3) (fun j hj => by
      rw [up_n1 σ (a := 104) (b := 103) _ _ _ (by omega)]
      by_cases z : j = k
      · subst z; rw [up_s]
      · rw [up_n2 _ _ _ _ (by omega)]; exact h1 j (by omega))
    refine ⟨σ', ?_, k2, fun a j h4 h5 => by
      rw [k3 a j h4 h5]
      rcases h4 with h4 | h4
      · rw [up_n1 _ _ _ _ h4]
      · rw [up_n2 _ _ _ _ (by omega)], k4, fun j hj => by rw [k5 j hj, up_n1 _ _ _ _ (by omega)]⟩
    rw [show ((783 * c + k : Nat) : Int) = 783 * (c : Int) + (k : Int) by omega] at k1
    rw [sg_184_52]
    (try simp (disch := omega) only [p103, p104, h3, wr_id2])
    repeat (first | ((with_reducible refine step_t ?_ ?_); with_reducible exact True.intro) | ((with_reducible refine step_t ?_ ?_); omega) | ((with_reducible refine step_f ?_ ?_); omega))
    exact k1
theorem s184a {d : Nat} {σ0 : HP} {v : Int} : ∀ (m k : Nat) (σ : HP), k + m = 7047 → FM σ0 σ → σ 101 3 = 10 → ∃ σ', rsP PG0 MX d 184 11 [vR 101, vI v, vI k] [] σ = rsP PG0 MX d 184 52 [vR 101, vI v, vI 0] [] σ' ∧ FM σ0 σ' ∧ (∀ a j, a ≠ 104 → (a ≠ 101 ∨ j ≠ 3) → σ' a j = σ a j) ∧ σ' 101 3 = 9 ∧ (∀ j : Nat, j < k → σ' 104 j = σ 104 j) ∧ ∀ j : Nat, k ≤ j → j < 7047 → σ' 104 j = σ 104 ((j + 783 : Nat) : Int) := by
  intro m
  induction m with
  | zero =>
    intro k σ hk hF h3
    have hy := hF.2
    have y1 := hy.1; have k101 := y101_m1 hy
    refine ⟨up σ 101 3 9, ?_, hF.upf okf_3, fun a j h4 h5 => ?_, up_s _ _ _ _, fun j hj => up_n1 _ _ _ _ (by omega), fun j h1 h2 => by omega⟩
    · rw [sg_184_11]
      (try simp (disch := omega) only [h3, wr_id2])
      repeat (first | ((with_reducible refine step_t ?_ ?_); with_reducible exact True.intro) | ((with_reducible refine step_t ?_ ?_); omega) | ((with_reducible refine step_f ?_ ?_); omega))
      rfl
    · rcases h5 with h5 | h5
      · rw [up_n1 _ _ _ _ h5]
      · rw [up_n2 _ _ _ _ h5]
  | succ m ih =>
    intro k σ hk hF h3
    have hy := hF.2
    have y1 := hy.1; have k101 := y101_m1 hy; have p104 := y101_2 hy; have k104 := y104_m1 hy; have l104 := y104_m2 hy
    have hF1 : FM σ0 (up σ 104 (k : Nat) (σ 104 ((k + 783 : Nat) : Int))) := hF.upd (by omega) okr_104 (by omega)
    obtain ⟨σ', k1, k2, k3, k4, k5, k6⟩ := ih (k + 1) _ (by omega) hF1 (by rw [up_n1 _ _ _ _ (by omega)]; exact h3)
    refine ⟨σ', ?_, k2, fun a j h4 h5 => by rw [k3 a j h4 h5, up_n1 _ _ _ _ h4], k4, fun j hj => by rw [k5 j (by omega), up_n2 _ _ _ _ (by omega)], fun j h4 h5 => ?_⟩
    · rw [show ((k + 783 : Nat) : Int) = (k : Int) + 783 by omega] at k1
      rw [sg_184_11]
      (try simp (disch := omega) only [p104, wr_id2])
      repeat (first | ((with_reducible refine step_t ?_ ?_); with_reducible exact True.intro) | ((with_reducible refine step_t ?_ ?_); omega) | ((with_reducible refine step_f ?_ ?_); omega))
      exact k1
    · by_cases z : j = k
      · subst z; rw [k5 j (by omega), up_s]
      · rw [k6 j (by omega) h5, up_n2 _ _ _ _ (by omega)]
theorem s184 {d : Nat} (h : 1 ≤ d) {σ : HP} {S : AS} (hy : Lay σ) (hk : MK σ S) {s : Nat} (hs : s < 3) {o : Option LB} (h3 : ∀ k : Nat, k < 783 → σ 103 k = encR S.sl k) (h2 : ∀ k : Nat, k < 783 → σ 102 k = encR (setS S.sl s o) k) (hw : ∀ (s : Nat) (L : LB), s < 3 → S.sl s = some L → wfL L) (ho : ∀ L, o = some L → wfL L) (v : Int) : ∃ σ', clR PG0 MX d 184 [vR 101, vI v] σ = some (v, σ') ∧ FM σ σ' ∧ MM σ' (actS S s o) := by
  obtain ⟨d, rfl⟩ := ob1 (show 1 ≤ d by omega)
  have y1 := hy.1; have k101 := y101_m1 hy
  obtain ⟨km, dl, kp, hhw, tp, fk, fp, ot⟩ := id hk
  have fin : ∀ (σ' : HP) (c : Nat), c = min S.hs.length 9 → FM σ σ' → (∀ a j, a ≠ 104 → (a ≠ 101 ∨ j ≠ 3) → σ' a j = σ a j) → σ' 101 3 = (c : Int) + 1 → (∀ i : Nat, i < c → ∀ k : Nat, k < 783 → σ' 104 ((783 * (c - 1 - i) + k : Nat) : Int) = encR (unN S.sl S.hs (i + 1)) k) → (∀ j : Nat, j < 783 → σ' 104 ((783 * c + j : Nat) : Int) = σ 103 j) → MM σ' (actS S s o) := by
    intro σ' c hc hF hsm e3 e4 e5
    have el : (actS S s o).hs.length = c + 1 := by
      show (((s, S.sl s) :: S.hs).take 10).length = c + 1
      rw [List.length_take, List.length_cons]
      omega
    have eu : ∀ i, i ≤ 9 → unN (actS S s o).sl (actS S s o).hs (i + 1) = unN S.sl S.hs i := by
      intro i hi
      show unN (setS (setS S.sl s o) s (S.sl s)) (S.hs.take 9) i = _
      rw [setS_b, unN_take 9 i _ _ hi]
    refine ⟨fun k hk2 => ?_, fun t L ht e => ?_, ?_, by rw [el]; omega, fun i hi k hk2 => ?_, fun i t o' hi => ?_, inR_same tp (hsm _ _ (by omega) (by omega)) (fun j => hsm _ _ (by omega) (by omega)), ?_, ?_, inR_same ot (hsm _ _ (by omega) (by omega)) (fun j => hsm _ _ (by omega) (by omega))⟩
    · rw [hsm _ _ (by omega) (by omega)]; exact h2 k hk2
    · have e : setS S.sl s o t = some L := e
      by_cases z : t = s
      · rw [z, setS_s] at e; exact ho L e
      · rw [setS_n _ _ z] at e; exact hw t L ht e
    · rw [el, e3]; omega
    · rw [el] at hi ⊢
      rw [eu i (by omega)]
      match i with
      | 0 =>
        rw [show c + 1 - 1 - 0 = c by omega, e5 k hk2]
        have : unN S.sl S.hs 0 = S.sl := by cases S.hs <;> rfl
        rw [this]
        exact h3 k hk2
      | i + 1 =>
        rw [show c + 1 - 1 - (i + 1) = c - 1 - i by omega]
        exact e4 i (by omega) k hk2
    · have hi : (((s, S.sl s) :: S.hs).take 10)[i]? = some (t, o') := hi
      have hi10 : i < 10 := by
        rcases Nat.lt_or_ge i 10 with z | z
        · exact z
        · rw [List.getElem?_eq_none (by rw [List.length_take]; omega)] at hi
          cases hi
      rw [List.getElem?_take_of_lt hi10] at hi
      match i, hi with
      | 0, hi =>
        have hi : some (s, S.sl s) = some (t, o') := hi
        cases hi
        exact ⟨hs, fun L e => hw s L hs e⟩
      | i + 1, hi => exact hhw i t o' (by simpa using hi)
    · rw [hsm _ _ (by omega) (by omega)]; exact fk
    · rw [hsm _ _ (by omega) (by omega)]; exact fp
  by_cases z : S.hs.length = 10
  · have km' : σ 101 3 = 10 := by rw [km, z]; rfl
    obtain ⟨σ1, j1, j2, j3, j4, j5, j6⟩ := s184a (d := d) (v := v) 7047 0 σ (by omega) (FM.rf hy) km'
    obtain ⟨σ2, k1, k2, k3, k4, k5⟩ := s184b (d := d) (v := v) (c := 9) (by omega) 783 0 σ1 (by omega) j2 j4 (fun j hj => by omega)
    refine ⟨σ2, ?_, k2, fin σ2 9 (by omega) k2 (fun a j h1 h2 => by rw [k3 _ _ (Or.inl h1) h2, j3 _ _ h1 h2]) k4 (fun i hi k hk2 => ?_) (fun j hj => by rw [k5 j hj, j3 _ _ (by omega) (by omega)])⟩
    · rw [ce_184, sg_184_0]
      (try simp (disch := omega) only [km', wr_id2])
      repeat (first | ((with_reducible refine step_t ?_ ?_); with_reducible exact True.intro) | ((with_reducible refine step_t ?_ ?_); omega) | ((with_reducible refine step_f ?_ ?_); omega))
      exact j1.trans k1
    · rw [k3 _ _ (Or.inr (by omega)) (by omega), j6 _ (by omega) (by omega)]
      have q := kp i (by omega) k hk2
      rw [z] at q
      rw [← q]
      congr 1
      omega
  · obtain ⟨σ2, k1, k2, k3, k4, k5⟩ := s184b (d := d) (v := v) (c := S.hs.length) (by omega) 783 0 σ (by omega) (FM.rf hy) km (fun j hj => by omega)
    refine ⟨σ2, ?_, k2, fin σ2 S.hs.length (by omega) k2 (fun a j h1 h2 => k3 _ _ (Or.inl h1) h2) k4 (fun i hi k hk2 => ?_) k5⟩
    · rw [ce_184, sg_184_0]
      (try simp (disch := omega) only [km, wr_id2])
      repeat (first | ((with_reducible refine step_t ?_ ?_); with_reducible exact True.intro) | ((with_reducible refine step_t ?_ ?_); omega) | ((with_reducible refine step_f ?_ ?_); omega))
      exact k1
    · rw [k3 _ _ (Or.inr (by omega)) (by omega)]
      exact kp i hi k hk2
/-- rows tell lists apart -/
theorem encA_inj {o p : Option LB} (ho : ∀ L, o = some L → wfL L) (hp : ∀ L, p = some L → wfL L) (h : ∀ j, j < 261 → encA o j = encA p j) : o = p := by
  have h0 := h 0 (by omega)
  match o, p, ho, hp with
  | none, none, _, _ => rfl
  | none, some M, _, hp =>
    have := (hp M rfl).2.1
    have h0 : (0 : Int) = (lN0 M : Nat) := h0
    omega
  | some L, none, ho, _ =>
    have := (ho L rfl).2.1
    have h0 : ((lN0 L : Nat) : Int) = 0 := h0
    omega
  | some L, some M, ho, hp =>
    have wL := ho L rfl
    have wM := hp M rfl
    have h0 : ((lN0 L : Nat) : Int) = (lN0 M : Nat) := h0
    have h1 : ((lA L : Nat) : Int) = (lA M : Nat) := h 1 (by omega)
    have h2 : ((lB L : Nat) : Int) = (lB M : Nat) := h 2 (by omega)
    have h3 : ((lS L : Nat) : Int) = (lS M : Nat) := h 3 (by omega)
    have h4 : (((lT L).length : Nat) : Int) = ((lT M).length : Nat) := h 4 (by omega)
    have hl := wf_len wL.1
    congr 1
    refine LB_ext (by omega) (by omega) (by omega) (by omega) (List.ext_getElem? (fun i => ?_))
    by_cases z : i < (lT L).length
    · have h5 := h (5 + i) (by omega)
      rw [encA_st, encA_st, List.getElem?_eq_getElem z, List.getElem?_eq_getElem (show i < (lT M).length by omega)] at h5
      rw [List.getElem?_eq_getElem z, List.getElem?_eq_getElem (show i < (lT M).length by omega)]
      congr 1
      exact Int.ofNat_inj.mp h5
    · rw [List.getElem?_eq_none (by omega), List.getElem?_eq_none (by omega)]
/-- done -/
theorem s197l {d : Nat} {σ : HP} (hy : Lay σ) {v : Int} {f g : Nat → Int} (hf : ∀ k : Nat, k < 783 → σ 103 k = f k ∧ i32 (f k)) (hg : ∀ k : Nat, k < 783 → σ 102 k = g k ∧ i32 (g k)) : ∀ (m k : Nat) (z : Bool), k + m = 783 → rsP PG0 MX d 197 4 [vR 101, vI v, vI (b2i z), vI k] [] σ = if (z && allF (fun j => decide (f j = g j)) m k) = true then some (v, σ) else bnd (clR PG0 MX d 184 [vR 101, vI v] σ) (fun q => some (q.1, q.2)) := by
  have y1 := hy.1; have k101 := y101_m1 hy; have p102 := y101_0 hy; have k102 := y102_m1 hy; have l102 := y102_m2 hy; have p103 := y101_1 hy; have k103 := y103_m1 hy; have l103 := y103_m2 hy
  intro m
  induction m with
  | zero =>
    intro k z hk
    rw [sg_197_4]
    (try simp (disch := omega) only [wr_b2i, wr_id2])
    refine step_t (by omega) ?_
    cases z with
    | false =>
      rw [Bool.false_and, if_neg (by decide)]
      refine step_t (show b2i false = 0 by decide) ?_
      repeat (first | ((with_reducible refine step_t ?_ ?_); with_reducible exact True.intro) | ((with_reducible refine step_t ?_ ?_); omega) | ((with_reducible refine step_f ?_ ?_); omega))
      rfl
    | true =>
      rw [show allF (fun j => decide (f j = g j)) 0 k = true from rfl, Bool.true_and, if_pos rfl]
      refine step_f (show ¬ (b2i true = 0) by decide) ?_
      rfl
  | succ m ih =>
    intro k z hk
    obtain ⟨f1, f2⟩ := hf k (by omega)
    obtain ⟨g1, g2⟩ := hg k (by omega)
    rw [sg_197_4]
    (try simp (disch := omega) only [wr_b2i, wr_id2])
    refine step_f (by omega) ?_
    cases z with
    | false =>
      rw [Bool.false_and, if_neg (by decide)]
      refine step_t (show b2i false = 0 by decide) ?_
      have q := ih (k + 1) false (by omega)
      rw [Bool.false_and, if_neg (by decide)] at q
      exact q
    | true =>
      refine step_f (show ¬ (b2i true = 0) by decide) ?_
      (try simp (disch := omega) only [p102, p103, f1, g1, f2.wr, g2.wr, wr_id2])
      repeat (first | ((with_reducible refine step_t ?_ ?_); with_reducible exact True.intro) | ((with_reducible refine step_t ?_ ?_); omega) | ((with_reducible refine step_f ?_ ?_); omega))
      rw [Bool.true_and]
      unfold allF
      refine step_i (fun e => ?_) (fun e => ?_)
      · rw [if_neg (show ¬ decide (f k = g k) = true by rw [decide_eq_true_iff]; exact e), if_neg (by decide)]
        have q := ih (k + 1) false (by omega)
        rw [Bool.false_and, if_neg (by decide)] at q
        exact q
      · rw [if_pos (decide_eq_true (Classical.byContradiction e))]
        have q := ih (k + 1) true (by omega)
        rw [Bool.true_and] at q
        exact q
theorem encA_b {o : Option LB} (ho : ∀ L, o = some L → wfL L) (j : Nat) : i32 (encA o j) := by
  match o, ho with
  | none, _ => exact ⟨by show -2147483648 ≤ (0 : Int); decide, by show (0 : Int) ≤ 2147483647; decide⟩
  | some L, ho =>
    have hw := ho L rfl
    have h1 := hw.1.1
    have h2 := hw.1.2.1
    have h3 := hw.1.2.2.1
    have h4 := lS_256 hw.1
    have h5 := wf_len hw.1
    unfold encA
    dsimp only
    by_cases z0 : j = 0
    · rw [if_pos z0]; exact i32_n (by omega)
    · rw [if_neg z0]
      by_cases z1 : j = 1
      · rw [if_pos z1]; exact i32_n (by omega)
      · rw [if_neg z1]
        by_cases z2 : j = 2
        · rw [if_pos z2]; exact i32_n (by omega)
        · rw [if_neg z2]
          by_cases z3 : j = 3
          · rw [if_pos z3]; exact i32_n (by omega)
          · rw [if_neg z3]
            by_cases z4 : j = 4
            · rw [if_pos z4]; exact i32_n (by omega)
            · rw [if_neg z4]
              cases e : (lT L)[j - 5]? with
              | none => exact ⟨by decide, by decide⟩
              | some x => have := st_lt hw.1 e; exact i32_n (by show x < _; omega)
theorem s197 {d : Nat} (h : 2 ≤ d) {σ : HP} {S : AS} (hy : Lay σ) (hk : MK σ S) {s : Nat} (hs : s < 3) {o : Option LB} (h3 : ∀ k : Nat, k < 783 → σ 103 k = encR S.sl k) (h2 : ∀ k : Nat, k < 783 → σ 102 k = encR (setS S.sl s o) k) (hw : ∀ (s : Nat) (L : LB), s < 3 → S.sl s = some L → wfL L) (ho : ∀ L, o = some L → wfL L) (v : Int) : ∃ σ', clR PG0 MX d 197 [vR 101, vI v] σ = some (v, σ') ∧ FM σ σ' ∧ MM σ' (setl S s o) := by
  obtain ⟨d, rfl⟩ := ob1 (show 1 ≤ d by omega)
  have y1 := hy.1; have k101 := y101_m1 hy
  have hw2 : ∀ (t : Nat) (L : LB), t < 3 → setS S.sl s o t = some L → wfL L := fun t L ht e => by
    by_cases z : t = s
    · rw [z, setS_s] at e; exact ho L e
    · rw [setS_n _ _ z] at e; exact hw t L ht e
  have q := s197l (d := d) hy (v := v) (f := encR S.sl) (g := encR (setS S.sl s o)) (fun k hk => ⟨h3 k hk, encA_b (fun L e => hw _ L (by omega) e) _⟩) (fun k hk => ⟨h2 k hk, encA_b (fun L e => hw2 _ L (by omega) e) _⟩) 783 0 true (by omega)
  by_cases z : S.sl s = o
  · have e1 : setS S.sl s o = S.sl := by
      funext t
      by_cases y : t = s
      · rw [y, setS_s]; exact z.symm
      · rw [setS_n _ _ y]
    have e2 : setl S s o = S := by unfold setl; rw [if_pos z]
    rw [e1] at q h2
    rw [Bool.true_and, if_pos ((allF_iff _ _ _).mpr (fun j _ _ => decide_eq_true rfl))] at q
    refine ⟨σ, ?_, FM.rf hy, by rw [e2]; exact hk.mm h2 hw⟩
    rw [ce_197, sg_197_0]
    exact q
  · have e2 : setl S s o = actS S s o := by unfold setl; rw [if_neg z]
    obtain ⟨σ', k1, k2, k3⟩ := s184 (d := d) (by omega) hy hk hs h3 h2 hw ho v
    rw [Bool.true_and, if_neg (fun y => z (encA_inj (fun L e => hw s L hs e) ho (fun j hj => by
      have := of_decide_eq_true ((allF_iff _ _ _).mp y (261 * s + j) (by omega) (by omega))
      unfold encR at this
      rw [show (261 * s + j) / 261 = s by omega, show (261 * s + j) % 261 = j by omega, setS_s] at this
      exact this))), k1] at q
    refine ⟨σ', ?_, k2, by rw [e2]; exact k3⟩
    rw [ce_197, sg_197_0]
    exact q
/-- changes -/
theorem s245 {d : Nat} (h : 4 ≤ d) {σ : HP} {S : AS} (hy : Lay σ) (hm : MM σ S) {n : Nat} (hn : n < 3) {L : LB} (en : S.sl n = some L) {l : List Nat} (hd : mdR σ l) {x : Nat} (hw : wfL (lN0 L, lA L, lB L, x, l)) (v : Int) : ∃ σ', clR PG0 MX d 245 [vR 101, vI n, vI x, vI v] σ = some (v, σ') ∧ FM σ σ' ∧ MM σ' (setl S n (some (lN0 L, lA L, lB L, x, l))) := by
  obtain ⟨d, rfl⟩ := ob1 (show 1 ≤ d by omega)
  have y1 := hy.1; have k101 := y101_m1 hy
  have hr := hm.slr hn en
  have hl : l.length ≤ 256 := wf_len hw.1
  obtain ⟨σ1, k1, k2, k3, k4, k5, k6⟩ := s182 (d := d) (by omega) hy hm hn hd (o := some (lN0 L, lA L, lB L, x, l)) (a := (lN0 L : Nat)) (b := (lA L : Nat)) (c := (lB L : Nat)) (e := (x : Nat)) rfl rfl rfl rfl rfl (fun i _ => encA_st _ i)
  obtain ⟨σ2, j1, j2, j3⟩ := s197 (d := d) (by omega) k2.2 k3 hn k4 k5 hm.wf (fun M e => by cases e; exact hw) v
  have hy1 := k2.2
  have y1b := hy1.1; have k101b := y101_m1 hy1
  refine ⟨σ2, ?_, k2.tr j2, j3⟩
  rw [ce_245, sg_245_0]
  repeat (first | ((with_reducible refine step_t ?_ ?_); with_reducible exact True.intro) | ((with_reducible refine step_t ?_ ?_); omega) | ((with_reducible refine step_f ?_ ?_); omega))
  refine step_c (s207 (by omega) hy hn hr) ?_
  try dsimp only
  repeat (first | ((with_reducible refine step_t ?_ ?_); with_reducible exact True.intro) | ((with_reducible refine step_t ?_ ?_); omega) | ((with_reducible refine step_f ?_ ?_); omega))
  refine step_c (s181 (by omega) hy hn (j := 1) (by omega) (by omega)) ?_
  try dsimp only
  repeat (first | ((with_reducible refine step_t ?_ ?_); with_reducible exact True.intro) | ((with_reducible refine step_t ?_ ?_); omega) | ((with_reducible refine step_f ?_ ?_); omega))
  refine step_c (s181 (by omega) hy hn (j := 2) (by omega) (by omega)) ?_
  try dsimp only
  rw [hr.2.1, hr.2.2.1]
  repeat (first | ((with_reducible refine step_t ?_ ?_); with_reducible exact True.intro) | ((with_reducible refine step_t ?_ ?_); omega) | ((with_reducible refine step_f ?_ ?_); omega))
  refine step_c (k1) ?_
  try dsimp only
  rw [sg_245_23]
  repeat (first | ((with_reducible refine step_t ?_ ?_); with_reducible exact True.intro) | ((with_reducible refine step_t ?_ ?_); omega) | ((with_reducible refine step_f ?_ ?_); omega))
  refine step_c (j1) ?_
  try dsimp only
