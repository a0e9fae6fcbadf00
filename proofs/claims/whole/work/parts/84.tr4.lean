/-! TRACKS: the reference -/
def gcF : Nat → Nat → Nat → Nat
  | 0, a, _ => a
  | f + 1, a, b => if b = 0 then a else gcF f b (a % b)
theorem gc_cm : ∀ N, N < 9 → ∀ r, r < N → 1 ≤ r → (gcF 9 N r = 1 ↔ cmF r N 7 2 = false) ∧ gcF 9 N r < 9 := by decide +kernel
theorem s261 {σ : HP} : ∀ (f d a b : Nat), b < f → f ≤ d → a < 256 → b < 256 → clR PG0 MX d 261 [vI a, vI b] σ = some (((gcF f a b : Nat) : Int), σ) := by
  intro f
  induction f with
  | zero => intro d a b h; omega
  | succ f ih =>
    intro d a b h1 h2 h3 h4
    obtain ⟨d, rfl⟩ := ob1 (show 1 ≤ d by omega)
    rw [ce_261, sg_261_0]
    show _ = some (((if b = 0 then a else gcF f b (a % b) : Nat) : Int), σ)
    by_cases z : b = 0
    · subst z
      rw [if_pos rfl]
      (try simp (disch := omega) only [wr_id2])
      repeat (first | ((with_reducible refine step_t ?_ ?_); with_reducible exact True.intro) | ((with_reducible refine step_t ?_ ?_); omega) | ((with_reducible refine step_f ?_ ?_); omega))
      rfl
    · rw [if_neg z]
      have e1 := i_rem_n (a := a) (b := b) (by omega) (by omega) (by omega)
      have m1 := Nat.mod_lt a (show 0 < b by omega)
      have e := ih d b (a % b) (by omega) (by omega) h4 (by omega)
      rw [e1]
      (try simp (disch := omega) only [wr_id2])
      repeat (first | ((with_reducible refine step_t ?_ ?_); with_reducible exact True.intro) | ((with_reducible refine step_t ?_ ?_); omega) | ((with_reducible refine step_f ?_ ?_); omega))
      refine step_c (e) ?_
      try dsimp only
/-- rolledBy -/
theorem s263 {d : Nat} (h : 1 ≤ d) (σ : HP) {N w b : Nat} (hN : N ≤ 8) (hw : w < 2 ^ N) (hb : b ≤ N) : clR PG0 MX d 263 [vR 101, vI N, vI w, vI b] σ = some (((rl N w b : Nat) : Int), σ) := by
  obtain ⟨d, rfl⟩ := ob1 (show 1 ≤ d by omega)
  rw [ce_263, sg_263_0, rl_m hN hw hb]
/-- isRound -/
theorem s262l {d : Nat} (h : 1 ≤ d) {σ : HP} (hy : Lay σ) {N w : Nat} (hN : N ≤ 8) (hw : w < 2 ^ N) : ∀ (m i : Nat), i + m = N → 1 ≤ i → cntB (fun b => decide (rl N w (b + 1) = w)) (i - 1) = 0 → rsP PG0 MX d 262 2 [vR 101, vI N, vI w, vI i] [] σ = some (b2i (rnd N w), σ) := by
  have hp8 := pow8 hN
  have y1 := hy.1; have k101 := y101_m1 hy
  intro m
  induction m with
  | zero =>
    intro i hi h1 hz
    have ei : i = N := by omega
    subst ei
    unfold rnd
    rw [hz, sg_262_2]
    (try simp (disch := omega) only [wr_id2])
    repeat (first | ((with_reducible refine step_t ?_ ?_); with_reducible exact True.intro) | ((with_reducible refine step_t ?_ ?_); omega) | ((with_reducible refine step_f ?_ ?_); omega))
    rfl
  | succ m ih =>
    intro i hi h1 hz
    have rb := rl_lt N w i
    have e263 := s263 (d := d) (by omega) σ (w := w) (b := i) hN hw (by omega)
    by_cases z : rl N w i = w
    · rw [rnd_t.mpr ⟨i - 1, by omega, by rw [show i - 1 + 1 = i by omega]; exact z⟩, sg_262_2]
      (try simp (disch := omega) only [wr_id2])
      repeat (first | ((with_reducible refine step_t ?_ ?_); with_reducible exact True.intro) | ((with_reducible refine step_t ?_ ?_); omega) | ((with_reducible refine step_f ?_ ?_); omega))
      refine step_c (e263) ?_
      try dsimp only
      (try simp (disch := omega) only [wr_id2])
      repeat (first | ((with_reducible refine step_t ?_ ?_); with_reducible exact True.intro) | ((with_reducible refine step_t ?_ ?_); omega) | ((with_reducible refine step_f ?_ ?_); omega))
      rfl
    · have e := ih (i + 1) (by omega) (by omega) (by
        obtain ⟨i', rfl⟩ : ∃ i', i = i' + 1 := ⟨i - 1, by omega⟩
        rw [Nat.add_sub_cancel] at hz ⊢
        rw [cntB_sf (decide_eq_false z)]
        exact hz)
      rw [sg_262_2]
      (try simp (disch := omega) only [wr_id2])
      repeat (first | ((with_reducible refine step_t ?_ ?_); with_reducible exact True.intro) | ((with_reducible refine step_t ?_ ?_); omega) | ((with_reducible refine step_f ?_ ?_); omega))
      refine step_c (e263) ?_
      try dsimp only
      (try simp (disch := omega) only [wr_id2])
      repeat (first | ((with_reducible refine step_t ?_ ?_); with_reducible exact True.intro) | ((with_reducible refine step_t ?_ ?_); omega) | ((with_reducible refine step_f ?_ ?_); omega))
      exact e
theorem s262 {d : Nat} (h : 2 ≤ d) {σ : HP} (hy : Lay σ) {N w : Nat} (h1 : 1 ≤ N) (hN : N ≤ 8) (hw : w < 2 ^ N) : clR PG0 MX d 262 [vR 101, vI N, vI w] σ = some (b2i (rnd N w), σ) := by
  obtain ⟨d, rfl⟩ := ob1 (show 1 ≤ d by omega)
  rw [ce_262, sg_262_0]
  exact s262l (d := d) (by omega) hy hN hw (N - 1) 1 (by omega) (Nat.le_refl _) rfl
/-- goes -/
theorem s264l {d : Nat} (h : 1 ≤ d) {σ0 : HP} {N w : Nat} (hN : N ≤ 8) (hw : w < 2 ^ N) (b : Bool) : ∀ (m i : Nat) (σ : HP) (gn : Nat → Bool), i + m = N → FQ σ0 σ → (∀ u : Nat, u < 256 → σ 109 u = b2i (gn u)) → ∃ (σ' : HP) (gn' : Nat → Bool), rsP PG0 MX d 264 3 [vR 101, vI N, vI w, vI (b2i b), vI i] [] σ = some (0, σ') ∧ FQ σ0 σ' ∧ (∀ a j, a ≠ 109 → σ' a j = σ a j) ∧ (∀ u : Nat, u < 256 → σ' 109 u = b2i (gn' u)) ∧ (∀ u c, i ≤ c → c < N → rl N w c = u → gn' u = b) ∧ ∀ u, (∀ c, i ≤ c → c < N → rl N w c ≠ u) → gn' u = gn u := by
  have hp8 := pow8 hN
  intro m
  induction m with
  | zero =>
    intro i σ br hi hF hr
    refine ⟨σ, br, ?_, hF, fun _ _ _ => rfl, hr, fun u c c1 c2 => by omega, fun _ _ => rfl⟩
    rw [sg_264_3]
    (try simp (disch := omega) only [wr_id2])
    repeat (first | ((with_reducible refine step_t ?_ ?_); with_reducible exact True.intro) | ((with_reducible refine step_t ?_ ?_); omega) | ((with_reducible refine step_f ?_ ?_); omega))
    rfl
  | succ m ih =>
    intro i σ br hi hF hr
    have hy := hF.2
    have y1 := hy.1; have k101 := y101_m1 hy; have p109 := y101_19 hy; have k109 := y109_m1 hy; have l109 := y109_m2 hy
    have hlt := rl_lt N w i
    obtain ⟨σ', br', k1, k2, k0, kr, k3, k4⟩ := ih (i + 1) (up σ 109 (rl N w i : Nat) (b2i b)) (fun u => if u = rl N w i then b else br u) (by omega) (hF.upd (by omega) okr_109 (by omega)) (fun u hu => by
      by_cases z : u = rl N w i
      · rw [if_pos z, z, up_s]
      · rw [if_neg z, up_n2 _ _ _ _ (by omega)]; exact hr u hu)
    refine ⟨σ', br', ?_, k2, fun a j ha => by rw [k0 a j ha, up_n1 _ _ _ _ ha], kr, fun u c c1 c2 c3 => ?_, fun u hu => ?_⟩
    · rw [sg_264_3]
      (try simp (disch := omega) only [wr_id2])
      repeat (first | ((with_reducible refine step_t ?_ ?_); with_reducible exact True.intro) | ((with_reducible refine step_t ?_ ?_); omega) | ((with_reducible refine step_f ?_ ?_); omega))
      refine step_c (s263 (by omega) σ hN hw (by omega)) ?_
      try dsimp only
      (try simp (disch := omega) only [p109, wr_id2])
      rw [decide_eq_true (show b2i b = 0 ∨ b2i b = 1 from b2i_01 b), decide_eq_true (show (32 : Int) ≤ 109 ∧ (109 : Int) < σ (-1) 0 ∧ σ 109 (-1) = 22 ∧ (0 : Int) ≤ ((rl N w i : Nat) : Int) ∧ ((rl N w i : Nat) : Int) < σ 109 (-2) by omega)]
      exact k1
    · by_cases z : ∃ c, i + 1 ≤ c ∧ c < N ∧ rl N w c = u
      · obtain ⟨c', e1, e2, e3⟩ := z
        exact k3 u c' e1 e2 e3
      · rw [k4 u (fun c' e1 e2 e3 => z ⟨c', e1, e2, e3⟩)]
        have : c = i := by
          by_cases zc : c = i
          · exact zc
          · exact absurd ⟨c, by omega, c2, c3⟩ z
        exact if_pos (by rw [← c3, this])
    · rw [k4 u (fun c' e1 e2 => hu c' (by omega) e2)]
      exact if_neg (fun q => hu i (Nat.le_refl _) (by omega) q.symm)
theorem s264 {d : Nat} (h : 2 ≤ d) {σ0 σ : HP} {N w : Nat} (hN : N ≤ 8) (hw : w < 2 ^ N) (b : Bool) {gn gn' : Nat → Bool} (hF : FQ σ0 σ) (hr : ∀ u : Nat, u < 256 → σ 109 u = b2i (gn u)) (hg : ∀ u, gn' u = if inC N w u = true then b else gn u) : ∃ σ', clR PG0 MX d 264 [vR 101, vI N, vI w, vI (b2i b)] σ = some (0, σ') ∧ FQ σ0 σ' ∧ (∀ a j, a ≠ 109 → σ' a j = σ a j) ∧ ∀ u : Nat, u < 256 → σ' 109 u = b2i (gn' u) := by
  obtain ⟨d, rfl⟩ := ob1 (show 1 ≤ d by omega)
  obtain ⟨σ', g2, k1, k2, k3, k4, k5, k6⟩ := s264l (d := d) (by omega) hN hw b N 0 σ gn (by omega) hF hr
  refine ⟨σ', ?_, k2, k3, fun u hu => ?_⟩
  · rw [ce_264, sg_264_0]
    exact k1
  · rw [k4 u hu, hg u]
    by_cases z : inC N w u = true
    · obtain ⟨c, c1, c2⟩ := inC_t.mp z
      rw [if_pos z, k5 u c (Nat.zero_le _) c1 c2]
    · rw [if_neg z, k6 u (fun c c1 c2 c3 => z (inC_t.mpr ⟨c, c2, c3⟩))]
theorem MRS.gn {σ0 σ σ' : HP} {P : LB} {gn gn' : Nat → Bool} {t : Nat} (h : MRS σ0 σ P gn t) (hF : FQ σ0 σ') (ha : ∀ a j, a ≠ 109 → σ' a j = σ a j) (hg : ∀ u : Nat, u < 256 → σ' 109 u = b2i (gn' u)) : MRS σ0 σ' P gn' t :=
  ⟨hF, h.2.1, hg, fun i hi => by rw [ha _ _ (by omega)]; exact h.2.2.2.1 i hi, fun i x hx => by rw [ha _ _ (by omega)]; exact h.2.2.2.2.1 i x hx, by rw [ha _ _ (by omega)]; exact h.2.2.2.2.2⟩
theorem MRS.push {σ0 σ : HP} {L : LB} {gn : Nat → Bool} {l : List Nat} {t k : Nat} (hM : MRS σ0 σ (pth L l) gn t) (hk : k < lN0 L) (hl : l.length < 256) : MRS σ0 (up (up (up σ 101 21 ((t : Int) + 1)) 105 (l.length : Nat) k) 110 ((l.length : Int) + 1) ((wd (pth L l) l.length ^^^ 2 ^ k : Nat) : Int)) (pth L (l ++ [k])) gn (t + 1) := by
  obtain ⟨hF, hw, h109, h110, h105, h21⟩ := hM
  have hF1 := ((hF.upf (j := 21) (v := (t : Int) + 1) (by omega) okf_21).upd (a := 105) (j := (l.length : Nat)) (v := k) (by omega) okr_105 (by omega)).upd (a := 110) (j := (l.length : Int) + 1) (v := ((wd (pth L l) l.length ^^^ 2 ^ k : Nat) : Int)) (by omega) okr_110 (by omega)
  refine ⟨hF1, wf_push (L := pth L l) hw hk hl, fun w hw2 => ?_, fun i hi => ?_, fun i x hx => ?_, ?_⟩
  · rw [up_n1 _ _ _ _ (by omega), up_n1 _ _ _ _ (by omega), up_n1 _ _ _ _ (by omega)]; exact h109 w hw2
  · have hi : i ≤ (l ++ [k]).length := hi
    rw [len_a] at hi
    by_cases z : i = l.length + 1
    · rw [z, wd_e, show ((l.length + 1 : Nat) : Int) = (l.length : Int) + 1 from rfl, up_s]
    · rw [wd_a (by omega), up_n2 _ _ _ _ (by omega), up_n1 _ _ _ _ (by omega), up_n1 _ _ _ _ (by omega)]; exact h110 i (by show i ≤ l.length; omega)
  · have hx : (l ++ [k])[i]? = some x := hx
    rw [up_n1 _ _ _ _ (by omega)]
    by_cases z : i < l.length
    · rw [List.getElem?_append_left z] at hx
      rw [up_n2 _ _ _ _ (by omega), up_n1 _ _ _ _ (by omega)]
      exact h105 i x hx
    · have hi : i < (l ++ [k]).length := by
        by_cases q : i < (l ++ [k]).length
        · exact q
        · rw [List.getElem?_eq_none (by omega)] at hx; cases hx
      rw [len_a] at hi
      have ei : i = l.length := by omega
      rw [ei] at hx ⊢
      rw [List.getElem?_append_right (Nat.le_refl _), Nat.sub_self] at hx
      have hx : some k = some x := hx
      rw [up_s, Option.some.inj hx]
  · rw [up_n1 _ _ _ _ (by omega), up_n1 _ _ _ _ (by omega), up_s]; rfl
theorem MRS.drop {σ0 σ : HP} {L : LB} {gn : Nat → Bool} {l : List Nat} {t k : Nat} (hM : MRS σ0 σ (pth L (l ++ [k])) gn t) (hw : wf0 (pth L l)) : MRS σ0 σ (pth L l) gn t := by
  obtain ⟨hF, -, h109, h110, h105, h21⟩ := hM
  have h110 : ∀ i : Nat, i ≤ (l ++ [k]).length → σ 110 i = (wd (pth L (l ++ [k])) i : Nat) := h110
  have h105 : ∀ i x : Nat, (l ++ [k])[i]? = some x → σ 105 i = x := h105
  refine ⟨hF, hw, h109, fun i hi => ?_, fun i x hx => ?_, h21⟩
  · have hi : i ≤ l.length := hi
    rw [h110 i (by rw [len_a]; omega), wd_a hi]
  · have hx : l[i]? = some x := hx
    have hi : i < l.length := by
      by_cases q : i < l.length
      · exact q
      · rw [List.getElem?_eq_none (by omega)] at hx; cases hx
    exact h105 i x (by rw [List.getElem?_append_left hi]; exact hx)
