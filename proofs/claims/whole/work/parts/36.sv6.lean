-- @after 30 31 35
theorem shl1 {x : Nat} (hx : x < 31) : i_shl 1 (x : Int) = ((2 ^ x : Nat) : Int) := by
  have h : 2 ^ x < 2147483648 := Nat.pow_lt_pow_right (a := 2) (by omega) hx
  have := i_shl_n (a := 1) (k := x) (by omega) (by omega)
  rw [Nat.one_mul] at this
  exact this
theorem p256 {x : Nat} (hx : x < 8) : 2 ^ x < 256 := Nat.pow_lt_pow_right (a := 2) (by omega) hx
theorem lstP_lt (L : LB) (w : Nat) : ∀ n, 0 < cwN L w n → lstP L w n < n ∧ wd L (lstP L w n) = w := by
  intro n
  induction n with
  | zero => intro h; cases h
  | succ n ih =>
    intro h
    have h : 0 < cwN L w n + (bif decide (wd L n = w) then 1 else 0) := h
    show (if wd L n = w then n else lstP L w n) < n + 1 ∧ wd L (if wd L n = w then n else lstP L w n) = w
    by_cases z : wd L n = w
    · rw [if_pos z]; exact ⟨by omega, z⟩
    · rw [if_neg z]
      rw [decide_eq_false z] at h
      have := ih h
      exact ⟨by omega, this.2⟩
theorem pbN_le (L : LB) {i j : Nat} (hi : i < shN L) (hj : j < shN L) : pbN L i j ≤ shN L := by
  unfold pbN
  by_cases z : lpB L = true
  · rw [if_pos z]
    by_cases z2 : i < j
    · rw [if_pos z2]; omega
    · rw [if_neg z2]; omega
  · rw [if_neg z]
    by_cases z2 : i < j
    · rw [if_pos z2]; omega
    · rw [if_neg z2]; omega
/-- isSnake -/
def snkI (L : LB) (p : Nat) : Nat → Nat → Bool
  | 0, _ => true
  | m + 1, x => if 0 < cW L (wd L p ^^^ 2 ^ x) ∧ 1 < pbN L p (lstP L (wd L p ^^^ 2 ^ x) (shN L)) then false else snkI L p m (x + 1)
def snkF (L : LB) : Nat → Nat → Bool
  | 0, _ => true
  | m + 1, p => if snkI L p (lN0 L) 0 = true then snkF L m (p + 1) else false
def snkB (L : LB) : Bool := clnB L && snkF L (shN L) 0
theorem s57i {d : Nat} (h : 7 ≤ d) {σ : HP} {b : Int} {L : LB} (hy : Lay σ) (hb : blr σ b L) (hw : wf0 L) (hr : shR σ L (shN L)) {p : Nat} (hp : p < shN L) : ∀ (m x : Nat) (u : MV), x + m = lN0 L → rsP PG0 MX d 57 25 [vR 84, vR b, vI (shN L : Nat), vI p, vI x, u] [] σ = if snkI L p m x = true then rsP PG0 MX d 57 17 [vR 84, vR b, vI (shN L : Nat), vI ((p + 1 : Nat) : Int), vI (lN0 L : Nat), vU] [] σ else some (0, σ) := by
  obtain ⟨⟨m1, m2, m3, m4, m5, m6, m7, m8, m9⟩, f3, f4, f5, f6, fs, fw⟩ := id hb
  have hl := wf_len hw
  have hs := shN_le L
  have h9 := hw.1
  have y1 := hy.1
  have a1 := y84_m1 hy
  have a2 := y84_0 hy
  have a3 := y84_1 hy
  have a4 := y85_m1 hy
  have a5 := y85_m2 hy
  have a6 := y86_m1 hy
  have a7 := y86_m2 hy
  intro m
  induction m with
  | zero =>
    intro x u hm
    have : x = lN0 L := by omega
    subst this
    rw [sg_57_25]
    (try simp (disch := omega) only [f3, wr_id2])
    repeat (first | refine step_t trivial ?_ | refine step_t (by omega) ?_ | refine step_f (by omega) ?_)
    rfl
  | succ m ih =>
    intro x u hm
    have q1 := wd_256 hw p
    have q2 : 2 ^ x < 256 := p256 (by omega)
    have q3 := xor_256 q1 q2
    have hc := cwN_le L (wd L p ^^^ 2 ^ x) (shN L)
    have ec : cW L (wd L p ^^^ 2 ^ x) = cwN L (wd L p ^^^ 2 ^ x) (shN L) := rfl
    rw [sg_57_25]
    (try simp (disch := omega) only [f3, m5, fw p (by omega), shl1 (x := x) (by omega), i_xor_n (a := wd L p) (b := 2 ^ x) (by omega) (by omega), a2, a3, hr.1 _ q3, wr_id2])
    repeat (first | refine step_t trivial ?_ | refine step_t (by omega) ?_ | refine step_f (by omega) ?_)
    unfold snkI
    refine step_i (fun g => ?_) (fun g => ?_)
    · rw [if_neg (show ¬ (0 < cW L (wd L p ^^^ 2 ^ x) ∧ 1 < pbN L p (lstP L (wd L p ^^^ 2 ^ x) (shN L))) from fun z => by omega)]
      exact ih (x + 1) _ (by omega)
    · have hcp : 0 < cwN L (wd L p ^^^ 2 ^ x) (shN L) := by omega
      have l1 := (lstP_lt L _ _ hcp).1
      have hpb := pbN_le L hp l1
      (try simp (disch := omega) only [a3, hr.2 _ q3 hcp, wr_id2])
      repeat (first | refine step_t trivial ?_ | refine step_t (by omega) ?_ | refine step_f (by omega) ?_)
      refine step_c (s58 (by omega) hb hw hp l1) ?_
      try dsimp only
      (try simp (disch := omega) only [wr_id2])
      refine step_i (fun g2 => ?_) (fun g2 => ?_)
      · rw [if_neg (show ¬ (0 < cW L (wd L p ^^^ 2 ^ x) ∧ 1 < pbN L p (lstP L (wd L p ^^^ 2 ^ x) (shN L))) from fun z => by omega)]
        exact ih (x + 1) _ (by omega)
      · rw [if_pos (show 0 < cW L (wd L p ^^^ 2 ^ x) ∧ 1 < pbN L p (lstP L (wd L p ^^^ 2 ^ x) (shN L)) from ⟨by omega, by omega⟩)]
        rfl
theorem s57l {d : Nat} (h : 7 ≤ d) {σ : HP} {b : Int} {L : LB} (hy : Lay σ) (hb : blr σ b L) (hw : wf0 L) (hr : shR σ L (shN L)) : ∀ (m p : Nat) (u v : MV), p + m = shN L → rsP PG0 MX d 57 17 [vR 84, vR b, vI (shN L : Nat), vI p, u, v] [] σ = some (b2i (snkF L m p), σ) := by
  have hl := wf_len hw
  have hs := shN_le L
  intro m
  induction m with
  | zero =>
    intro p u v hm
    rw [sg_57_17]
    (try simp (disch := omega) only [wr_id2])
    repeat (first | refine step_t trivial ?_ | refine step_t (by omega) ?_ | refine step_f (by omega) ?_)
    rfl
  | succ m ih =>
    intro p u v hm
    rw [sg_57_17]
    (try simp (disch := omega) only [wr_id2])
    repeat (first | refine step_t trivial ?_ | refine step_t (by omega) ?_ | refine step_f (by omega) ?_)
    refine Eq.trans (s57i (d := d) h hy hb hw hr (p := p) (by omega) (lN0 L) 0 _ (by omega)) ?_
    unfold snkF
    by_cases z : snkI L p (lN0 L) 0 = true
    · rw [if_pos z, if_pos z]
      exact ih (p + 1) _ _ (by omega)
    · rw [if_neg z, if_neg z]; rfl
theorem s57 {d : Nat} (h : 8 ≤ d) {σ : HP} {b : Int} {L : LB} (hy : Lay σ) (hb : blr σ b L) (hw : wf0 L) (hb43 : b + 2 < 43) : ∃ σ', clR PG0 MX d 57 [vR 84, vR b] σ = some (b2i (snkB L), σ') ∧ FS σ σ' := by
  obtain ⟨d, rfl⟩ := ob1 (show 1 ≤ d by omega)
  obtain ⟨σ1, j1, j2, j3, j4⟩ := s53 (d := d) (by omega) hy hb hw hb43
  have y1 := hy.1
  have a1 := y84_m1 hy
  obtain ⟨⟨n1, n2, n3, n4⟩, -⟩ := id j3
  refine ⟨σ1, ?_, j2⟩
  rw [ce_57, sg_57_0]
  (try simp (disch := omega) only [wr_id2])
  repeat (first | refine step_t trivial ?_ | refine step_t (by omega) ?_ | refine step_f (by omega) ?_)
  refine step_c (j1) ?_
  try dsimp only
  rw [wr_b2i]
  unfold snkB
  cases clnB L
  · refine step_f (show ¬ (b2i false ≠ 0) by decide) ?_
    rfl
  · refine step_t (show b2i true ≠ 0 by decide) ?_
    repeat (first | refine step_t trivial ?_ | refine step_t (by omega) ?_ | refine step_f (by omega) ?_)
    refine step_c (s42 (by omega) j3 hw) ?_
    try dsimp only
    exact s57l (d := d) (by omega) j2.2 j3 hw j4 (shN L) 0 _ _ (by omega)
/-- measureFarthest -/
def upM (f : Nat → Nat) (u v : Nat) : Nat → Nat := fun x => if x = u then max (f x) v else f x
def frI (L : LB) (i : Nat) : Nat → Nat → (Nat → Nat) → (Nat → Nat)
  | 0, _, f => f
  | m + 1, j, f => frI L i m (j + 1) (upM f (pop (wd L i ^^^ wd L j)) (pbN L i j))
def frO (L : LB) : Nat → Nat → (Nat → Nat) → (Nat → Nat)
  | 0, _, f => f
  | m + 1, i, f => frO L m (i + 1) (frI L i (shN L - (i + 1)) (i + 1) f)
def frR (σ : HP) (f : Nat → Nat) : Prop := ∀ u : Nat, u < 9 → σ 89 u = (f u : Nat) ∧ f u ≤ 257
theorem s94i {d : Nat} (h : 7 ≤ d) {σ0 : HP} {b : Int} {L : LB} (hw : wf0 L) (hb43 : b + 2 < 43) {i : Nat} (hi : i < shN L) : ∀ (m j : Nat) (f : Nat → Nat) (σ : HP) (u : MV), j + m = shN L → FS σ0 σ → blr σ b L → frR σ f → ∃ σ', rsP PG0 MX d 94 25 [vR 84, vR b, vI (shN L : Nat), vI i, vI j, u] [] σ = rsP PG0 MX d 94 15 [vR 84, vR b, vI (shN L : Nat), vI ((i + 1 : Nat) : Int), vI (shN L : Nat), vU] [] σ' ∧ FS σ0 σ' ∧ blr σ' b L ∧ frR σ' (frI L i m j f) := by
  have hl := wf_len hw
  have hs := shN_le L
  intro m
  induction m with
  | zero =>
    intro j f σ u hm hF hb hr
    have : j = shN L := by omega
    subst this
    refine ⟨σ, ?_, hF, hb, hr⟩
    rw [sg_94_25]
    (try simp (disch := omega) only [wr_id2])
    repeat (first | refine step_t trivial ?_ | refine step_t (by omega) ?_ | refine step_f (by omega) ?_)
    rfl
  | succ m ih =>
    intro j f σ u hm hF hb hr
    obtain ⟨⟨m1, m2, m3, m4, m5, m6, m7, m8, m9⟩, f3, f4, f5, f6, fs, fw⟩ := id hb
    have q1 := wd_256 hw i
    have q2 := wd_256 hw j
    have q3 := xor_256 q1 q2
    have p1 := pop_le _ q3
    have hy := hF.2
    have y1 := hy.1
    have a1 := y84_m1 hy
    have a2 := y84_4 hy
    have a3 := y89_m1 hy
    have a4 := y89_m2 hy
    have hpb := pbN_le L hi (show j < shN L by omega)
    obtain ⟨r1, r2⟩ := hr _ (show pop (wd L i ^^^ wd L j) < 9 by omega)
    have hF2 : FS σ0 (up σ 89 (pop (wd L i ^^^ wd L j) : Nat) ((max (f (pop (wd L i ^^^ wd L j))) (pbN L i j) : Nat) : Int)) := hF.upd (by decide) (by decide +kernel) (by omega)
    have hb2 : blr (up σ 89 (pop (wd L i ^^^ wd L j) : Nat) ((max (f (pop (wd L i ^^^ wd L j))) (pbN L i j) : Nat) : Int)) b L := blr_same hb (by rw [up_n1 _ _ _ _ (by omega)]; exact Int.le_refl _) (fun a k g1 g2 => by rw [up_n1 _ _ _ _ (by omega)])
    have hr2 : frR (up σ 89 (pop (wd L i ^^^ wd L j) : Nat) ((max (f (pop (wd L i ^^^ wd L j))) (pbN L i j) : Nat) : Int)) (upM f (pop (wd L i ^^^ wd L j)) (pbN L i j)) := by
      intro u hu
      have := (hr u hu).2
      unfold upM
      by_cases z : u = pop (wd L i ^^^ wd L j)
      · rw [if_pos z, z, up_s]
        exact ⟨rfl, by omega⟩
      · rw [if_neg z, up_n2 _ _ _ _ (by omega)]
        exact hr u hu
    obtain ⟨σ', k1, k2⟩ := ih (j + 1) _ _ (vI (pop (wd L i ^^^ wd L j) : Nat)) (by omega) hF2 hb2 hr2
    refine ⟨σ', ?_, k2⟩
    rw [sg_94_25]
    (try simp (disch := omega) only [m5, fw i (by omega), fw j (by omega), i_xor_n (a := wd L i) (b := wd L j) (by omega) (by omega), wr_id2])
    repeat (first | refine step_t trivial ?_ | refine step_t (by omega) ?_ | refine step_f (by omega) ?_)
    refine step_c (s50 (by omega) σ q3) ?_
    try dsimp only
    (try simp (disch := omega) only [a2, r1, wr_id2])
    repeat (first | refine step_t trivial ?_ | refine step_t (by omega) ?_ | refine step_f (by omega) ?_)
    refine step_c (s58 (by omega) hb hw hi (by omega)) ?_
    try dsimp only
    (try simp (disch := omega) only [a2, r1, wr_id2])
    repeat (first | refine step_t trivial ?_ | refine step_t (by omega) ?_ | refine step_f (by omega) ?_)
    refine step_c (p_max (by omega) σ _ _) ?_
    try dsimp only
    (try simp (disch := omega) only [wr_id2])
    repeat (first | refine step_t trivial ?_ | refine step_t (by omega) ?_ | refine step_f (by omega) ?_)
    have e : (if ((f (pop (wd L i ^^^ wd L j)) : Nat) : Int) < (pbN L i j : Nat) then ((pbN L i j : Nat) : Int) else (f (pop (wd L i ^^^ wd L j)) : Nat)) = ((max (f (pop (wd L i ^^^ wd L j))) (pbN L i j) : Nat) : Int) := by
      by_cases z : f (pop (wd L i ^^^ wd L j)) < pbN L i j
      · rw [if_pos (by omega), Nat.max_eq_right (by omega)]
      · rw [if_neg (by omega), Nat.max_eq_left (by omega)]
    rw [e]
    exact k1
theorem s94l {d : Nat} (h : 7 ≤ d) {σ0 : HP} {b : Int} {L : LB} (hw : wf0 L) (hb43 : b + 2 < 43) : ∀ (m i : Nat) (f : Nat → Nat) (σ : HP) (u v : MV), i + m = shN L → FS σ0 σ → blr σ b L → frR σ f → ∃ σ', rsP PG0 MX d 94 15 [vR 84, vR b, vI (shN L : Nat), vI i, u, v] [] σ = some (0, σ') ∧ FS σ0 σ' ∧ blr σ' b L ∧ frR σ' (frO L m i f) := by
  have hl := wf_len hw
  have hs := shN_le L
  intro m
  induction m with
  | zero =>
    intro i f σ u v hm hF hb hr
    refine ⟨σ, ?_, hF, hb, hr⟩
    rw [sg_94_15]
    (try simp (disch := omega) only [wr_id2])
    repeat (first | refine step_t trivial ?_ | refine step_t (by omega) ?_ | refine step_f (by omega) ?_)
    rfl
  | succ m ih =>
    intro i f σ u v hm hF hb hr
    obtain ⟨σ1, k1, k2, k3, k4⟩ := s94i (d := d) h hw hb43 (i := i) (by omega) (shN L - (i + 1)) (i + 1) f σ vU (by omega) hF hb hr
    obtain ⟨σ2, j1, j2⟩ := ih (i + 1) _ σ1 (vI (shN L : Nat)) vU (by omega) k2 k3 k4
    refine ⟨σ2, ?_, j2⟩
    rw [sg_94_15]
    (try simp (disch := omega) only [wr_id2])
    repeat (first | refine step_t trivial ?_ | refine step_t (by omega) ?_ | refine step_f (by omega) ?_)
    exact k1.trans j1
theorem s94 {d : Nat} (h : 8 ≤ d) {σ : HP} {b : Int} {L : LB} (hy : Lay σ) (hb : blr σ b L) (hw : wf0 L) (hb43 : b + 2 < 43) : ∃ σ', clR PG0 MX d 94 [vR 84, vR b] σ = some (0, σ') ∧ FS σ σ' ∧ blr σ' b L ∧ frR σ' (frO L (shN L) 0 (fun _ => 0)) := by
  obtain ⟨d, rfl⟩ := ob1 (show 1 ≤ d by omega)
  obtain ⟨⟨m1, m2, m3, m4, m5, m6, m7, m8, m9⟩, f3, f4, f5, f6, fs, fw⟩ := id hb
  have y1 := hy.1
  have a1 := y84_m1 hy
  have a2 := y84_4 hy
  obtain ⟨σ1, g1, g2, g3, g4⟩ := s46 (d := d) (by omega) (σ := σ) (a := 89) (n := 9) 0 (by omega) (by omega) (by omega) (y89_m1 hy) (y89_m2 hy)
  have hF1 : FS σ σ1 := ⟨fun a j _ h2 => g2 a j (by omega), hy.row (by decide +kernel) (by decide) g2 g3⟩
  have hb1 := hF1.blr hb (by omega) (by omega)
  have hy1 := hF1.2
  have z1 := hy1.1
  obtain ⟨⟨n1, n2, n3, n4⟩, -⟩ := id hb1
  obtain ⟨σ2, k1, k2, k3, k4⟩ := s94l (d := d) (by omega) hw hb43 (shN L) 0 (fun _ => 0) σ1 vU vU (by omega) hF1 hb1 (fun u hu => ⟨g4 u hu, Nat.zero_le _⟩)
  refine ⟨σ2, ?_, k2, k3, k4⟩
  rw [ce_94, sg_94_0]
  (try simp (disch := omega) only [a2, wr_id2])
  repeat (first | refine step_t trivial ?_ | refine step_t (by omega) ?_ | refine step_f (by omega) ?_)
  refine step_c (g1) ?_
  try dsimp only
  repeat (first | refine step_t trivial ?_ | refine step_t (by omega) ?_ | refine step_f (by omega) ?_)
  refine step_c (s42 (by omega) hb1 hw) ?_
  try dsimp only
  exact k1
/-- spreadHolds -/
def spH (f : Nat → Nat) (k : Nat) : Nat → Nat → Bool
  | 0, _ => true
  | m + 1, u => if f u < k then spH f k m (u + 1) else false
theorem s95l {d : Nat} {σ : HP} (hy : Lay σ) {f : Nat → Nat} (hr : frR σ f) {k : Nat} (hk : k ≤ 9) : ∀ (m u : Nat), u + m = k → rsP PG0 MX d 95 2 [vR 84, vI k, vI u] [] σ = some (b2i (spH f k m u), σ) := by
  have y1 := hy.1
  have a1 := y84_m1 hy
  have a2 := y84_4 hy
  have a3 := y89_m1 hy
  have a4 := y89_m2 hy
  intro m
  induction m with
  | zero =>
    intro u hu
    rw [sg_95_2]
    (try simp (disch := omega) only [wr_id2])
    repeat (first | refine step_t trivial ?_ | refine step_t (by omega) ?_ | refine step_f (by omega) ?_)
    rfl
  | succ m ih =>
    intro u hu
    obtain ⟨r1, r2⟩ := hr u (by omega)
    rw [sg_95_2]
    (try simp (disch := omega) only [a2, r1, wr_id2])
    repeat (first | refine step_t trivial ?_ | refine step_t (by omega) ?_ | refine step_f (by omega) ?_)
    unfold spH
    refine step_i (fun g => ?_) (fun g => ?_)
    · rw [if_pos (show f u < k by omega)]; exact ih (u + 1) (by omega)
    · rw [if_neg (show ¬ f u < k by omega)]; rfl
def spW (f : Nat → Nat) : Nat → Nat
  | 0 => 1
  | 1 => 1
  | k + 2 => if spH f (k + 2) (k + 2) 0 = true then k + 2 else spW f (k + 1)
theorem s93l {d : Nat} (h : 1 ≤ d) {σ : HP} (hy : Lay σ) {f : Nat → Nat} (hr : frR σ f) : ∀ (k : Nat) (u : MV), k ≤ 8 → rsP PG0 MX d 93 20 [vR 84, u, vI k] [] σ = some (((spW f k : Nat) : Int), σ) := by
  have y1 := hy.1
  have a1 := y84_m1 hy
  intro k
  induction k with
  | zero =>
    intro u hk
    rw [sg_93_20]
    (try simp (disch := omega) only [wr_id2])
    repeat (first | refine step_t trivial ?_ | refine step_t (by omega) ?_ | refine step_f (by omega) ?_)
    rfl
  | succ k ih =>
    intro u hk
    match k, ih with
    | 0, ih =>
      rw [sg_93_20]
      (try simp (disch := omega) only [wr_id2])
      repeat (first | refine step_t trivial ?_ | refine step_t (by omega) ?_ | refine step_f (by omega) ?_)
      rfl
    | k + 1, ih =>
      obtain ⟨d, rfl⟩ := ob1 h
      rw [sg_93_20]
      (try simp (disch := omega) only [wr_id2])
      repeat (first | refine step_t trivial ?_ | refine step_t (by omega) ?_ | refine step_f (by omega) ?_)
      have e : clR PG0 MX (d + 1) 95 [vR 84, vI ((k + 1 + 1 : Nat) : Int)] σ = some (b2i (spH f (k + 2) (k + 2) 0), σ) := by
        rw [ce_95, sg_95_0]
        exact s95l hy hr (k := k + 2) (by omega) (k + 2) 0 (by omega)
      refine step_c (e) ?_
      try dsimp only
      rw [wr_b2i]
      unfold spW
      cases spH f (k + 2) (k + 2) 0
      · refine step_t (show b2i false = 0 by decide) ?_
        rw [if_neg (by decide)]
        have e2 : ((k + 1 + 1 : Nat) : Int) + -1 = ((k + 1 : Nat) : Int) := by omega
        rw [e2]
        exact ih _ (by omega)
      · refine step_f (show ¬ (b2i true = 0) by decide) ?_
        rw [if_pos rfl]
def spdN (L : LB) : Int := if clnB L = true then (spW (frO L (shN L) 0 (fun _ => 0)) (lN0 L) : Nat) else -1
theorem s93 {d : Nat} (h : 9 ≤ d) {σ : HP} {b : Int} {L : LB} (hy : Lay σ) (hb : blr σ b L) (hw : wf0 L) (hb43 : b + 2 < 43) : ∃ σ', clR PG0 MX d 93 [vR 84, vR b] σ = some (spdN L, σ') ∧ FS σ σ' := by
  obtain ⟨d, rfl⟩ := ob1 (show 1 ≤ d by omega)
  obtain ⟨σ1, j1, j2, j3, j4⟩ := s53 (d := d) (by omega) hy hb hw hb43
  obtain ⟨σ2, k1, k2, k3, k4⟩ := s94 (d := d) (by omega) j2.2 j3 hw hb43
  have y1 := hy.1
  have a1 := y84_m1 hy
  have y2 := j2.2.1
  have a2 := y84_m1 j2.2
  obtain ⟨⟨n1, n2, n3, n4⟩, n5, -⟩ := id k3
  unfold spdN
  cases hc : clnB L
  · rw [hc] at j1
    refine ⟨σ1, ?_, j2⟩
    rw [ce_93, sg_93_0]
    (try simp (disch := omega) only [wr_id2])
    repeat (first | refine step_t trivial ?_ | refine step_t (by omega) ?_ | refine step_f (by omega) ?_)
    refine step_c (j1) ?_
    try dsimp only
    rw [wr_b2i]
    refine step_f (show ¬ (b2i false ≠ 0) by decide) ?_
    rfl
  · rw [hc] at j1
    refine ⟨σ2, ?_, j2.tr k2⟩
    rw [ce_93, sg_93_0]
    (try simp (disch := omega) only [wr_id2])
    repeat (first | refine step_t trivial ?_ | refine step_t (by omega) ?_ | refine step_f (by omega) ?_)
    refine step_c (j1) ?_
    try dsimp only
    rw [wr_b2i]
    refine step_t (show b2i true ≠ 0 by decide) ?_
    repeat (first | refine step_t trivial ?_ | refine step_t (by omega) ?_ | refine step_f (by omega) ?_)
    refine step_c (k1) ?_
    try dsimp only
    (try simp (disch := omega) only [n5, wr_id2])
    repeat (first | refine step_t trivial ?_ | refine step_t (by omega) ?_ | refine step_f (by omega) ?_)
    rw [if_pos trivial]
    exact s93l (d := d) (by omega) k2.2 k4 (lN0 L) _ hw.1
