/-! THE REFERENCE: words of a list are laid -/
theorem okr_102 : layT.all (fun t => !(decide (t.1 = 102) && decide (0 ≤ t.2.1))) = true := by decide +kernel
theorem okr_103 : layT.all (fun t => !(decide (t.1 = 103) && decide (0 ≤ t.2.1))) = true := by decide +kernel
theorem okr_104 : layT.all (fun t => !(decide (t.1 = 104) && decide (0 ≤ t.2.1))) = true := by decide +kernel
theorem okr_105 : layT.all (fun t => !(decide (t.1 = 105) && decide (0 ≤ t.2.1))) = true := by decide +kernel
theorem okr_106 : layT.all (fun t => !(decide (t.1 = 106) && decide (0 ≤ t.2.1))) = true := by decide +kernel
theorem okr_107 : layT.all (fun t => !(decide (t.1 = 107) && decide (0 ≤ t.2.1))) = true := by decide +kernel
theorem okr_108 : layT.all (fun t => !(decide (t.1 = 108) && decide (0 ≤ t.2.1))) = true := by decide +kernel
theorem okr_109 : layT.all (fun t => !(decide (t.1 = 109) && decide (0 ≤ t.2.1))) = true := by decide +kernel
theorem okr_110 : layT.all (fun t => !(decide (t.1 = 110) && decide (0 ≤ t.2.1))) = true := by decide +kernel
theorem okr_111 : layT.all (fun t => !(decide (t.1 = 111) && decide (0 ≤ t.2.1))) = true := by decide +kernel
theorem okr_112 : layT.all (fun t => !(decide (t.1 = 112) && decide (0 ≤ t.2.1))) = true := by decide +kernel
theorem okr_113 : layT.all (fun t => !(decide (t.1 = 113) && decide (0 ≤ t.2.1))) = true := by decide +kernel
theorem okr_114 : layT.all (fun t => !(decide (t.1 = 114) && decide (0 ≤ t.2.1))) = true := by decide +kernel
def okf (j : Int) : Prop := layT.all (fun t => !(decide (t.1 = 101) && decide (t.2.1 = j))) = true
theorem okf_3 : okf 3 := by unfold okf; decide +kernel
theorem okf_5 : okf 5 := by unfold okf; decide +kernel
theorem okf_7 : okf 7 := by unfold okf; decide +kernel
theorem okf_8 : okf 8 := by unfold okf; decide +kernel
theorem okf_9 : okf 9 := by unfold okf; decide +kernel
theorem okf_10 : okf 10 := by unfold okf; decide +kernel
theorem okf_11 : okf 11 := by unfold okf; decide +kernel
theorem okf_12 : okf 12 := by unfold okf; decide +kernel
theorem okf_13 : okf 13 := by unfold okf; decide +kernel
theorem okf_14 : okf 14 := by unfold okf; decide +kernel
theorem okf_17 : okf 17 := by unfold okf; decide +kernel
theorem okf_18 : okf 18 := by unfold okf; decide +kernel
theorem okf_21 : okf 21 := by unfold okf; decide +kernel
theorem okf_22 : okf 22 := by unfold okf; decide +kernel
theorem okf_23 : okf 23 := by unfold okf; decide +kernel
theorem okf_28 : okf 28 := by unfold okf; decide +kernel
theorem FQ.slr {σ σ' : HP} {n : Nat} {L : LB} (h : FQ σ σ') (hr : slR σ n L) : slR σ' n L := by
  have e : ∀ j, σ' 102 j = σ 102 j := fun j => h.1 _ _ (by omega)
  unfold slR
  simp only [e]
  exact hr
theorem s180n {d : Nat} (h : 3 ≤ d) {σ : HP} {S : AS} (hy : Lay σ) (hm : MM σ S) {s : Int} (hs : i32 s) (e : gl S s = none) : clR PG0 MX d 180 [vR 101, vI s] σ = some (0, σ) := by
  have q := s180 h hy hm hs
  rw [e] at q
  exact q
theorem s180s {d : Nat} (h : 3 ≤ d) {σ : HP} {S : AS} (hy : Lay σ) (hm : MM σ S) {s : Int} (hs : i32 s) {L : LB} (e : gl S s = some L) : clR PG0 MX d 180 [vR 101, vI s] σ = some (1, σ) := by
  have q := s180 h hy hm hs
  rw [e] at q
  exact q
theorem s224n {d : Nat} (h : 4 ≤ d) {σ : HP} {S : AS} (hy : Lay σ) (hm : MM σ S) {s x : Int} (hs : i32 s) (hx : i32 x) (e : gl S s = none) : clR PG0 MX d 224 [vR 101, vI s, vI x] σ = some (0, σ) := by
  have q := s224 h hy hm hs hx
  rw [e] at q
  exact q
theorem s224s {d : Nat} (h : 4 ≤ d) {σ : HP} {S : AS} (hy : Lay σ) (hm : MM σ S) {s x : Int} (hs : i32 s) (hx : i32 x) {L : LB} (e : gl S s = some L) : clR PG0 MX d 224 [vR 101, vI s, vI x] σ = some (b2i (decide (0 ≤ x ∧ x < lN0 L)), σ) := by
  have q := s224 h hy hm hs hx
  rw [e] at q
  exact q
theorem s221n {d : Nat} (h : 4 ≤ d) {σ : HP} {S : AS} (hy : Lay σ) (hm : MM σ S) {s x : Int} (hs : i32 s) (hx : i32 x) (e : gl S s = none) : clR PG0 MX d 221 [vR 101, vI s, vI x] σ = some (0, σ) := by
  have q := s221 h hy hm hs hx
  rw [e] at q
  exact q
theorem s221s {d : Nat} (h : 4 ≤ d) {σ : HP} {S : AS} (hy : Lay σ) (hm : MM σ S) {s x : Int} (hs : i32 s) (hx : i32 x) {L : LB} (e : gl S s = some L) : clR PG0 MX d 221 [vR 101, vI s, vI x] σ = some (b2i (decide (0 ≤ x ∧ x < (2 ^ lN0 L : Nat))), σ) := by
  have q := s221 h hy hm hs hx
  rw [e] at q
  exact q
/-- words, how often each is shown -/
def wdR (σ : HP) (L : LB) : Prop := (∀ i : Nat, i ≤ (lT L).length → σ 107 i = (wd L i : Nat)) ∧ (∀ w : Nat, w < 256 → σ 108 w = (cW L w : Nat)) ∧ σ 101 17 = (shN L : Nat) ∧ σ 101 18 = b2i (lpB L)
theorem cwN_s (L : LB) (w i : Nat) : cwN L w (i + 1) = cwN L w i + (bif decide (wd L i = w) then 1 else 0) := rfl
theorem s203d {d : Nat} {σ0 : HP} {L : LB} (hw : wf0 L) : ∀ (m i : Nat) (σ : HP) (u : MV), i + m = shN L → FQ σ0 σ → (∀ i : Nat, i ≤ (lT L).length → σ 107 i = (wd L i : Nat)) → σ 101 17 = (shN L : Nat) → σ 101 18 = b2i (lpB L) → (∀ w : Nat, w < 256 → σ 108 w = (cwN L w i : Nat)) → ∃ σ', rsP PG0 MX d 203 138 [vR 101, u, vI i] [] σ = some (0, σ') ∧ FQ σ0 σ' ∧ wdR σ' L := by
  have hl := wf_len hw
  have hs := shN_le L
  intro m
  induction m with
  | zero =>
    intro i σ u hi hF h1 h2 h3 h4
    have hy := hF.2
    have y1 := hy.1; have k101 := y101_m1 hy; have p107 := y101_15 hy; have k107 := y107_m1 hy; have l107 := y107_m2 hy; have p108 := y101_16 hy; have k108 := y108_m1 hy; have l108 := y108_m2 hy
    have ei : i = shN L := by omega
    rw [ei] at h4
    refine ⟨σ, ?_, hF, h1, h4, h2, h3⟩
    rw [sg_203_138]
    (try simp (disch := omega) only [h2, wr_id2])
    repeat (first | refine step_t (by with_reducible exact True.intro) ?_ | refine step_t (by omega) ?_ | refine step_f (by omega) ?_)
    rfl
  | succ m ih =>
    intro i σ u hi hF h1 h2 h3 h4
    have hy := hF.2
    have y1 := hy.1; have k101 := y101_m1 hy; have p107 := y101_15 hy; have k107 := y107_m1 hy; have l107 := y107_m2 hy; have p108 := y101_16 hy; have k108 := y108_m1 hy; have l108 := y108_m2 hy
    have q := wd_256 hw i
    have e1 := h1 i (by omega)
    have e2 := h4 (wd L i) q
    have e3 := cwN_le L (wd L i) i
    have hF1 : FQ σ0 (up σ 108 (wd L i : Nat) ((cwN L (wd L i) i : Nat) + 1)) := hF.upd (by omega) okr_108 (by omega)
    obtain ⟨σ', k1, k2, k3⟩ := ih (i + 1) _ vU (by omega) hF1 (fun j hj => by rw [up_n1 _ _ _ _ (by omega)]; exact h1 j hj) (by rw [up_n1 _ _ _ _ (by omega)]; exact h2) (by rw [up_n1 _ _ _ _ (by omega)]; exact h3) (fun w hw2 => by
      rw [cwN_s]
      by_cases z : wd L i = w
      · subst z
        rw [up_s, decide_eq_true rfl]
        rfl
      · rw [up_n2 _ _ _ _ (by omega), decide_eq_false z]
        exact h4 w hw2)
    refine ⟨σ', ?_, k2, k3⟩
    rw [sg_203_138]
    (try simp (disch := omega) only [h2, p107, p108, e1, e2, wr_id2])
    repeat (first | refine step_t (by with_reducible exact True.intro) ?_ | refine step_t (by omega) ?_ | refine step_f (by omega) ?_)
    exact k1
theorem s203c {d : Nat} {σ0 : HP} {L : LB} (hw : wf0 L) : ∀ (m i : Nat) (σ : HP) (u : MV), i + m = 256 → FQ σ0 σ → (∀ i : Nat, i ≤ (lT L).length → σ 107 i = (wd L i : Nat)) → σ 101 17 = (shN L : Nat) → σ 101 18 = b2i (lpB L) → (∀ w : Nat, w < i → σ 108 w = 0) → ∃ σ', rsP PG0 MX d 203 116 [vR 101, u, vI i] [] σ = some (0, σ') ∧ FQ σ0 σ' ∧ wdR σ' L := by
  intro m
  induction m with
  | zero =>
    intro i σ u hi hF h1 h2 h3 h4
    obtain ⟨σ', k1, k2, k3⟩ := s203d (d := d) hw (shN L) 0 σ vU (by omega) hF h1 h2 h3 (fun w hw2 => h4 w (by omega))
    refine ⟨σ', ?_, k2, k3⟩
    rw [sg_203_116]
    (try simp (disch := omega) only [wr_id2])
    repeat (first | refine step_t (by with_reducible exact True.intro) ?_ | refine step_t (by omega) ?_ | refine step_f (by omega) ?_)
    exact k1
  | succ m ih =>
    intro i σ u hi hF h1 h2 h3 h4
    have hy := hF.2
    have y1 := hy.1; have k101 := y101_m1 hy; have p108 := y101_16 hy; have k108 := y108_m1 hy; have l108 := y108_m2 hy
    have hF1 : FQ σ0 (up σ 108 (i : Nat) 0) := hF.upd (by omega) okr_108 (by omega)
    obtain ⟨σ', k1, k2, k3⟩ := ih (i + 1) _ vU (by omega) hF1 (fun j hj => by rw [up_n1 _ _ _ _ (by omega)]; exact h1 j hj) (by rw [up_n1 _ _ _ _ (by omega)]; exact h2) (by rw [up_n1 _ _ _ _ (by omega)]; exact h3) (fun w hw2 => by
      by_cases z : w = i
      · subst z; rw [up_s]
      · rw [up_n2 _ _ _ _ (by omega)]; exact h4 w (by omega))
    refine ⟨σ', ?_, k2, k3⟩
    rw [sg_203_116]
    (try simp (disch := omega) only [p108, wr_id2])
    repeat (first | refine step_t (by with_reducible exact True.intro) ?_ | refine step_t (by omega) ?_ | refine step_f (by omega) ?_)
    exact k1
theorem s203b {d : Nat} (h : 2 ≤ d) {σ0 σ : HP} {n : Nat} {L : LB} (hn : n < 3) (hr : slR σ n L) (hw : wf0 L) (hF : FQ σ0 σ) (h1 : ∀ i : Nat, i ≤ (lT L).length → σ 107 i = (wd L i : Nat)) (u : MV) : ∃ σ', rsP PG0 MX d 203 85 [vR 101, vI n, u] [vI (b2i (lpB L)), vR 101] σ = some (0, σ') ∧ FQ σ0 σ' ∧ wdR σ' L := by
  have hl := wf_len hw
  have hy := hF.2
  have y1 := hy.1; have k101 := y101_m1 hy
  have hF1 : FQ σ0 (up σ 101 18 (b2i (lpB L))) := hF.upf (by omega) okf_18
  have hF2 : FQ σ0 (up (up σ 101 18 (b2i (lpB L))) 101 17 (shN L : Nat)) := hF1.upf (by omega) okf_17
  have hr1 : slR (up σ 101 18 (b2i (lpB L))) n L := by
    have e : ∀ j, (up σ 101 18 (b2i (lpB L))) 102 j = σ 102 j := fun j => up_n1 _ _ _ _ (by omega)
    unfold slR
    simp only [e]
    exact hr
  obtain ⟨σ', k1, k2, k3⟩ := s203c (d := d) hw 256 0 _ (vI n) (by omega) hF2 (fun i hi => by rw [up_n1 _ _ _ _ (by omega), up_n1 _ _ _ _ (by omega)]; exact h1 i hi) (up_s _ _ _ _) (by rw [up_n2 _ _ _ _ (by omega), up_s]) (fun w hw2 => by omega)
  refine ⟨σ', ?_, k2, k3⟩
  have hy1 := hF1.2
  have y1b := hy1.1; have k101b := y101_m1 hy1
  have e204 := s204 (d := d) h hy1 hn hr1
  rw [sg_203_85, decide_eq_true (b2i_01 _), decide_eq_true (show 32 ≤ (101 : Int) ∧ (101 : Int) < σ (-1) 0 ∧ σ 101 (-1) = 9 by omega)]
  show cnd _ _ _ = _
  rw [up_s, wr_b2i]
  refine step_t (by omega) ?_
  cases hb : lpB L with
  | false =>
    rw [hb] at e204 hy1 y1b k101b k1
    rw [shN_nl hb] at k1
    refine step_t (show b2i false = 0 by decide) ?_
    repeat (first | refine step_t (by with_reducible exact True.intro) ?_ | refine step_t (by omega) ?_ | refine step_f (by omega) ?_)
    refine step_c (e204) ?_
    try dsimp only
    repeat (first | refine step_t (by with_reducible exact True.intro) ?_ | refine step_t (by omega) ?_ | refine step_f (by omega) ?_)
    exact k1
  | true =>
    rw [hb] at e204 hy1 y1b k101b k1
    rw [shN_lp hb] at k1
    refine step_f (show ¬ (b2i true = 0) by decide) ?_
    repeat (first | refine step_t (by with_reducible exact True.intro) ?_ | refine step_t (by omega) ?_ | refine step_f (by omega) ?_)
    refine step_c (e204) ?_
    try dsimp only
    repeat (first | refine step_t (by with_reducible exact True.intro) ?_ | refine step_t (by omega) ?_ | refine step_f (by omega) ?_)
    exact k1
theorem s203a {d : Nat} (h : 2 ≤ d) {σ0 : HP} {n : Nat} {L : LB} (hn : n < 3) (hw : wf0 L) : ∀ (m i : Nat) (σ : HP), i + m = (lT L).length → FQ σ0 σ → slR σ n L → (∀ j : Nat, j ≤ i → σ 107 j = (wd L j : Nat)) → ∃ σ', rsP PG0 MX d 203 14 [vR 101, vI n, vI i] [] σ = some (0, σ') ∧ FQ σ0 σ' ∧ wdR σ' L := by
  have hl := wf_len hw
  have h9 := hw.1
  intro m
  induction m with
  | zero =>
    intro i σ hi hF hr h1
    have hy := hF.2
    have y1 := hy.1; have k101 := y101_m1 hy; have p107 := y101_15 hy; have k107 := y107_m1 hy; have l107 := y107_m2 hy
    have e204 := s204 (d := d) h hy hn hr
    have hii : i = (lT L).length := by omega
    subst hii
    have e1 := h1 _ (Nat.le_refl _)
    have e0 := h1 0 (Nat.zero_le _)
    have e0 : σ 107 0 = (wd L 0 : Nat) := e0
    have q1 := wd_256 hw (lT L).length
    have q0 := wd_256 hw 0
    have kb : ∀ u, ∃ σ', rsP PG0 MX d 203 85 [vR 101, vI n, u] [vI (b2i (lpB L)), vR 101] σ = some (0, σ') ∧ FQ σ0 σ' ∧ wdR σ' L := fun u => s203b h hn hr hw hF h1 u
    by_cases z0 : (lT L).length = 0
    · have hb : lpB L = false := by unfold lpB; rw [decide_eq_false (by omega)]; rfl
      obtain ⟨σ', k1, k2, k3⟩ := kb vU
      rw [hb] at k1
      refine ⟨σ', ?_, k2, k3⟩
      rw [sg_203_14]
      repeat (first | refine step_t (by with_reducible exact True.intro) ?_ | refine step_t (by omega) ?_ | refine step_f (by omega) ?_)
      refine step_c (e204) ?_
      try dsimp only
      (try simp (disch := omega) only [wr_id2])
      repeat (first | refine step_t (by with_reducible exact True.intro) ?_ | refine step_t (by omega) ?_ | refine step_f (by omega) ?_)
      refine step_c (e204) ?_
      try dsimp only
      (try simp (disch := omega) only [wr_id2])
      repeat (first | refine step_t (by with_reducible exact True.intro) ?_ | refine step_t (by omega) ?_ | refine step_f (by omega) ?_)
      rw [sg_203_84]
      exact k1
    · by_cases z1 : wd L (lT L).length = wd L 0
      · have hb : lpB L = true := by unfold lpB; rw [decide_eq_true (by omega), decide_eq_true z1]; rfl
        obtain ⟨σ', k1, k2, k3⟩ := kb (vI (lT L).length)
        rw [hb] at k1
        refine ⟨σ', ?_, k2, k3⟩
        rw [sg_203_14]
        repeat (first | refine step_t (by with_reducible exact True.intro) ?_ | refine step_t (by omega) ?_ | refine step_f (by omega) ?_)
        refine step_c (e204) ?_
        try dsimp only
        (try simp (disch := omega) only [wr_id2])
        repeat (first | refine step_t (by with_reducible exact True.intro) ?_ | refine step_t (by omega) ?_ | refine step_f (by omega) ?_)
        refine step_c (e204) ?_
        try dsimp only
        (try simp (disch := omega) only [p107, wr_id2])
        repeat (first | refine step_t (by with_reducible exact True.intro) ?_ | refine step_t (by omega) ?_ | refine step_f (by omega) ?_)
        refine step_c (e204) ?_
        try dsimp only
        (try simp (disch := omega) only [p107, e1, e0, wr_id2])
        repeat (first | refine step_t (by with_reducible exact True.intro) ?_ | refine step_t (by omega) ?_ | refine step_f (by omega) ?_)
        exact k1
      · have hb : lpB L = false := by unfold lpB; rw [decide_eq_false z1, Bool.and_false]
        obtain ⟨σ', k1, k2, k3⟩ := kb vU
        rw [hb] at k1
        refine ⟨σ', ?_, k2, k3⟩
        rw [sg_203_14]
        repeat (first | refine step_t (by with_reducible exact True.intro) ?_ | refine step_t (by omega) ?_ | refine step_f (by omega) ?_)
        refine step_c (e204) ?_
        try dsimp only
        (try simp (disch := omega) only [wr_id2])
        repeat (first | refine step_t (by with_reducible exact True.intro) ?_ | refine step_t (by omega) ?_ | refine step_f (by omega) ?_)
        refine step_c (e204) ?_
        try dsimp only
        (try simp (disch := omega) only [p107, wr_id2])
        repeat (first | refine step_t (by with_reducible exact True.intro) ?_ | refine step_t (by omega) ?_ | refine step_f (by omega) ?_)
        refine step_c (e204) ?_
        try dsimp only
        (try simp (disch := omega) only [p107, e1, e0, wr_id2])
        repeat (first | refine step_t (by with_reducible exact True.intro) ?_ | refine step_t (by omega) ?_ | refine step_f (by omega) ?_)
        rw [sg_203_84]
        exact k1
  | succ m ih =>
    intro i σ hi hF hr h1
    have hy := hF.2
    have y1 := hy.1; have k101 := y101_m1 hy; have p107 := y101_15 hy; have k107 := y107_m1 hy; have l107 := y107_m2 hy
    have e204 := s204 (d := d) h hy hn hr
    obtain ⟨x, hx⟩ := st_get (L := L) (i := i) (by omega)
    have hxN := st_lt hw hx
    have e205 := s205 (d := d) (by omega) hy hn hr hw hx
    have e1 := h1 i (Nat.le_refl _)
    have q1 := wd_256 hw i
    have q2 := p256 (x := x) (by omega)
    have hF1 : FQ σ0 (up σ 107 ((i : Int) + 1) (wd L i ^^^ 2 ^ x : Nat)) := hF.upd (by omega) okr_107 (by omega)
    have hr1 : slR (up σ 107 ((i : Int) + 1) (wd L i ^^^ 2 ^ x : Nat)) n L := by
      have e : ∀ j, (up σ 107 ((i : Int) + 1) (wd L i ^^^ 2 ^ x : Nat)) 102 j = σ 102 j := fun j => up_n1 _ _ _ _ (by omega)
      unfold slR
      simp only [e]
      exact hr
    obtain ⟨σ', k1, k2, k3⟩ := ih (i + 1) _ (by omega) hF1 hr1 (fun j hj => by
      by_cases z : j = i + 1
      · subst z
        rw [show ((i + 1 : Nat) : Int) = (i : Int) + 1 by omega, up_s]
        show _ = ((wdL (lS L) (lT L) (i + 1) : Nat) : Int)
        rw [wdL_succ (lT L) (lS L) i x hx]
      · rw [up_n2 _ _ _ _ (by omega)]; exact h1 j (by omega))
    refine ⟨σ', ?_, k2, k3⟩
    rw [sg_203_14]
    repeat (first | refine step_t (by with_reducible exact True.intro) ?_ | refine step_t (by omega) ?_ | refine step_f (by omega) ?_)
    refine step_c (e204) ?_
    try dsimp only
    (try simp (disch := omega) only [p107, wr_id2])
    repeat (first | refine step_t (by with_reducible exact True.intro) ?_ | refine step_t (by omega) ?_ | refine step_f (by omega) ?_)
    refine step_c (e205) ?_
    try dsimp only
    (try simp (disch := omega) only [p107, e1, shl1 (x := x) (by omega), i_xor_n (a := wd L i) (b := 2 ^ x) (by omega) (by omega), wr_id2])
    repeat (first | refine step_t (by with_reducible exact True.intro) ?_ | refine step_t (by omega) ?_ | refine step_f (by omega) ?_)
    exact k1
/-- laysWords -/
theorem s203 {d : Nat} (h : 3 ≤ d) {σ : HP} (hy : Lay σ) {n : Nat} {L : LB} (hn : n < 3) (hr : slR σ n L) (hw : wf0 L) : ∃ σ', clR PG0 MX d 203 [vR 101, vI n] σ = some (0, σ') ∧ FQ σ σ' ∧ slR σ' n L ∧ wdR σ' L := by
  obtain ⟨d, rfl⟩ := ob1 (show 1 ≤ d by omega)
  have y1 := hy.1; have k101 := y101_m1 hy; have p107 := y101_15 hy; have k107 := y107_m1 hy; have l107 := y107_m2 hy
  have hF1 : FQ σ (up σ 107 0 (lS L : Nat)) := (FQ.rf hy).upd (by omega) okr_107 (by omega)
  have hr1 := hF1.slr hr
  obtain ⟨σ', k1, k2, k3⟩ := s203a (d := d) (by omega) hn hw (lT L).length 0 _ (by omega) hF1 hr1 (fun j hj => by
    have : j = 0 := by omega
    subst this
    rw [wd_0]
    exact up_s _ _ _ _)
  refine ⟨σ', ?_, k2, k2.slr hr, k3⟩
  rw [ce_203, sg_203_0]
  repeat (first | refine step_t (by with_reducible exact True.intro) ?_ | refine step_t (by omega) ?_ | refine step_f (by omega) ?_)
  refine step_c (s181 (d := d) (by omega) hy hn (j := 3) (by omega) (by omega)) ?_
  try dsimp only
  rw [hr.2.2.2.1]
  (try simp (disch := omega) only [p107, wr_id2])
  repeat (first | refine step_t (by with_reducible exact True.intro) ?_ | refine step_t (by omega) ?_ | refine step_f (by omega) ?_)
  exact k1
