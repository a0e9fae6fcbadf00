-- @after 30 31
/-- Arrays.fill -/
theorem s46l {d : Nat} {a v : Int} {n : Nat} (hn : n ≤ 1000) : ∀ (m i : Nat) (σ : HP), i + m = n → 32 ≤ a → a < σ (-1) 0 → σ a (-1) = 20 → σ a (-2) = n → (∀ j : Nat, j < i → σ a j = v) → ∃ σ', rsP PG0 MX d 46 5 [vR a, vI v, vI i, vI n] [] σ = some (0, σ') ∧ (∀ c j, c ≠ a → σ' c j = σ c j) ∧ (∀ j : Int, j < 0 ∨ (n : Int) ≤ j → σ' a j = σ a j) ∧ ∀ j : Nat, j < n → σ' a j = v := by
  intro m
  induction m with
  | zero =>
    intro i σ hi h1 h2 h3 h4 h5
    have : i = n := by omega
    subst this
    refine ⟨σ, ?_, fun _ _ _ => rfl, fun _ _ => rfl, h5⟩
    rw [sg_46_5]
    (try simp (disch := omega) only [wr_id2])
    repeat (first | refine step_t trivial ?_ | refine step_t (by omega) ?_ | refine step_f (by omega) ?_)
    rfl
  | succ m ih =>
    intro i σ hi h1 h2 h3 h4 h5
    obtain ⟨σ', k1, k2, k3, k4⟩ := ih (i + 1) (up σ a i v) (by omega) h1 (by rw [up_n1 _ _ _ _ (by omega)]; exact h2) (by rw [up_n2 _ _ _ _ (by omega)]; exact h3) (by rw [up_n2 _ _ _ _ (by omega)]; exact h4) (fun j hj => by
      by_cases z : j = i
      · subst z; exact up_s _ _ _ _
      · rw [up_n2 _ _ _ _ (by omega)]; exact h5 j (by omega))
    refine ⟨σ', ?_, fun c j hc => ?_, fun j hj => ?_, k4⟩
    · rw [sg_46_5]
      (try simp (disch := omega) only [wr_id2])
      repeat (first | refine step_t trivial ?_ | refine step_t (by omega) ?_ | refine step_f (by omega) ?_)
      exact k1
    · rw [k2 c j hc, up_n1 _ _ _ _ hc]
    · rw [k3 j hj, up_n2 _ _ _ _ (by omega)]
theorem s46 {d : Nat} (h : 1 ≤ d) {σ : HP} {a : Int} {n : Nat} (v : Int) (hn : n ≤ 1000) (h1 : 32 ≤ a) (h2 : a < σ (-1) 0) (h3 : σ a (-1) = 20) (h4 : σ a (-2) = n) : ∃ σ', clR PG0 MX d 46 [vR a, vI v] σ = some (0, σ') ∧ (∀ c j, c ≠ a → σ' c j = σ c j) ∧ (∀ j : Int, j < 0 ∨ (n : Int) ≤ j → σ' a j = σ a j) ∧ ∀ j : Nat, j < n → σ' a j = v := by
  obtain ⟨d, rfl⟩ := ob1 (show 1 ≤ d by omega)
  obtain ⟨σ', k1, k2⟩ := s46l (d := d) (v := v) hn n 0 σ (by omega) h1 h2 h3 h4 (fun j hj => by omega)
  refine ⟨σ', ?_, k2⟩
  rw [ce_46, sg_46_0]
  (try simp (disch := omega) only [h4, wr_id2])
  repeat (first | refine step_t trivial ?_ | refine step_t (by omega) ?_ | refine step_f (by omega) ?_)
  exact k1
theorem Lay.row {σ σ' : HP} (h : Lay σ) {a : Int} {n : Nat} (ha : layT.all (fun t => !(decide (t.1 = a) && decide (0 ≤ t.2.1))) = true) (h1 : a ≠ -1) (hc : ∀ c j, c ≠ a → σ' c j = σ c j) (hj : ∀ j, j < 0 ∨ (n : Int) ≤ j → σ' a j = σ a j) : Lay σ' := by
  refine ⟨?_, fun t ht => ?_⟩
  · rw [hc _ _ (by omega)]; exact h.1
  · have e := List.all_eq_true.mp ha t ht
    by_cases z : t.1 = a
    · by_cases z2 : 0 ≤ t.2.1
      · rw [decide_eq_true z, decide_eq_true z2] at e
        cases e
      · rw [z, hj _ (by omega), ← z]; exact h.2 t ht
    · rw [hc _ _ z]; exact h.2 t ht
/-- countShown -/
def cwN (L : LB) (w n : Nat) : Nat := cntB (fun j => decide (wd L j = w)) n
def cW (L : LB) (w : Nat) : Nat := cwN L w (shN L)
def lstP (L : LB) (w : Nat) : Nat → Nat
  | 0 => 0
  | i + 1 => if wd L i = w then i else lstP L w i
def shR (σ : HP) (L : LB) (n : Nat) : Prop := (∀ w : Nat, w < 256 → σ 85 w = (cwN L w n : Nat)) ∧ ∀ w : Nat, w < 256 → 0 < cwN L w n → σ 86 w = (lstP L w n : Nat)
theorem cwN_le (L : LB) (w n : Nat) : cwN L w n ≤ n := cntB_le _ _
theorem s45l {d : Nat} {σ0 : HP} {b : Int} {L : LB} (hw : wf0 L) (hb43 : b + 2 < 43) : ∀ (m i : Nat) (σ : HP), i + m = shN L → FS σ0 σ → blr σ b L → shR σ L i → ∃ σ', rsP PG0 MX d 45 15 [vR 84, vR b, vI (shN L : Nat), vI i] [] σ = some (0, σ') ∧ FS σ0 σ' ∧ shR σ' L (shN L) := by
  have hl := wf_len hw
  have hs := shN_le L
  intro m
  induction m with
  | zero =>
    intro i σ hi hF hb hr
    have : i = shN L := by omega
    subst this
    refine ⟨σ, ?_, hF, hr⟩
    rw [sg_45_15]
    (try simp (disch := omega) only [wr_id2])
    repeat (first | refine step_t trivial ?_ | refine step_t (by omega) ?_ | refine step_f (by omega) ?_)
    rfl
  | succ m ih =>
    intro i σ hi hF hb hr
    obtain ⟨⟨m1, m2, m3, m4, m5, m6, m7, m8, m9⟩, f3, f4, f5, f6, fs, fw⟩ := id hb
    have q := wd_256 hw i
    have hy := hF.2
    have y1 := hy.1
    have a1 := y84_m1 hy
    have a2 := y84_0 hy
    have a3 := y84_1 hy
    have a4 := y85_m1 hy
    have a5 := y85_m2 hy
    have a6 := y86_m1 hy
    have a7 := y86_m2 hy
    have c1 := cwN_le L (wd L i) i
    have hF2 : FS σ0 (up (up σ 85 (wd L i : Nat) ((cwN L (wd L i) i : Nat) + 1)) 86 (wd L i : Nat) i) := (hF.upd (by decide) (by decide +kernel) (by omega)).upd (by decide) (by decide +kernel) (by omega)
    have hb2 : blr (up (up σ 85 (wd L i : Nat) ((cwN L (wd L i) i : Nat) + 1)) 86 (wd L i : Nat) i) b L := blr_same hb (by rw [up_n1 _ _ _ _ (by omega), up_n1 _ _ _ _ (by omega)]; exact Int.le_refl _) (fun a j g1 g2 => by rw [up_n1 _ _ _ _ (by omega), up_n1 _ _ _ _ (by omega)])
    have hr2 : shR (up (up σ 85 (wd L i : Nat) ((cwN L (wd L i) i : Nat) + 1)) 86 (wd L i : Nat) i) L (i + 1) := by
      refine ⟨fun w hw2 => ?_, fun w hw2 hc => ?_⟩
      · rw [up_n1 _ _ _ _ (by omega)]
        show _ = (((cwN L w i + (bif decide (wd L i = w) then 1 else 0)) : Nat) : Int)
        by_cases z : wd L i = w
        · rw [z, up_s, decide_eq_true rfl]; rfl
        · rw [up_n2 _ _ _ _ (by omega), decide_eq_false z]
          exact hr.1 w hw2
      · have hc : 0 < cwN L w i + (bif decide (wd L i = w) then 1 else 0) := hc
        show _ = (((if wd L i = w then i else lstP L w i) : Nat) : Int)
        by_cases z : wd L i = w
        · rw [z, up_s, if_pos rfl]
        · rw [decide_eq_false z] at hc
          rw [up_n2 _ _ _ _ (by omega), up_n1 _ _ _ _ (by omega), if_neg z]
          exact hr.2 w hw2 hc
    obtain ⟨σ', k1, k2⟩ := ih (i + 1) _ (by omega) hF2 hb2 hr2
    refine ⟨σ', ?_, k2⟩
    rw [sg_45_15]
    (try simp (disch := omega) only [m5, a2, a3, fw i (by omega), hr.1 (wd L i) q, up_n1, up_s, wr_id2])
    repeat (first | refine step_t trivial ?_ | refine step_t (by omega) ?_ | refine step_f (by omega) ?_)
    rw [sg_45_47]
    exact k1
theorem s45 {d : Nat} (h : 3 ≤ d) {σ : HP} {b : Int} {L : LB} (hy : Lay σ) (hb : blr σ b L) (hw : wf0 L) (hb43 : b + 2 < 43) : ∃ σ', clR PG0 MX d 45 [vR 84, vR b] σ = some (0, σ') ∧ FS σ σ' ∧ blr σ' b L ∧ shR σ' L (shN L) := by
  obtain ⟨d, rfl⟩ := ob1 (show 1 ≤ d by omega)
  obtain ⟨⟨m1, m2, m3, m4, m5, m6, m7, m8, m9⟩, f3, f4, f5, f6, fs, fw⟩ := id hb
  have y1 := hy.1
  have a1 := y84_m1 hy
  have a2 := y84_0 hy
  obtain ⟨σ1, g1, g2, g3, g4⟩ := s46 (d := d) (by omega) (σ := σ) (a := 85) (n := 256) 0 (by omega) (by omega) (by omega) (y85_m1 hy) (y85_m2 hy)
  have hF1 : FS σ σ1 := ⟨fun a j _ h2 => g2 a j (by omega), hy.row (by decide +kernel) (by decide) g2 g3⟩
  have hb1 := hF1.blr hb (by omega) (by omega)
  have hy1 := hF1.2
  have z1 := hy1.1
  have hb1' := hb1.1
  obtain ⟨n1, n2, n3, n4⟩ := id hb1'
  obtain ⟨σ2, k1, k2, k3⟩ := s45l (d := d) hw hb43 (shN L) 0 σ1 (by omega) hF1 hb1 ⟨fun w hw2 => g4 w hw2, fun w _ hc => by cases hc⟩
  refine ⟨σ2, ?_, k2, k2.blr hb (by omega) (by omega), k3⟩
  rw [ce_45, sg_45_0]
  (try simp (disch := omega) only [a2, wr_id2])
  repeat (first | refine step_t trivial ?_ | refine step_t (by omega) ?_ | refine step_f (by omega) ?_)
  refine step_c (g1) ?_
  try dsimp only
  repeat (first | refine step_t trivial ?_ | refine step_t (by omega) ?_ | refine step_f (by omega) ?_)
  refine step_c (s42 (by omega) hb1 hw) ?_
  try dsimp only
  exact k1
/-- unlikeWords -/
def unlN (L : LB) : Nat := cntB (fun w => decide (0 < cW L w)) (2 ^ lN0 L)
theorem s44l {d : Nat} (h : 1 ≤ d) {σ : HP} {b : Int} {L : LB} (hy : Lay σ) (hb : blr σ b L) (hw : wf0 L) (hr : shR σ L (shN L)) : ∀ (m w : Nat), w + m = 2 ^ lN0 L → rsP PG0 MX d 44 9 [vR 84, vR b, vI (cntB (fun w => decide (0 < cW L w)) w : Nat), vI w] [] σ = some (((unlN L : Nat) : Int), σ) := by
  obtain ⟨⟨m1, m2, m3, m4, m5, m6, m7, m8, m9⟩, f3, f4, f5, f6, fs, fw⟩ := id hb
  have hl := wf_len hw
  have hs := shN_le L
  have h8 := pow8 hw.1
  have y1 := hy.1
  have a1 := y84_m1 hy
  have a2 := y84_0 hy
  have a4 := y85_m1 hy
  have a5 := y85_m2 hy
  intro m
  induction m with
  | zero =>
    intro w hm
    have : w = 2 ^ lN0 L := by omega
    rw [sg_44_9]
    (try simp (disch := omega) only [wr_id2])
    repeat (first | refine step_t trivial ?_ | refine step_t (by omega) ?_ | refine step_f (by omega) ?_)
    refine step_c (s47 (by omega) hb hw) ?_
    try dsimp only
    rw [this]
    (try simp (disch := omega) only [wr_id2])
    repeat (first | refine step_t trivial ?_ | refine step_t (by omega) ?_ | refine step_f (by omega) ?_)
    rfl
  | succ m ih =>
    intro w hm
    have hq := ih (w + 1) (by omega)
    have e9 : cntB (fun w => decide (0 < cW L w)) (w + 1) = cntB (fun w => decide (0 < cW L w)) w + (bif decide (0 < cW L w) then 1 else 0) := rfl
    rw [e9] at hq
    have hc := cwN_le L w (shN L)
    have ec : cW L w = cwN L w (shN L) := rfl
    rw [sg_44_9]
    (try simp (disch := omega) only [wr_id2])
    repeat (first | refine step_t trivial ?_ | refine step_t (by omega) ?_ | refine step_f (by omega) ?_)
    refine step_c (s47 (by omega) hb hw) ?_
    try dsimp only
    (try simp (disch := omega) only [a2, hr.1 w (by omega), wr_id2])
    repeat (first | refine step_t trivial ?_ | refine step_t (by omega) ?_ | refine step_f (by omega) ?_)
    refine step_i (fun g => ?_) (fun g => ?_)
    · rw [decide_eq_false (by omega)] at hq
      exact hq
    · rw [decide_eq_true (by omega)] at hq
      exact hq
theorem s44 {d : Nat} (h : 4 ≤ d) {σ : HP} {b : Int} {L : LB} (hy : Lay σ) (hb : blr σ b L) (hw : wf0 L) (hb43 : b + 2 < 43) : ∃ σ', clR PG0 MX d 44 [vR 84, vR b] σ = some (((unlN L : Nat) : Int), σ') ∧ FS σ σ' ∧ blr σ' b L ∧ shR σ' L (shN L) := by
  obtain ⟨d, rfl⟩ := ob1 (show 1 ≤ d by omega)
  obtain ⟨σ1, k1, k2, k3, k4⟩ := s45 (d := d) (by omega) hy hb hw hb43
  have y1 := hy.1
  have a1 := y84_m1 hy
  refine ⟨σ1, ?_, k2, k3, k4⟩
  rw [ce_44, sg_44_0]
  (try simp (disch := omega) only [wr_id2])
  repeat (first | refine step_t trivial ?_ | refine step_t (by omega) ?_ | refine step_f (by omega) ?_)
  refine step_c (k1) ?_
  try dsimp only
  exact s44l (d := d) (by omega) k2.2 k3 hw k4 (2 ^ lN0 L) 0 (by omega)
/-- isClean -/
def clnB (L : LB) : Bool := decide (unlN L = shN L)
theorem s53 {d : Nat} (h : 5 ≤ d) {σ : HP} {b : Int} {L : LB} (hy : Lay σ) (hb : blr σ b L) (hw : wf0 L) (hb43 : b + 2 < 43) : ∃ σ', clR PG0 MX d 53 [vR 84, vR b] σ = some (b2i (clnB L), σ') ∧ FS σ σ' ∧ blr σ' b L ∧ shR σ' L (shN L) := by
  obtain ⟨d, rfl⟩ := ob1 (show 1 ≤ d by omega)
  obtain ⟨σ1, k1, k2, k3, k4⟩ := s44 (d := d) (by omega) hy hb hw hb43
  have y1 := hy.1
  have a1 := y84_m1 hy
  have hl := wf_len hw
  have hs := shN_le L
  have h8 := pow8 hw.1
  have hu : unlN L ≤ 2 ^ lN0 L := cntB_le _ _
  obtain ⟨⟨n1, n2, n3, n4⟩, -⟩ := id k3
  refine ⟨σ1, ?_, k2, k3, k4⟩
  rw [ce_53, sg_53_0]
  (try simp (disch := omega) only [wr_id2])
  repeat (first | refine step_t trivial ?_ | refine step_t (by omega) ?_ | refine step_f (by omega) ?_)
  refine step_c (k1) ?_
  try dsimp only
  repeat (first | refine step_t trivial ?_ | refine step_t (by omega) ?_ | refine step_f (by omega) ?_)
  refine step_c (s42 (by omega) k3 hw) ?_
  try dsimp only
  (try simp (disch := omega) only [wr_id2])
  unfold clnB
  refine step_i (fun g => ?_) (fun g => ?_)
  · rw [decide_eq_false (by omega)]; rfl
  · rw [decide_eq_true (by omega)]; rfl
/-- isFull -/
def fulF (L : LB) : Nat → Nat → Bool
  | 0, _ => true
  | m + 1, w => if cW L w = (bif inSc L w then 1 else 0) then fulF L m (w + 1) else false
def fulB (L : LB) : Bool := fulF L (2 ^ lN0 L) 0
theorem s54l {d : Nat} (h : 2 ≤ d) {σ : HP} {b : Int} {L : LB} (hy : Lay σ) (hb : blr σ b L) (hw : wf0 L) (hr : shR σ L (shN L)) : ∀ (m w : Nat), w + m = 2 ^ lN0 L → rsP PG0 MX d 54 7 [vR 84, vR b, vI w] [] σ = some (b2i (fulF L m w), σ) := by
  obtain ⟨⟨m1, m2, m3, m4, m5, m6, m7, m8, m9⟩, f3, f4, f5, f6, fs, fw⟩ := id hb
  have hl := wf_len hw
  have hs := shN_le L
  have h8 := pow8 hw.1
  have y1 := hy.1
  have a1 := y84_m1 hy
  have a2 := y84_0 hy
  have a4 := y85_m1 hy
  have a5 := y85_m2 hy
  intro m
  induction m with
  | zero =>
    intro w hm
    have : w = 2 ^ lN0 L := by omega
    rw [sg_54_7]
    (try simp (disch := omega) only [wr_id2])
    repeat (first | refine step_t trivial ?_ | refine step_t (by omega) ?_ | refine step_f (by omega) ?_)
    refine step_c (s47 (by omega) hb hw) ?_
    try dsimp only
    (try simp (disch := omega) only [wr_id2])
    repeat (first | refine step_t trivial ?_ | refine step_t (by omega) ?_ | refine step_f (by omega) ?_)
    rfl
  | succ m ih =>
    intro w hm
    have hq := ih (w + 1) (by omega)
    have hc := cwN_le L w (shN L)
    have ec : cW L w = cwN L w (shN L) := rfl
    rw [sg_54_7]
    (try simp (disch := omega) only [wr_id2])
    repeat (first | refine step_t trivial ?_ | refine step_t (by omega) ?_ | refine step_f (by omega) ?_)
    refine step_c (s47 (by omega) hb hw) ?_
    try dsimp only
    (try simp (disch := omega) only [a2, hr.1 w (by omega), wr_id2])
    repeat (first | refine step_t trivial ?_ | refine step_t (by omega) ?_ | refine step_f (by omega) ?_)
    refine step_c (s49 (by omega) hb hw (by omega)) ?_
    try dsimp only
    rw [wr_b2i]
    unfold fulF
    cases inSc L w
    · refine step_t (show b2i false = 0 by decide) ?_
      rw [sg_54_34]
      (try simp (disch := omega) only [wr_id2])
      show _ = some (b2i (if cW L w = 0 then fulF L m (w + 1) else false), σ)
      refine step_i (fun g => ?_) (fun g => ?_)
      · rw [if_pos (by omega)]; exact hq
      · rw [if_neg (by omega)]; rfl
    · refine step_f (show ¬ (b2i true = 0) by decide) ?_
      rw [sg_54_34]
      (try simp (disch := omega) only [wr_id2])
      show _ = some (b2i (if cW L w = 1 then fulF L m (w + 1) else false), σ)
      refine step_i (fun g => ?_) (fun g => ?_)
      · rw [if_pos (by omega)]; exact hq
      · rw [if_neg (by omega)]; rfl
theorem s54 {d : Nat} (h : 4 ≤ d) {σ : HP} {b : Int} {L : LB} (hy : Lay σ) (hb : blr σ b L) (hw : wf0 L) (hb43 : b + 2 < 43) : ∃ σ', clR PG0 MX d 54 [vR 84, vR b] σ = some (b2i (fulB L), σ') ∧ FS σ σ' ∧ blr σ' b L := by
  obtain ⟨d, rfl⟩ := ob1 (show 1 ≤ d by omega)
  obtain ⟨σ1, k1, k2, k3, k4⟩ := s45 (d := d) (by omega) hy hb hw hb43
  have y1 := hy.1
  have a1 := y84_m1 hy
  refine ⟨σ1, ?_, k2, k3⟩
  rw [ce_54, sg_54_0]
  (try simp (disch := omega) only [wr_id2])
  repeat (first | refine step_t trivial ?_ | refine step_t (by omega) ?_ | refine step_f (by omega) ?_)
  refine step_c (k1) ?_
  try dsimp only
  exact s54l (d := d) (by omega) k2.2 k3 hw k4 (2 ^ lN0 L) 0 (by omega)
/-- lackedWord -/
def nthF (p : Nat → Bool) : Nat → Nat → Int → Int
  | 0, _, _ => -1
  | m + 1, i, k => if p i = true then (if k = 0 then (i : Int) else nthF p m (i + 1) (k - 1)) else nthF p m (i + 1) k
def lckB (L : LB) (w : Nat) : Bool := decide (cW L w = 0) && inSc L w
theorem s70l {d : Nat} (h : 2 ≤ d) {σ : HP} {b : Int} {L : LB} (hy : Lay σ) (hb : blr σ b L) (hw : wf0 L) (hr : shR σ L (shN L)) : ∀ (m w : Nat) (k : Int) (u : MV), w + m = 2 ^ lN0 L → 0 ≤ k → k ≤ 2147483647 → rsP PG0 MX d 70 10 [vR 84, vR b, u, vI k, vI w] [] σ = some (nthF (lckB L) m w k, σ) := by
  obtain ⟨⟨m1, m2, m3, m4, m5, m6, m7, m8, m9⟩, f3, f4, f5, f6, fs, fw⟩ := id hb
  have hl := wf_len hw
  have hs := shN_le L
  have h8 := pow8 hw.1
  have y1 := hy.1
  have a1 := y84_m1 hy
  have a2 := y84_0 hy
  have a4 := y85_m1 hy
  have a5 := y85_m2 hy
  intro m
  induction m with
  | zero =>
    intro w k u hm k1 k2
    have : w = 2 ^ lN0 L := by omega
    rw [sg_70_10]
    (try simp (disch := omega) only [wr_id2])
    repeat (first | refine step_t trivial ?_ | refine step_t (by omega) ?_ | refine step_f (by omega) ?_)
    refine step_c (s47 (by omega) hb hw) ?_
    try dsimp only
    (try simp (disch := omega) only [wr_id2])
    repeat (first | refine step_t trivial ?_ | refine step_t (by omega) ?_ | refine step_f (by omega) ?_)
    rfl
  | succ m ih =>
    intro w k u hm k1 k2
    have hc := cwN_le L w (shN L)
    have ec : cW L w = cwN L w (shN L) := rfl
    rw [sg_70_10]
    (try simp (disch := omega) only [wr_id2])
    repeat (first | refine step_t trivial ?_ | refine step_t (by omega) ?_ | refine step_f (by omega) ?_)
    refine step_c (s47 (by omega) hb hw) ?_
    try dsimp only
    (try simp (disch := omega) only [a2, hr.1 w (by omega), wr_id2])
    repeat (first | refine step_t trivial ?_ | refine step_t (by omega) ?_ | refine step_f (by omega) ?_)
    unfold nthF lckB
    refine step_i (fun g => ?_) (fun g => ?_)
    · rw [decide_eq_false (by omega), Bool.false_and, if_neg (by decide)]
      exact ih (w + 1) k _ (by omega) k1 k2
    · rw [decide_eq_true (show cW L w = 0 by omega), Bool.true_and]
      repeat (first | refine step_t trivial ?_ | refine step_t (by omega) ?_ | refine step_f (by omega) ?_)
      refine step_c (s49 (by omega) hb hw (by omega)) ?_
      try dsimp only
      rw [wr_b2i]
      cases inSc L w
      · refine step_t (show b2i false = 0 by decide) ?_
        rw [if_neg (by decide)]
        exact ih (w + 1) k _ (by omega) k1 k2
      · refine step_f (show ¬ (b2i true = 0) by decide) ?_
        (try simp (disch := omega) only [wr_id2])
        refine step_i (fun g2 => ?_) (fun g2 => ?_)
        · rw [if_pos trivial, if_neg (show ¬ k = 0 by omega)]
          exact ih (w + 1) (k - 1) _ (by omega) (by omega) (by omega)
        · rw [if_pos trivial, if_pos (show k = 0 by omega)]
theorem s70 {d : Nat} (h : 4 ≤ d) {σ : HP} {b : Int} {L : LB} (hy : Lay σ) (hb : blr σ b L) (hw : wf0 L) (hb43 : b + 2 < 43) {k : Int} (k1 : 0 ≤ k) (k2 : k ≤ 2147483647) : ∃ σ', clR PG0 MX d 70 [vR 84, vR b, vI k] σ = some (nthF (lckB L) (2 ^ lN0 L) 0 k, σ') ∧ FS σ σ' := by
  obtain ⟨d, rfl⟩ := ob1 (show 1 ≤ d by omega)
  obtain ⟨σ1, j1, j2, j3, j4⟩ := s45 (d := d) (by omega) hy hb hw hb43
  have y1 := hy.1
  have a1 := y84_m1 hy
  refine ⟨σ1, ?_, j2⟩
  rw [ce_70, sg_70_0]
  (try simp (disch := omega) only [wr_id2])
  repeat (first | refine step_t trivial ?_ | refine step_t (by omega) ?_ | refine step_f (by omega) ?_)
  refine step_c (j1) ?_
  try dsimp only
  exact s70l (d := d) (by omega) j2.2 j3 hw j4 (2 ^ lN0 L) 0 k _ (by omega) k1 k2
/-- openBits -/
def opnB (L : LB) (x : Nat) : Bool := decide (cW L (wd L (lT L).length ^^^ 2 ^ x) = 0) && inSc L (wd L (lT L).length ^^^ 2 ^ x)
def opnF (L : LB) : Nat → Nat → Nat → Nat
  | 0, _, a => a
  | m + 1, x, a => opnF L m (x + 1) (bif opnB L x then a ||| 2 ^ x else a)
theorem s125l {d : Nat} (h : 2 ≤ d) {σ : HP} {b : Int} {L : LB} (hy : Lay σ) (hb : blr σ b L) (hw : wf0 L) (hr : shR σ L (shN L)) : ∀ (m x a : Nat) (u : MV), x + m = lN0 L → a < 256 → rsP PG0 MX d 125 9 [vR 84, vR b, vI a, vI x, u] [] σ = some (((opnF L m x a : Nat) : Int), σ) := by
  obtain ⟨⟨m1, m2, m3, m4, m5, m6, m7, m8, m9⟩, f3, f4, f5, f6, fs, fw⟩ := id hb
  have hl := wf_len hw
  have hs := shN_le L
  have h9 := hw.1
  have y1 := hy.1
  have a1 := y84_m1 hy
  have a2 := y84_0 hy
  have a4 := y85_m1 hy
  have a5 := y85_m2 hy
  intro m
  induction m with
  | zero =>
    intro x a u hm ha
    rw [sg_125_9]
    (try simp (disch := omega) only [f3, wr_id2])
    repeat (first | refine step_t trivial ?_ | refine step_t (by omega) ?_ | refine step_f (by omega) ?_)
    rfl
  | succ m ih =>
    intro x a u hm ha
    have q1 := wd_256 hw (lT L).length
    have q2 : 2 ^ x < 256 := Nat.pow_lt_pow_right (a := 2) (by omega) (show x < 8 by omega)
    have q3 := xor_256 q1 q2
    have q4 : a ||| 2 ^ x < 256 := Nat.or_lt_two_pow (n := 8) ha q2
    have hc := cwN_le L (wd L (lT L).length ^^^ 2 ^ x) (shN L)
    have ec : cW L (wd L (lT L).length ^^^ 2 ^ x) = cwN L (wd L (lT L).length ^^^ 2 ^ x) (shN L) := rfl
    have es : i_shl 1 (x : Int) = ((2 ^ x : Nat) : Int) := by
      have := i_shl_n (a := 1) (k := x) (by omega) (by omega)
      rw [Nat.one_mul] at this
      exact this
    rw [sg_125_9]
    (try simp (disch := omega) only [f3, wr_id2])
    repeat (first | refine step_t trivial ?_ | refine step_t (by omega) ?_ | refine step_f (by omega) ?_)
    refine step_c (s112 (by omega) hb hw) ?_
    try dsimp only
    (try simp (disch := omega) only [es, i_xor_n (a := wd L (lT L).length) (b := 2 ^ x) (by omega) (by omega), a2, hr.1 _ q3, wr_id2])
    repeat (first | refine step_t trivial ?_ | refine step_t (by omega) ?_ | refine step_f (by omega) ?_)
    unfold opnF opnB
    refine step_i (fun g => ?_) (fun g => ?_)
    · rw [decide_eq_false (by omega)]
      exact ih (x + 1) a _ (by omega) ha
    · rw [decide_eq_true (show cW L (wd L (lT L).length ^^^ 2 ^ x) = 0 by omega), Bool.true_and]
      repeat (first | refine step_t trivial ?_ | refine step_t (by omega) ?_ | refine step_f (by omega) ?_)
      refine step_c (s49 (by omega) hb hw q3) ?_
      try dsimp only
      rw [wr_b2i]
      cases inSc L (wd L (lT L).length ^^^ 2 ^ x)
      · refine step_t (show b2i false = 0 by decide) ?_
        exact ih (x + 1) a _ (by omega) ha
      · refine step_f (show ¬ (b2i true = 0) by decide) ?_
        try rw [i_or_n (a := a) (b := 2 ^ x) (by omega) (by omega)]
        exact ih (x + 1) (a ||| 2 ^ x) _ (by omega) q4
theorem s125 {d : Nat} (h : 4 ≤ d) {σ : HP} {b : Int} {L : LB} (hy : Lay σ) (hb : blr σ b L) (hw : wf0 L) (hb43 : b + 2 < 43) : ∃ σ', clR PG0 MX d 125 [vR 84, vR b] σ = some (((opnF L (lN0 L) 0 0 : Nat) : Int), σ') ∧ FS σ σ' := by
  obtain ⟨d, rfl⟩ := ob1 (show 1 ≤ d by omega)
  obtain ⟨σ1, j1, j2, j3, j4⟩ := s45 (d := d) (by omega) hy hb hw hb43
  have y1 := hy.1
  have a1 := y84_m1 hy
  refine ⟨σ1, ?_, j2⟩
  rw [ce_125, sg_125_0]
  (try simp (disch := omega) only [wr_id2])
  repeat (first | refine step_t trivial ?_ | refine step_t (by omega) ?_ | refine step_f (by omega) ?_)
  refine step_c (j1) ?_
  try dsimp only
  exact s125l (d := d) (by omega) j2.2 j3 hw j4 (lN0 L) 0 0 _ (by omega) (by omega)
