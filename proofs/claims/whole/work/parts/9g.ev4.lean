/-! EVENEST: what the answer is -/
def amn (p : Nat → Bool) (U : Nat → Nat) : Nat → Nat → Nat → Nat → Nat × Nat
  | 0, _, b, l => (b, l)
  | m + 1, c, b, l => if p c = true ∧ U c < l then amn p U m (c + 1) c (U c) else amn p U m (c + 1) b l
def EvG (p : Nat → Bool) (U : Nat → Nat) (M u c : Nat) : Prop := (c < M ∧ p c = true ∧ U c = u) ∧ ∀ c', c' < M → p c' = true → u ≤ U c' ∧ (U c' = u → c ≤ c')
theorem EvG.uq {p : Nat → Bool} {U : Nat → Nat} {M u c u' c' : Nat} (h : EvG p U M u c) (h' : EvG p U M u' c') : u = u' ∧ c = c' := by
  obtain ⟨⟨a1, a2, a3⟩, a4⟩ := h
  obtain ⟨⟨b1, b2, b3⟩, b4⟩ := h'
  obtain ⟨q1, q2⟩ := a4 c' b1 b2
  obtain ⟨q3, q4⟩ := b4 c a1 a2
  have e : u = u' := by omega
  have e1 := q2 (by omega)
  have e2 := q4 (by omega)
  exact ⟨e, by omega⟩
theorem amn_ok {p : Nat → Bool} {U : Nat → Nat} {M : Nat} (hp : p 0 = true) (hU : U 0 < 1000) : ∀ m c b l, c + m = M → 1 ≤ M → ((c = 0 ∧ l = 1000) ∨ EvG p U c l b) → EvG p U M (amn p U m c b l).2 (amn p U m c b l).1 := by
  intro m
  induction m with
  | zero =>
    intro c b l hc hM h
    rcases h with h | h
    · omega
    · rw [show M = c by omega]; exact h
  | succ m ih =>
    intro c b l hc hM h
    show EvG p U M (if p c = true ∧ U c < l then amn p U m (c + 1) c (U c) else amn p U m (c + 1) b l).2 (if p c = true ∧ U c < l then amn p U m (c + 1) c (U c) else amn p U m (c + 1) b l).1
    by_cases z : p c = true ∧ U c < l
    · rw [if_pos z]
      refine ih (c + 1) c (U c) (by omega) hM (Or.inr ⟨⟨by omega, z.1, rfl⟩, fun c' h1 h2 => ?_⟩)
      by_cases q : c' = c
      · subst q; exact ⟨Nat.le_refl _, fun _ => Nat.le_refl _⟩
      · rcases h with h | h
        · omega
        · have := (h.2 c' (by omega) h2).1
          exact ⟨by omega, fun w => by omega⟩
    · rw [if_neg z]
      refine ih (c + 1) b l (by omega) hM (Or.inr ?_)
      rcases h with h | h
      · rw [h.1, h.2] at z
        exact absurd ⟨hp, hU⟩ z
      · obtain ⟨⟨a1, a2, a3⟩, a4⟩ := h
        refine ⟨⟨by omega, a2, a3⟩, fun c' h1 h2 => ?_⟩
        by_cases q : c' = c
        · subst q
          have : ¬ U c' < l := fun w => z ⟨h2, w⟩
          exact ⟨by omega, fun w => by omega⟩
        · exact a4 c' (by omega) h2
abbrev evE (L : LB) (c : Nat) : Bool := decide (pcN ((lT L).length - 1) c % 2 = 0)
def evR (L : LB) : Nat × Nat := amn (evE L) (unC L) (2 ^ ((lT L).length - 1)) 0 0 1000
def evQ (x : Int) (L : LB) : Int := if 0 ≤ x ∧ x ≤ 1 then (if (lT L).length ≤ 16 then (if wlB L = true then (if x = 0 then ((evR L).2 : Nat) else ((evR L).1 : Nat)) else -6) else -5) else -2
theorem tl_le {L : LB} {x : Nat} (h : (lT L).length ≤ 16) : tlF L x ≤ 15 := by
  have a := cnB_le x (slc L 0 ((lT L).length - 1))
  have b : (slc L 0 ((lT L).length - 1)).length ≤ (lT L).length - 1 := by
    unfold slc
    rw [List.length_take]
    omega
  unfold tlF
  omega
theorem pow15 {n : Nat} (h : n ≤ 15) : 2 ^ n ≤ 32768 := Nat.pow_le_pow_right (show 0 < 2 by decide) h
theorem tl_sum {L : LB} (hw : wf0 L) : sF (tlF L) (lN0 L) 0 = (lT L).length - 1 := by
  have e := sF_cn (N := lN0 L) (slc L 0 ((lT L).length - 1)) (fun x hx => slc_mem hw hx)
  have b : (slc L 0 ((lT L).length - 1)).length = (lT L).length - 1 := by
    unfold slc
    rw [List.length_take, List.length_drop]
    omega
  rw [b] at e
  exact e
theorem sF_le {f g : Nat → Nat} (h : ∀ x, f x ≤ g x) : ∀ m b, sF f m b ≤ sF g m b := by
  intro m
  induction m with
  | zero => intro b; exact Nat.le_refl _
  | succ m ih =>
    intro b
    have := h b
    have := ih (b + 1)
    show f b + sF f m (b + 1) ≤ g b + sF g m (b + 1)
    omega
theorem unV_lt {L : LB} (hw : wf0 L) (h16 : (lT L).length ≤ 16) {k : Nat → Nat} (hk : ∀ x, k x ≤ tlF L x) : unV L k < 256 := by
  have a := sF_le hk (lN0 L) 0
  rw [tl_sum hw] at a
  have b := mxF_le (f := fun b => 4 * tlF L b - 2 * k b) (B := 100) (lN0 L) 0 (sF k (lN0 L) 0 + 2) (by omega) (fun x _ _ => by have := tl_le (L := L) (x := x) h16; omega)
  unfold unV
  omega
theorem evR_ok {L : LB} (hw : wf0 L) (h1 : 1 ≤ (lT L).length) (h16 : (lT L).length ≤ 16) : EvG (evE L) (unC L) (2 ^ ((lT L).length - 1)) (evR L).2 (evR L).1 := by
  refine amn_ok ?_ ?_ _ 0 0 1000 (by omega) (Nat.one_le_two_pow) (Or.inl ⟨rfl, rfl⟩)
  · exact decide_eq_true (by rw [pc_z])
  · rw [unC_v hw h1 (by omega)]
    have := unV_lt hw h16 (k := kcF L ((lT L).length - 1) 0 0) (fun x => kc_le x _ _ _ (by omega))
    omega
/-- what the class knows after some choices -/
abbrev bxF (L : LB) (k : Nat → Nat) : Prop := ∀ x, k x ≤ tlF L x
abbrev vlL (L : LB) (k : Nat → Nat) : Nat := vlF (tlF L) k (lN0 L) 0
abbrev fcL (L : LB) (k : Nat → Nat) : Nat := fcF L ((lT L).length - 1) 0 k
def EvI (L : LB) (j u c : Nat) : Prop := (∀ v, bxF L v → vlL L v < j → sF v (lN0 L) 0 % 2 = 0 → u ≤ unV L v ∧ (unV L v = u → c ≤ fcL L v)) ∧ ((j = 0 ∧ u = 256) ∨ ∃ v, bxF L v ∧ vlL L v < j ∧ sF v (lN0 L) 0 % 2 = 0 ∧ unV L v = u ∧ fcL L v = c)
theorem bx_eq {L : LB} (hw : wf0 L) {v k : Nat → Nat} (h1 : bxF L v) (h2 : bxF L k) (e : vlL L v = vlL L k) : v = k := by
  funext x
  by_cases z : x < lN0 L
  · exact vl_inj h1 h2 (lN0 L) 0 e x (Nat.zero_le _) (by omega)
  · have a := h1 x
    have b := h2 x
    have q : tlF L x = 0 := slc_no hw (by omega)
    omega
theorem bx_0 {L : LB} {v : Nat → Nat} (h : vlL L v = 0) : sF v (lN0 L) 0 = 0 := by
  have g : ∀ m b, vlF (tlF L) v m b = 0 → sF v m b = 0 := by
    intro m
    induction m with
    | zero => intro b _; rfl
    | succ m ih =>
      intro b e
      have e : v b + (tlF L b + 1) * vlF (tlF L) v m (b + 1) = 0 := e
      have e1 : (tlF L b + 1) * vlF (tlF L) v m (b + 1) = 0 := by omega
      have e2 : vlF (tlF L) v m (b + 1) = 0 := by
        rcases Nat.mul_eq_zero.mp e1 with q | q
        · omega
        · exact q
      show v b + sF v m (b + 1) = 0
      rw [ih (b + 1) e2]
      omega
  exact g _ _ h
theorem ev_odd {L : LB} (hw : wf0 L) {j u c : Nat} {k : Nat → Nat} (h : EvI L j u c) (hk : bxF L k) (e : vlL L k = j) (z : ¬ sF k (lN0 L) 0 % 2 = 0) : EvI L (j + 1) u c := by
  have hj : j ≠ 0 := fun q => z (by rw [bx_0 (e.trans q)])
  refine ⟨fun v h1 h2 h3 => ?_, ?_⟩
  · by_cases q : vlL L v = j
    · rw [bx_eq hw h1 hk (q.trans e.symm)] at h3
      exact absurd h3 z
    · exact h.1 v h1 (by omega) h3
  · rcases h.2 with q | ⟨v, q1, q2, q3⟩
    · exact absurd q.1 hj
    · exact Or.inr ⟨v, q1, by omega, q3⟩
theorem ev_gt {L : LB} (hw : wf0 L) (h16 : (lT L).length ≤ 16) {j u c : Nat} {k : Nat → Nat} (h : EvI L j u c) (hk : bxF L k) (e : vlL L k = j) (z : u < unV L k) : EvI L (j + 1) u c := by
  have h256 := unV_lt hw h16 hk
  refine ⟨fun v h1 h2 h3 => ?_, ?_⟩
  · by_cases q : vlL L v = j
    · rw [bx_eq hw h1 hk (q.trans e.symm)]
      exact ⟨by omega, fun w => by omega⟩
    · exact h.1 v h1 (by omega) h3
  · rcases h.2 with q | ⟨v, q1, q2, q3⟩
    · omega
    · exact Or.inr ⟨v, q1, by omega, q3⟩
theorem ev_eq {L : LB} (hw : wf0 L) (h16 : (lT L).length ≤ 16) {j u c : Nat} {k : Nat → Nat} (h : EvI L j u c) (hk : bxF L k) (e : vlL L k = j) (z0 : sF k (lN0 L) 0 % 2 = 0) (z : u = unV L k) : EvI L (j + 1) (unV L k) (if fcL L k < c then fcL L k else c) := by
  have h256 := unV_lt hw h16 hk
  have hc : (if fcL L k < c then fcL L k else c) ≤ c ∧ (if fcL L k < c then fcL L k else c) ≤ fcL L k := by
    by_cases q : fcL L k < c
    · rw [if_pos q]; omega
    · rw [if_neg q]; omega
  refine ⟨fun v h1 h2 h3 => ?_, ?_⟩
  · by_cases q : vlL L v = j
    · rw [bx_eq hw h1 hk (q.trans e.symm)]
      exact ⟨Nat.le_refl _, fun _ => hc.2⟩
    · obtain ⟨a1, a2⟩ := h.1 v h1 (by omega) h3
      exact ⟨by omega, fun w => Nat.le_trans hc.1 (a2 (by omega))⟩
  · by_cases q : fcL L k < c
    · rw [if_pos q]
      exact Or.inr ⟨k, hk, by omega, z0, rfl, rfl⟩
    · rw [if_neg q]
      rcases h.2 with w | ⟨v, q1, q2, q3, q4, q5⟩
      · omega
      · exact Or.inr ⟨v, q1, by omega, q3, by omega, q5⟩
theorem ev_lt {L : LB} (hw : wf0 L) {j u c : Nat} {k : Nat → Nat} (h : EvI L j u c) (hk : bxF L k) (e : vlL L k = j) (z0 : sF k (lN0 L) 0 % 2 = 0) (z : unV L k < u) : EvI L (j + 1) (unV L k) (fcL L k) := by
  refine ⟨fun v h1 h2 h3 => ?_, Or.inr ⟨k, hk, by omega, z0, rfl, rfl⟩⟩
  by_cases q : vlL L v = j
  · rw [bx_eq hw h1 hk (q.trans e.symm)]
    exact ⟨Nat.le_refl _, fun _ => Nat.le_refl _⟩
  · have := (h.1 v h1 (by omega) h3).1
    exact ⟨by omega, fun w => by omega⟩
theorem ev_end {L : LB} (hw : wf0 L) (h1 : 1 ≤ (lT L).length) (h16 : (lT L).length ≤ 16) {u c : Nat} (h : EvI L (prF (tlF L) (lN0 L) 0) u c) : u = (evR L).2 ∧ c = (evR L).1 := by
  have hp := pow15 (n := (lT L).length - 1) (by omega)
  have all : ∀ v, bxF L v → vlL L v < prF (tlF L) (lN0 L) 0 := fun v hv => vl_lt hv (lN0 L) 0
  have key : ∀ c', c' < 2 ^ ((lT L).length - 1) → bxF L (kcF L ((lT L).length - 1) 0 c') ∧ sF (kcF L ((lT L).length - 1) 0 c') (lN0 L) 0 = pcN ((lT L).length - 1) c' ∧ unV L (kcF L ((lT L).length - 1) 0 c') = unC L c' ∧ fcL L (kcF L ((lT L).length - 1) 0 c') ≤ c' := fun c' hc' =>
    ⟨fun x => kc_le x _ _ _ (by omega), kc_sum hw _ _ _ (by omega), (unC_v hw h1 (by omega)).symm, fc_le _ _ _ _ (by omega) (fun x => Nat.le_refl _)⟩
  have back : ∀ v, bxF L v → kcF L ((lT L).length - 1) 0 (fcL L v) = v := fun v hv => by
    funext x
    exact fc_k _ _ v (by omega) hv x
  obtain ⟨g1, g2⟩ := h
  refine (EvG.uq ⟨?_, ?_⟩ (evR_ok hw h1 h16))
  · rcases g2 with q | ⟨v, q1, q2, q3, q4, q5⟩
    · have := vl_lt (T := tlF L) (k := fun _ => 0) (fun x => Nat.zero_le _) (lN0 L) 0
      omega
    · have hlt : fcL L v < 2 ^ ((lT L).length - 1) := fc_lt _ _ _
      obtain ⟨k1, k2, k3, k4⟩ := key (fcL L v) hlt
      rw [back v q1] at k2 k3
      rw [q5] at hlt k2 k3
      exact ⟨hlt, decide_eq_true (by rw [← k2]; exact q3), by rw [← k3]; exact q4⟩
  · intro c' hc' hp'
    obtain ⟨k1, k2, k3, k4⟩ := key c' hc'
    obtain ⟨a1, a2⟩ := g1 _ k1 (all _ k1) (by rw [k2]; exact of_decide_eq_true hp')
    rw [k3] at a1 a2
    exact ⟨a1, fun w => Nat.le_trans (a2 w) k4⟩
