/-! EVENEST: the class -/
theorem s134l {d : Nat} {σ0 : HP} {T : Nat → Nat} {N : Nat} (hN : N ≤ 8) (hT : ∀ x, T x ≤ 255) : ∀ (m b : Nat) (k : Nat → Nat) (σ : HP), b + m = N → (∀ x, k x ≤ 255) → FS σ0 σ → rwR σ 98 T → rwR σ 99 k → ∃ σ', rsP PG0 MX d 134 2 [vR 97, vI N, vI b] [] σ = some (b2i (nxF T m b k).isSome, σ') ∧ FS σ0 σ' ∧ (∀ p j, p ≠ 99 → σ' p j = σ p j) ∧ ∀ k', nxF T m b k = some k' → rwR σ' 99 k' := by
  intro m
  induction m with
  | zero =>
    intro b k σ hb hk hF h1 h2
    refine ⟨σ, ?_, hF, fun _ _ _ => rfl, fun k' e => by cases e⟩
    rw [sg_134_2]
    (try simp (disch := omega) only [wr_id2])
    repeat (first | ((with_reducible refine step_t ?_ ?_); with_reducible exact True.intro) | ((with_reducible refine step_t ?_ ?_); omega) | ((with_reducible refine step_f ?_ ?_); omega))
    rfl
  | succ m ih =>
    intro b k σ hb hk hF h1 h2
    have hy := hF.2
    have y1 := hy.1
    have a1 := y97_m1 hy
    have a2 := y97_0 hy
    have a3 := y97_1 hy
    have a4 := y98_m1 hy
    have a5 := y98_m2 hy
    have a6 := y99_m1 hy
    have a7 := y99_m2 hy
    have g1 := h1 b (by omega)
    have g2 := h2 b (by omega)
    have g3 := hk b
    have g4 := hT b
    have en : nxF T (m + 1) b k = if T b ≤ k b then nxF T m (b + 1) (ufN k b 0) else some (ufN k b (k b + 1)) := rfl
    by_cases z : T b ≤ k b
    · rw [if_pos z] at en
      obtain ⟨σ', k1, k2, k3, k4⟩ := ih (b + 1) (ufN k b 0) (up σ 99 b ((0 : Nat) : Int)) (by omega) (fun x => by
        show (if x = b then 0 else k x) ≤ 255
        have := hk x
        by_cases w : x = b
        · rw [if_pos w]; omega
        · rw [if_neg w]; omega) (hF.upd (by omega) okr_99 (by omega)) (rw_ne h1 (by omega)) (rw_up h2 b 0)
      rw [en]
      refine ⟨σ', ?_, k2, fun p j q => by rw [k3 p j q, up_n1 _ _ _ _ q], k4⟩
      rw [sg_134_2]
      (try simp (disch := omega) only [a2, a3, g1, g2, wr_id2])
      repeat (first | ((with_reducible refine step_t ?_ ?_); with_reducible exact True.intro) | ((with_reducible refine step_t ?_ ?_); omega) | ((with_reducible refine step_f ?_ ?_); omega))
      exact k1
    · rw [if_neg z] at en
      have hu : FS σ0 (up σ 99 b ((k b + 1 : Nat) : Int)) := hF.upd (by omega) okr_99 (by omega)
      rw [en]
      refine ⟨up σ 99 b ((k b + 1 : Nat) : Int), ?_, hu, fun p j q => up_n1 _ _ _ _ q, fun k' e => ?_⟩
      · rw [sg_134_2]
        (try simp (disch := omega) only [a2, a3, g1, g2, wr_id2])
        repeat (first | ((with_reducible refine step_t ?_ ?_); with_reducible exact True.intro) | ((with_reducible refine step_t ?_ ?_); omega) | ((with_reducible refine step_f ?_ ?_); omega))
        rfl
      · cases e
        exact rw_up h2 b (k b + 1)
theorem s131a {d : Nat} {σ : HP} {b : Int} {L : LB} (hb : blr σ b L) (hy : Lay σ) (hw : wf0 L) {k : Nat → Nat} (hk : rwR σ 99 k) (hk2 : ∀ x, k x ≤ 255) : ∀ (m x a : Nat), x + m = lN0 L → a ≤ 255 * x → rsP PG0 MX d 131 4 [vR 97, vR b, vI a, vI x, vU, vU, vU, vU] [] σ = rsP PG0 MX d 131 4 [vR 97, vR b, vI ((a + sF k m x : Nat) : Int), vI (lN0 L : Nat), vU, vU, vU, vU] [] σ := by
  obtain ⟨⟨m1, m2, m3, m4, m5, m6, m7, m8, m9⟩, f3, f4, f5, f6, fs, fw⟩ := id hb
  have y1 := hy.1
  have a1 := y97_m1 hy
  have a3 := y97_1 hy
  have a6 := y99_m1 hy
  have a7 := y99_m2 hy
  have h9 := hw.1
  intro m
  induction m with
  | zero =>
    intro x a hx ha
    have e : x = lN0 L := by omega
    subst e
    rfl
  | succ m ih =>
    intro x a hx ha
    have g := hk x (by omega)
    have g2 := hk2 x
    have q := ih (x + 1) (a + k x) (by omega) (by omega)
    rw [show a + sF k (m + 1) x = a + k x + sF k m (x + 1) by show a + (k x + sF k m (x + 1)) = _; omega, ← q]
    rw [sg_131_4]
    (try simp (disch := omega) only [f3, a3, g, wr_id2])
    repeat (first | ((with_reducible refine step_t ?_ ?_); with_reducible exact True.intro) | ((with_reducible refine step_t ?_ ?_); omega) | ((with_reducible refine step_f ?_ ?_); omega))
    rfl
theorem s131b {d : Nat} (h : 6 ≤ d) {σ : HP} {b : Int} {L : LB} (hb : blr σ b L) (hy : Lay σ) (hw : wf0 L) {T k : Nat → Nat} (hT : rwR σ 98 T) (hT2 : ∀ x, T x ≤ 255) (hk : rwR σ 99 k) (hk2 : ∀ x, k x ≤ T x) : ∀ (m x p q : Nat) (u2 u6 u7 : MV), x + m = lN0 L → p ≤ 2000 → q ≤ 2000 → ∃ v2 v6 v7, rsP PG0 MX d 131 46 [vR 97, vR b, u2, vI p, vI q, vI x, u6, u7] [] σ = rsP PG0 MX d 131 46 [vR 97, vR b, v2, vI ((mxF (fun y => 4 * T y - 2 * k y) m x p : Nat) : Int), vI ((mnF (fun y => 4 * T y - 2 * k y) m x q : Nat) : Int), vI (lN0 L : Nat), v6, v7] [] σ := by
  obtain ⟨⟨m1, m2, m3, m4, m5, m6, m7, m8, m9⟩, f3, f4, f5, f6, fs, fw⟩ := id hb
  have y1 := hy.1
  have a1 := y97_m1 hy
  have a2 := y97_0 hy
  have a3 := y97_1 hy
  have a4 := y98_m1 hy
  have a5 := y98_m2 hy
  have a6 := y99_m1 hy
  have a7 := y99_m2 hy
  have h9 := hw.1
  intro m
  induction m with
  | zero =>
    intro x p q u2 u6 u7 hx hp hq
    have e : x = lN0 L := by omega
    subst e
    exact ⟨u2, u6, u7, rfl⟩
  | succ m ih =>
    intro x p q u2 u6 u7 hx hp hq
    have g1 := hT x (by omega)
    have g2 := hk x (by omega)
    have g3 := hT2 x
    have g4 := hk2 x
    obtain ⟨v2, v6, v7, e⟩ := ih (x + 1) (max p (4 * T x - 2 * k x)) (min q (4 * T x - 2 * k x)) vU (vI ((4 * T x - 2 * k x : Nat) : Int)) vU (by omega) (by omega) (by omega)
    refine ⟨v2, v6, v7, ?_⟩
    have em : (if wr (p : Int) < wr ((4 * T x - 2 * k x : Nat) : Int) then ((4 * T x - 2 * k x : Nat) : Int) else (p : Int)) = ((max p (4 * T x - 2 * k x) : Nat) : Int) := by
      rw [wr_id2 (by omega), wr_id2 (by omega)]
      by_cases z : (p : Int) < ((4 * T x - 2 * k x : Nat) : Int)
      · rw [if_pos z]; omega
      · rw [if_neg z]; omega
    have en : (if wr ((4 * T x - 2 * k x : Nat) : Int) < wr (q : Int) then ((4 * T x - 2 * k x : Nat) : Int) else (q : Int)) = ((min q (4 * T x - 2 * k x) : Nat) : Int) := by
      rw [wr_id2 (by omega), wr_id2 (by omega)]
      by_cases z : ((4 * T x - 2 * k x : Nat) : Int) < (q : Int)
      · rw [if_pos z]; omega
      · rw [if_neg z]; omega
    have eg : (4 : Int) * (T x : Nat) - 2 * (k x : Nat) = ((4 * T x - 2 * k x : Nat) : Int) := by omega
    have pm := p_max (d := d) (by omega) σ (p : Int) ((4 * T x - 2 * k x : Nat) : Int)
    have pn := p_min (d := d) (by omega) σ (q : Int) ((4 * T x - 2 * k x : Nat) : Int)
    rw [em] at pm
    rw [en] at pn
    rw [sg_131_46]
    (try simp (disch := omega) only [f3, a2, a3, g1, g2, eg, wr_id2])
    repeat (first | ((with_reducible refine step_t ?_ ?_); with_reducible exact True.intro) | ((with_reducible refine step_t ?_ ?_); omega) | ((with_reducible refine step_f ?_ ?_); omega))
    refine step_c (pm) ?_
    try dsimp only
    refine step_c (pn) ?_
    try dsimp only
    exact e
theorem s131c {d : Nat} (h : 8 ≤ d) {σ0 σ : HP} {b : Int} {L : LB} (hb0 : blr σ0 b L) (hb43 : b + 2 < 43) (hw : wf0 L) (h1 : 1 ≤ (lT L).length) (h16 : (lT L).length ≤ 16) {k : Nat → Nat} (hF : FS σ0 σ) (hT : rwR σ 98 (tlF L)) (hk : rwR σ 99 k) (hbx : bxF L k) (z0 : sF k (lN0 L) 0 % 2 = 0) {j u c : Nat} (e3 : σ 97 3 = u) (e4 : σ 97 4 = c) (hu : u ≤ 256) (hc : c < 32768) (hI : EvI L j u c) (hj : vlL L k = j) {X Y : Nat} (hXY : X - Y = unV L k) (hX : Y ≤ X) (hX2 : X ≤ 2000) (u2 u6 u7 : MV) : ∃ σ' u' c', rsP PG0 MX d 131 46 [vR 97, vR b, u2, vI X, vI Y, vI (lN0 L : Nat), u6, u7] [] σ = some (0, σ') ∧ FS σ0 σ' ∧ rwR σ' 98 (tlF L) ∧ rwR σ' 99 k ∧ σ' 97 3 = ((u' : Nat) : Int) ∧ σ' 97 4 = ((c' : Nat) : Int) ∧ u' ≤ 256 ∧ c' < 32768 ∧ EvI L (j + 1) u' c' := by
  have hy := hF.2
  have y1 := hy.1
  have a1 := y97_m1 hy
  have h9 := hw.1
  have hb := hF.blr hb0 (by omega) (by omega)
  obtain ⟨⟨m1, m2, m3, m4, m5, m6, m7, m8, m9⟩, f3, f4, f5, f6, fs, fw⟩ := id hb
  have h256 := unV_lt hw h16 hbx
  have hk255 : ∀ x, k x ≤ 255 := fun x => by have := hbx x; have := tl_le (L := L) (x := x) h16; omega
  by_cases z : u < unV L k
  · refine ⟨σ, u, c, ?_, hF, hT, hk, e3, e4, hu, hc, ev_gt hw h16 hI hbx hj z⟩
    rw [sg_131_46]
    (try simp (disch := omega) only [f3, e3, wr_id2])
    repeat (first | ((with_reducible refine step_t ?_ ?_); with_reducible exact True.intro) | ((with_reducible refine step_t ?_ ?_); omega) | ((with_reducible refine step_f ?_ ?_); omega))
    rfl
  · obtain ⟨σ1, k1, F1, k3⟩ := s132 (d := d) (by omega) hb0 hb43 hw h1 h16 hF hk hk255
    have hlt : fcL L k < 2 ^ ((lT L).length - 1) := fc_lt _ _ _
    have p15 := pow15 (n := (lT L).length - 1) (by omega)
    have hy1 := F1.2
    have b1 := hy1.1
    have b2 := y97_m1 hy1
    have e31 : σ1 97 3 = u := by rw [k3 _ _ (by omega)]; exact e3
    have e41 : σ1 97 4 = c := by rw [k3 _ _ (by omega)]; exact e4
    have hT1 : rwR σ1 98 (tlF L) := rw_sm hT (fun j => k3 _ _ (by omega))
    have hk1 : rwR σ1 99 k := rw_sm hk (fun j => k3 _ _ (by omega))
    have eX : (X : Int) - (Y : Int) = ((unV L k : Nat) : Int) := by omega
    by_cases zq : u = unV L k
    · have pm := p_minl (d := d) (by omega) σ1 ((c : Nat) : Int) ((fcL L k : Nat) : Int)
      have em : (if wl ((fcL L k : Nat) : Int) < wl ((c : Nat) : Int) then ((fcL L k : Nat) : Int) else ((c : Nat) : Int)) = (((if fcL L k < c then fcL L k else c) : Nat) : Int) := by
        rw [wl_n (by omega), wl_n (by omega)]
        by_cases q : fcL L k < c
        · rw [if_pos q, if_pos (by omega)]
        · rw [if_neg q, if_neg (by omega)]
      rw [em] at pm
      have hU1 : FS σ0 (up σ1 97 4 (((if fcL L k < c then fcL L k else c) : Nat) : Int)) := F1.upf (by omega) okf_974
      have hU2 : FS σ0 (up (up σ1 97 4 (((if fcL L k < c then fcL L k else c) : Nat) : Int)) 97 3 ((unV L k : Nat) : Int)) := hU1.upf (by omega) okf_973
      have hy2 := hU1.2
      have c1 := hy2.1
      have c2 := y97_m1 hy2
      refine ⟨_, unV L k, (if fcL L k < c then fcL L k else c), ?_, hU2, rw_ne (rw_ne hT1 (by omega)) (by omega), rw_ne (rw_ne hk1 (by omega)) (by omega), up_s _ _ _ _, by rw [up_n2 _ _ _ _ (by omega)]; exact up_s _ _ _ _, by omega, ?_, ev_eq hw h16 hI hbx hj z0 zq⟩
      · rw [sg_131_46]
        (try simp (disch := omega) only [f3, e3, eX, wr_id2])
        repeat (first | ((with_reducible refine step_t ?_ ?_); with_reducible exact True.intro) | ((with_reducible refine step_t ?_ ?_); omega) | ((with_reducible refine step_f ?_ ?_); omega))
        refine step_c (k1) ?_
        try dsimp only
        (try simp (disch := omega) only [e31, e41, eX, wr_id2])
        repeat (first | ((with_reducible refine step_t ?_ ?_); with_reducible exact True.intro) | ((with_reducible refine step_t ?_ ?_); omega) | ((with_reducible refine step_f ?_ ?_); omega))
        refine step_c (pm) ?_
        try dsimp only
        (try simp (disch := omega) only [eX, wr_id2])
        repeat (first | ((with_reducible refine step_t ?_ ?_); with_reducible exact True.intro) | ((with_reducible refine step_t ?_ ?_); omega) | ((with_reducible refine step_f ?_ ?_); omega))
        rfl
      · by_cases q : fcL L k < c
        · rw [if_pos q]; omega
        · rw [if_neg q]; omega
    · have hU1 : FS σ0 (up σ1 97 4 ((fcL L k : Nat) : Int)) := F1.upf (by omega) okf_974
      have hU2 : FS σ0 (up (up σ1 97 4 ((fcL L k : Nat) : Int)) 97 3 ((unV L k : Nat) : Int)) := hU1.upf (by omega) okf_973
      have hy2 := hU1.2
      have c1 := hy2.1
      have c2 := y97_m1 hy2
      refine ⟨_, unV L k, fcL L k, ?_, hU2, rw_ne (rw_ne hT1 (by omega)) (by omega), rw_ne (rw_ne hk1 (by omega)) (by omega), up_s _ _ _ _, by rw [up_n2 _ _ _ _ (by omega)]; exact up_s _ _ _ _, by omega, by omega, ev_lt hw hI hbx hj z0 (by omega)⟩
      rw [sg_131_46]
      (try simp (disch := omega) only [f3, e3, eX, wr_id2])
      repeat (first | ((with_reducible refine step_t ?_ ?_); with_reducible exact True.intro) | ((with_reducible refine step_t ?_ ?_); omega) | ((with_reducible refine step_f ?_ ?_); omega))
      refine step_c (k1) ?_
      try dsimp only
      (try simp (disch := omega) only [e31, e41, eX, wr_id2])
      repeat (first | ((with_reducible refine step_t ?_ ?_); with_reducible exact True.intro) | ((with_reducible refine step_t ?_ ?_); omega) | ((with_reducible refine step_f ?_ ?_); omega))
      rfl
theorem s131 {d : Nat} (h : 9 ≤ d) {σ0 σ : HP} {b : Int} {L : LB} (hb0 : blr σ0 b L) (hb43 : b + 2 < 43) (hw : wf0 L) (h1 : 1 ≤ (lT L).length) (h16 : (lT L).length ≤ 16) {k : Nat → Nat} (hF : FS σ0 σ) (hT : rwR σ 98 (tlF L)) (hk : rwR σ 99 k) (hbx : bxF L k) {j u c : Nat} (e3 : σ 97 3 = u) (e4 : σ 97 4 = c) (hu : u ≤ 256) (hc : c < 32768) (hI : EvI L j u c) (hj : vlL L k = j) : ∃ σ' u' c', clR PG0 MX d 131 [vR 97, vR b] σ = some (0, σ') ∧ FS σ0 σ' ∧ rwR σ' 98 (tlF L) ∧ rwR σ' 99 k ∧ σ' 97 3 = ((u' : Nat) : Int) ∧ σ' 97 4 = ((c' : Nat) : Int) ∧ u' ≤ 256 ∧ c' < 32768 ∧ EvI L (j + 1) u' c' := by
  obtain ⟨d, rfl⟩ := ob1 (show 1 ≤ d by omega)
  have hy := hF.2
  have h9 := hw.1
  have hb := hF.blr hb0 (by omega) (by omega)
  obtain ⟨⟨m1, m2, m3, m4, m5, m6, m7, m8, m9⟩, f3, f4, f5, f6, fs, fw⟩ := id hb
  have ht : ∀ x, tlF L x ≤ 15 := fun x => tl_le h16
  have hk255 : ∀ x, k x ≤ 255 := fun x => by have := hbx x; have := ht x; omega
  have hs := sF_le hbx (lN0 L) 0
  rw [tl_sum hw] at hs
  have q := s131a (d := d) hb hy hw hk hk255 (lN0 L) 0 0 (by omega) (by omega)
  rw [Nat.zero_add] at q
  have er := i_rem_n (a := sF k (lN0 L) 0) (b := 2) (by omega) (by omega) (by omega)
  have er : i_rem ((sF k (lN0 L) 0 : Nat) : Int) 2 = ((sF k (lN0 L) 0 % 2 : Nat) : Int) := er
  by_cases z0 : sF k (lN0 L) 0 % 2 = 0
  · obtain ⟨v2, v6, v7, e⟩ := s131b (d := d) (by omega) hb hy hw hT (fun x => by have := ht x; omega) hk hbx (lN0 L) 0 (sF k (lN0 L) 0 + 2) (sF k (lN0 L) 0 + 2) (vI ((sF k (lN0 L) 0 : Nat) : Int)) vU vU (by omega) (by omega) (by omega)
    have mX := mxF_le (f := fun y => 4 * tlF L y - 2 * k y) (B := 100) (lN0 L) 0 (sF k (lN0 L) 0 + 2) (by omega) (fun x _ _ => by have := ht x; omega)
    have mG := mxF_ge (fun y => 4 * tlF L y - 2 * k y) (lN0 L) 0 (sF k (lN0 L) 0 + 2)
    have mL := mnF_le (fun y => 4 * tlF L y - 2 * k y) (lN0 L) 0 (sF k (lN0 L) 0 + 2)
    obtain ⟨σ', u', c', w1, w2⟩ := s131c (d := d) (by omega) hb0 hb43 hw h1 h16 hF hT hk hbx z0 e3 e4 hu hc hI hj (X := mxF (fun y => 4 * tlF L y - 2 * k y) (lN0 L) 0 (sF k (lN0 L) 0 + 2)) (Y := mnF (fun y => 4 * tlF L y - 2 * k y) (lN0 L) 0 (sF k (lN0 L) 0 + 2)) rfl (by omega) (by omega) v2 v6 v7
    refine ⟨σ', u', c', ?_, w2⟩
    rw [ce_131, sg_131_0]
    refine Eq.trans q ?_
    rw [sg_131_4]
    (try simp (disch := omega) only [f3, er, wr_id2])
    repeat (first | ((with_reducible refine step_t ?_ ?_); with_reducible exact True.intro) | ((with_reducible refine step_t ?_ ?_); omega) | ((with_reducible refine step_f ?_ ?_); omega))
    exact e.trans w1
  · refine ⟨σ, u, c, ?_, hF, hT, hk, e3, e4, hu, hc, ev_odd hw hI hbx hj z0⟩
    rw [ce_131, sg_131_0]
    refine Eq.trans q ?_
    rw [sg_131_4]
    (try simp (disch := omega) only [f3, er, wr_id2])
    repeat (first | ((with_reducible refine step_t ?_ ?_); with_reducible exact True.intro) | ((with_reducible refine step_t ?_ ?_); omega) | ((with_reducible refine step_f ?_ ?_); omega))
    rfl
theorem s129l {d : Nat} (h : 10 ≤ d) {σ0 : HP} {b : Int} {L : LB} (hb0 : blr σ0 b L) (hb43 : b + 2 < 43) (hw : wf0 L) (h1 : 1 ≤ (lT L).length) (h16 : (lT L).length ≤ 16) : ∀ (m j u c : Nat) (k : Nat → Nat) (σ : HP), j + m + 1 = prF (tlF L) (lN0 L) 0 → FS σ0 σ → rwR σ 98 (tlF L) → rwR σ 99 k → bxF L k → σ 97 3 = (u : Nat) → σ 97 4 = (c : Nat) → u ≤ 256 → c < 32768 → EvI L j u c → vlL L k = j → ∃ σ', rsP PG0 MX d 129 21 [vR 97, vR b, vI 1, vI j] [] σ = some (0, σ') ∧ FS σ0 σ' ∧ σ' 97 3 = ((evR L).2 : Nat) ∧ σ' 97 4 = ((evR L).1 : Nat) := by
  have hP := pr_le (T := tlF L) (lN0 L) 0
  rw [tl_sum hw] at hP
  have p15 := pow15 (n := (lT L).length - 1) (by omega)
  have h9 := hw.1
  have ht : ∀ x, tlF L x ≤ 15 := fun x => tl_le h16
  intro m
  induction m with
  | zero =>
    intro j u c k σ hm hF hT hk hbx e3 e4 hu hc hI hj
    obtain ⟨σ1, u1, c1, k1, F1, T1, K1, e31, e41, hu1, hc1, I1⟩ := s131 (d := d) (by omega) hb0 hb43 hw h1 h16 hF hT hk hbx e3 e4 hu hc hI hj
    have hk255 : ∀ x, k x ≤ 255 := fun x => by have := hbx x; have := ht x; omega
    obtain ⟨d2, rfl⟩ := ob1 (show 1 ≤ d by omega)
    obtain ⟨σ2, j1, F2, j3, j4⟩ := s134l (d := d2) (σ0 := σ0) (T := tlF L) (N := lN0 L) (by omega) (fun x => by have := ht x; omega) (lN0 L) 0 k σ1 (by omega) hk255 F1 T1 K1
    have hn : nxF (tlF L) (lN0 L) 0 k = none := by
      cases q : nxF (tlF L) (lN0 L) 0 k with
      | none => rfl
      | some k' =>
        obtain ⟨w1, w2, -⟩ := nx_some (lN0 L) 0 k k' hbx q
        have w3 := vl_lt w1 (lN0 L) 0
        have hj : vlF (tlF L) k (lN0 L) 0 = j := hj
        omega
    rw [hn] at j1
    have en := ev_end hw h1 h16 (u := u1) (c := c1) (by rw [← hm, Nat.add_zero]; exact I1)
    have hb := hF.blr hb0 (by omega) (by omega)
    obtain ⟨⟨m1, m2, m3, m4, m5, m6, m7, m8, m9⟩, f3, f4, f5, f6, fs, fw⟩ := id hb
    have hy := hF.2
    have y1 := hy.1
    have a1 := y97_m1 hy
    have hb1 := F1.blr hb0 (by omega) (by omega)
    obtain ⟨⟨m1b, m2b, m3b, m4b, m5b, m6b, m7b, m8b, m9b⟩, f3b, f4b, f5b, f6b, fsb, fwb⟩ := id hb1
    have hy1 := F1.2
    have y11 := hy1.1
    have a11 := y97_m1 hy1
    have j1 : clR PG0 MX (d2 + 1) 134 [vR 97, vI (lN0 L : Nat)] σ1 = some (0, σ2) := by
      rw [ce_134, sg_134_0]
      exact j1
    refine ⟨σ2, ?_, F2, by rw [j3 _ _ (by omega), e31, en.1], by rw [j3 _ _ (by omega), e41, en.2]⟩
    rw [sg_129_21]
    (try simp (disch := omega) only [wr_id2])
    repeat (first | ((with_reducible refine step_t ?_ ?_); with_reducible exact True.intro) | ((with_reducible refine step_t ?_ ?_); omega) | ((with_reducible refine step_f ?_ ?_); omega))
    refine step_c (k1) ?_
    try dsimp only
    (try simp (disch := omega) only [f3b, wr_id2])
    repeat (first | ((with_reducible refine step_t ?_ ?_); with_reducible exact True.intro) | ((with_reducible refine step_t ?_ ?_); omega) | ((with_reducible refine step_f ?_ ?_); omega))
    refine step_c (j1) ?_
    try dsimp only
    rw [sg_129_21]
    (try simp (disch := omega) only [wr_id2])
    repeat (first | ((with_reducible refine step_t ?_ ?_); with_reducible exact True.intro) | ((with_reducible refine step_t ?_ ?_); omega) | ((with_reducible refine step_f ?_ ?_); omega))
    rfl
  | succ m ih =>
    intro j u c k σ hm hF hT hk hbx e3 e4 hu hc hI hj
    obtain ⟨σ1, u1, c1, k1, F1, T1, K1, e31, e41, hu1, hc1, I1⟩ := s131 (d := d) (by omega) hb0 hb43 hw h1 h16 hF hT hk hbx e3 e4 hu hc hI hj
    have hk255 : ∀ x, k x ≤ 255 := fun x => by have := hbx x; have := ht x; omega
    obtain ⟨d2, rfl⟩ := ob1 (show 1 ≤ d by omega)
    obtain ⟨σ2, j1, F2, j3, j4⟩ := s134l (d := d2) (σ0 := σ0) (T := tlF L) (N := lN0 L) (by omega) (fun x => by have := ht x; omega) (lN0 L) 0 k σ1 (by omega) hk255 F1 T1 K1
    have hb1 := F1.blr hb0 (by omega) (by omega)
    obtain ⟨⟨m1b, m2b, m3b, m4b, m5b, m6b, m7b, m8b, m9b⟩, f3b, f4b, f5b, f6b, fsb, fwb⟩ := id hb1
    have hy := hF.2
    have y1 := hy.1
    have a1 := y97_m1 hy
    have hy1 := F1.2
    have y11 := hy1.1
    have a11 := y97_m1 hy1
    cases q : nxF (tlF L) (lN0 L) 0 k with
    | none =>
      have w := nx_none (lN0 L) 0 k hbx q
      have hj : vlF (tlF L) k (lN0 L) 0 = j := hj
      omega
    | some k' =>
      obtain ⟨w1, w2, -⟩ := nx_some (lN0 L) 0 k k' hbx q
      have hj : vlF (tlF L) k (lN0 L) 0 = j := hj
      rw [q] at j1
      have j1 : clR PG0 MX (d2 + 1) 134 [vR 97, vI (lN0 L : Nat)] σ1 = some (1, σ2) := by
        rw [ce_134, sg_134_0]
        exact j1
      obtain ⟨σ', g1, g2⟩ := ih (j + 1) u1 c1 k' σ2 (by omega) F2 (rw_sm T1 (fun i => j3 _ _ (by omega))) (j4 k' q) w1 (by rw [j3 _ _ (by omega)]; exact e31) (by rw [j3 _ _ (by omega)]; exact e41) hu1 hc1 I1 (by show vlF (tlF L) k' (lN0 L) 0 = j + 1; omega)
      refine ⟨σ', ?_, g2⟩
      rw [sg_129_21]
      (try simp (disch := omega) only [wr_id2])
      repeat (first | ((with_reducible refine step_t ?_ ?_); with_reducible exact True.intro) | ((with_reducible refine step_t ?_ ?_); omega) | ((with_reducible refine step_f ?_ ?_); omega))
      refine step_c (k1) ?_
      try dsimp only
      (try simp (disch := omega) only [f3b, wr_id2])
      repeat (first | ((with_reducible refine step_t ?_ ?_); with_reducible exact True.intro) | ((with_reducible refine step_t ?_ ?_); omega) | ((with_reducible refine step_f ?_ ?_); omega))
      refine step_c (j1) ?_
      try dsimp only
      exact g1
theorem s129 {d : Nat} (h : 12 ≤ d) {σ : HP} {b : Int} {L : LB} (hy : Lay σ) (hb : blr σ b L) (hb43 : b + 2 < 43) (hw : wf0 L) (h1 : 1 ≤ (lT L).length) (h16 : (lT L).length ≤ 16) : ∃ σ', clR PG0 MX d 129 [vR 97, vR b] σ = some (0, σ') ∧ FS σ σ' ∧ σ' 97 3 = ((evR L).2 : Nat) ∧ σ' 97 4 = ((evR L).1 : Nat) := by
  obtain ⟨d, rfl⟩ := ob1 (show 1 ≤ d by omega)
  have y1 := hy.1
  have a1 := y97_m1 hy
  obtain ⟨σ1, k1, F1, T1, K1⟩ := s130 (d := d) (by omega) hy hb hb43 hw h1
  have hy1 := F1.2
  have y11 := hy1.1
  have a11 := y97_m1 hy1
  have hU1 : FS σ (up σ1 97 3 256) := F1.upf (by omega) okf_973
  have hU2 : FS σ (up (up σ1 97 3 256) 97 4 0) := hU1.upf (by omega) okf_974
  have hy2 := hU1.2
  have y12 := hy2.1
  have a12 := y97_m1 hy2
  have hz : vlL L (fun _ => 0) = 0 := by
    have g : ∀ m b, vlF (tlF L) (fun _ => 0) m b = 0 := by
      intro m
      induction m with
      | zero => intro b; rfl
      | succ m ih => intro b; show 0 + (tlF L b + 1) * vlF (tlF L) (fun _ => 0) m (b + 1) = 0; rw [ih, Nat.mul_zero]
    exact g _ _
  have hpos := vl_lt (T := tlF L) (k := fun _ => 0) (fun x => Nat.zero_le _) (lN0 L) 0
  obtain ⟨σ2, g1, g2⟩ := s129l (d := d) (by omega) hb hb43 hw h1 h16 (prF (tlF L) (lN0 L) 0 - 1) 0 256 0 (fun _ => 0) (up (up σ1 97 3 256) 97 4 0) (by omega) hU2 (rw_ne (rw_ne T1 (by omega)) (by omega)) (rw_ne (rw_ne K1 (by omega)) (by omega)) (fun x => Nat.zero_le _) (by rw [up_n2 _ _ _ _ (by omega)]; exact up_s _ _ _ _) (up_s _ _ _ _) (by omega) (by omega) ⟨fun v h1 h2 h3 => absurd h2 (Nat.not_lt_zero _), Or.inl ⟨rfl, rfl⟩⟩ hz
  refine ⟨σ2, ?_, g2⟩
  rw [ce_129, sg_129_0]
  repeat (first | ((with_reducible refine step_t ?_ ?_); with_reducible exact True.intro) | ((with_reducible refine step_t ?_ ?_); omega) | ((with_reducible refine step_f ?_ ?_); omega))
  refine step_c (k1) ?_
  try dsimp only
  repeat (first | ((with_reducible refine step_t ?_ ?_); with_reducible exact True.intro) | ((with_reducible refine step_t ?_ ?_); omega) | ((with_reducible refine step_f ?_ ?_); omega))
  exact g1
theorem c128 (S : AS) {s x : Int} (hs : i32 s) (hx : i32 x) : cOp 128 [vI s, vI x] S (qA S s (evQ x), S) := by
  intro d σ h hy ht hc
  obtain ⟨d, rfl⟩ := ob1 (show 1 ≤ d by omega)
  have y1 := hy.1
  have a1 := y32_m1 hy
  have a5 := y32_5 hy
  have b84 := y84_m1 hy
  have e41 := s41 (d := d) (by omega) hy hc hs
  unfold qA
  cases e : gl S s with
  | none =>
    rw [lbA_n e] at e41
    refine ⟨σ, ?_, FC.rf hy, hc⟩
    rw [ce_128, sg_128_0]
    repeat (first | ((with_reducible refine step_t ?_ ?_); with_reducible exact True.intro) | ((with_reducible refine step_t ?_ ?_); omega) | ((with_reducible refine step_f ?_ ?_); omega))
    refine step_c (e41) ?_
    try dsimp only
    repeat (first | ((with_reducible refine step_t ?_ ?_); with_reducible exact True.intro) | ((with_reducible refine step_t ?_ ?_); omega) | ((with_reducible refine step_f ?_ ?_); omega))
    rfl
  | some L =>
    rw [lbA_s e] at e41
    obtain ⟨g1, g2, g3, g4, g5⟩ := hc.got e
    have hw := g4.1
    obtain ⟨⟨m1, m2, m3, m4, m5, m6, m7, m8, m9⟩, f3, f4, f5, f6, fs, fw⟩ := id g3
    have hl := wf_len hw
    have h9 := hw.1
    have hsh := shN_le L
    dsimp only
    have e82 := s82 (d := d) (by omega) σ hx
    have x1 := hx.1
    have x2 := hx.2
    have wx := hx.wr
    obtain ⟨σ1, k1, F1⟩ := s120 (d := d) (by omega) hy g3 hw (by omega)
    have a8 := y32_8 hy
    unfold evQ
    by_cases z : 0 ≤ x ∧ x ≤ 1
    · rw [decide_eq_true z] at e82
      rw [if_pos z]
      by_cases z16 : (lT L).length ≤ 16
      · rw [if_pos z16]
        cases zw : wlB L with
        | false =>
          rw [zw] at k1
          rw [if_neg (by decide)]
          refine ⟨σ1, ?_, F1.fc, F1.cr hc⟩
          rw [ce_128, sg_128_0]
          repeat (first | ((with_reducible refine step_t ?_ ?_); with_reducible exact True.intro) | ((with_reducible refine step_t ?_ ?_); omega) | ((with_reducible refine step_f ?_ ?_); omega))
          refine step_c (e41) ?_
          try dsimp only
          repeat (first | ((with_reducible refine step_t ?_ ?_); with_reducible exact True.intro) | ((with_reducible refine step_t ?_ ?_); omega) | ((with_reducible refine step_f ?_ ?_); omega))
          refine step_c (e82) ?_
          try dsimp only
          rw [wr_b2i]
          refine step_t (show b2i true ≠ 0 by decide) ?_
          (try simp (disch := omega) only [f6, wr_id2])
          repeat (first | ((with_reducible refine step_t ?_ ?_); with_reducible exact True.intro) | ((with_reducible refine step_t ?_ ?_); omega) | ((with_reducible refine step_f ?_ ?_); omega))
          refine step_c (k1) ?_
          try dsimp only
          rw [wr_b2i]
          refine step_f (show ¬ (b2i false ≠ 0) by decide) ?_
          rfl
        | true =>
          rw [zw] at k1
          rw [if_pos rfl]
          obtain ⟨w1, w2⟩ := wl_len hw zw
          have hb1 := F1.blr g3 (by omega) (by omega)
          obtain ⟨σ2, j1, F2, j3, j4⟩ := s129 (d := d) (by omega) F1.2 hb1 (by omega) hw w1 z16
          have ok := evR_ok hw w1 z16
          have p15 := pow15 (n := (lT L).length - 1) (by omega)
          have b1 : (evR L).1 < 32768 := by have := ok.1.1; omega
          have b2 : (evR L).2 < 256 := by
            rw [← ok.1.2.2, unC_v hw w1 (by omega)]
            exact unV_lt hw z16 (fun y => kc_le y _ _ _ (by omega))
          have hy1 := F1.2
          have y11 := hy1.1
          have a11 := y32_m1 hy1
          have a18 := y32_8 hy1
          have a97 := y97_m1 hy1
          have hy2 := F2.2
          have y12 := hy2.1
          have a12 := y32_m1 hy2
          have a28 := y32_8 hy2
          have a297 := y97_m1 hy2
          have F3 := F1.tr F2
          refine ⟨σ2, ?_, F3.fc, F3.cr hc⟩
          rw [ce_128, sg_128_0]
          repeat (first | ((with_reducible refine step_t ?_ ?_); with_reducible exact True.intro) | ((with_reducible refine step_t ?_ ?_); omega) | ((with_reducible refine step_f ?_ ?_); omega))
          refine step_c (e41) ?_
          try dsimp only
          repeat (first | ((with_reducible refine step_t ?_ ?_); with_reducible exact True.intro) | ((with_reducible refine step_t ?_ ?_); omega) | ((with_reducible refine step_f ?_ ?_); omega))
          refine step_c (e82) ?_
          try dsimp only
          rw [wr_b2i]
          refine step_t (show b2i true ≠ 0 by decide) ?_
          (try simp (disch := omega) only [f6, wr_id2])
          repeat (first | ((with_reducible refine step_t ?_ ?_); with_reducible exact True.intro) | ((with_reducible refine step_t ?_ ?_); omega) | ((with_reducible refine step_f ?_ ?_); omega))
          refine step_c (k1) ?_
          try dsimp only
          rw [wr_b2i]
          refine step_t (show b2i true ≠ 0 by decide) ?_
          (try simp (disch := omega) only [a18, wr_id2])
          repeat (first | ((with_reducible refine step_t ?_ ?_); with_reducible exact True.intro) | ((with_reducible refine step_t ?_ ?_); omega) | ((with_reducible refine step_f ?_ ?_); omega))
          refine step_c (j1) ?_
          try dsimp only
          rw [sg_128_54]
          by_cases zx : x = 0
          · rw [if_pos zx]
            (try simp (disch := omega) only [a28, j3, wr_id2])
            repeat (first | ((with_reducible refine step_t ?_ ?_); with_reducible exact True.intro) | ((with_reducible refine step_t ?_ ?_); omega) | ((with_reducible refine step_f ?_ ?_); omega))
            rfl
          · rw [if_neg zx]
            (try simp (disch := omega) only [a28, j4, wr_id2])
            repeat (first | ((with_reducible refine step_t ?_ ?_); with_reducible exact True.intro) | ((with_reducible refine step_t ?_ ?_); omega) | ((with_reducible refine step_f ?_ ?_); omega))
            rfl
      · rw [if_neg z16]
        refine ⟨σ, ?_, FC.rf hy, hc⟩
        rw [ce_128, sg_128_0]
        repeat (first | ((with_reducible refine step_t ?_ ?_); with_reducible exact True.intro) | ((with_reducible refine step_t ?_ ?_); omega) | ((with_reducible refine step_f ?_ ?_); omega))
        refine step_c (e41) ?_
        try dsimp only
        repeat (first | ((with_reducible refine step_t ?_ ?_); with_reducible exact True.intro) | ((with_reducible refine step_t ?_ ?_); omega) | ((with_reducible refine step_f ?_ ?_); omega))
        refine step_c (e82) ?_
        try dsimp only
        rw [wr_b2i]
        refine step_t (show b2i true ≠ 0 by decide) ?_
        (try simp (disch := omega) only [f6, wr_id2])
        repeat (first | ((with_reducible refine step_t ?_ ?_); with_reducible exact True.intro) | ((with_reducible refine step_t ?_ ?_); omega) | ((with_reducible refine step_f ?_ ?_); omega))
        rfl
    · rw [decide_eq_false z] at e82
      rw [if_neg z]
      refine ⟨σ, ?_, FC.rf hy, hc⟩
      rw [ce_128, sg_128_0]
      repeat (first | ((with_reducible refine step_t ?_ ?_); with_reducible exact True.intro) | ((with_reducible refine step_t ?_ ?_); omega) | ((with_reducible refine step_f ?_ ?_); omega))
      refine step_c (e41) ?_
      try dsimp only
      repeat (first | ((with_reducible refine step_t ?_ ?_); with_reducible exact True.intro) | ((with_reducible refine step_t ?_ ?_); omega) | ((with_reducible refine step_f ?_ ?_); omega))
      refine step_c (e82) ?_
      try dsimp only
      rw [wr_b2i]
      refine step_f (show ¬ (b2i false ≠ 0) by decide) ?_
      rfl
