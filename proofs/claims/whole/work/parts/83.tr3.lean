/-! TRACKS: the class -/
def trM (f : Nat → Nat) (n : Nat) : List Nat := (List.range n).map f
theorem trM_s (f : Nat → Nat) (n : Nat) : trM f (n + 1) = trM f n ++ [f n] := by
  unfold trM
  rw [List.range_succ, List.map_append]
  rfl
theorem trM_len (f : Nat → Nat) (n : Nat) : (trM f n).length = n := by unfold trM; rw [List.length_map, List.length_range]
theorem trM_at {f : Nat → Nat} {n i : Nat} (h : i < n) : (trM f n)[i]? = some (f i) := by
  unfold trM
  rw [List.getElem?_map, List.getElem?_range h]
  rfl
def trF (N p r : Nat) (l : List Nat) (j : Nat) : Nat := (l[j % p]?.getD 0 + j / p * r) % N
theorem trF_lt {N p r : Nat} {l : List Nat} (hN : 1 ≤ N) (j : Nat) : trF N p r l j < N := Nat.mod_lt _ hN
theorem trM_0 {N p r : Nat} {l : List Nat} (hl : l.length = p) (hb : ∀ x ∈ l, x < N) : trM (trF N p r l) p = l := by
  apply List.ext_getElem?
  intro i
  by_cases z : i < p
  · have hi : i < l.length := by omega
    rw [trM_at z]
    unfold trF
    rw [Nat.mod_eq_of_lt z, Nat.div_eq_of_lt z, List.getElem?_eq_getElem hi]
    have := hb _ (List.getElem_mem hi)
    show some ((l[i] + 0 * r) % N) = some l[i]
    rw [Nat.zero_mul, Nat.add_zero, Nat.mod_eq_of_lt this]
  · rw [List.getElem?_eq_none (by rw [trM_len]; omega), List.getElem?_eq_none (by omega)]
theorem trF_c {N p r : Nat} {l : List Nat} {c i : Nat} (hi : i < p) : trF N p r l (c * p + i) = (trF N p r l i + c * r % N) % N := by
  unfold trF
  have e1 : (c * p + i) % p = i := by rw [Nat.add_comm, Nat.add_mul_mod_self_right, Nat.mod_eq_of_lt hi]
  have e2 : (c * p + i) / p = c := by
    rw [Nat.add_comm, Nat.add_mul_div_right _ _ (by omega), Nat.div_eq_of_lt hi, Nat.zero_add]
  rw [e1, e2, Nat.mod_eq_of_lt hi, Nat.div_eq_of_lt hi, Nat.zero_mul, Nat.add_zero, ← Nat.add_mod]
theorem s142i {d : Nat} (h : 3 ≤ d) {σ0 : HP} {L : LB} {f : Nat → Nat} {p c x3 : Nat} {r : Int} (hf : ∀ j, f j < lN0 L) (hc : ∀ i, i < p → f (c * p + i) = (f i + x3) % lN0 L) (hx3 : x3 < lN0 L) (hcp : c * p + p ≤ 256) (h1 : 1 ≤ c) : ∀ (m i : Nat) (σ : HP) (u : MV), i + m = p → DW σ0 σ (pth L (trM f (c * p + i))) → ∃ σ', rsP PG0 MX d 142 42 [vR 43, vI p, vI r, vI x3, vI c, vI i, u] [] σ = rsP PG0 MX d 142 5 [vR 43, vI p, vI r, vI x3, vI ((c : Int) + 1), vU, vU] [] σ' ∧ DW σ0 σ' (pth L (trM f (c * p + p))) := by
  intro m
  induction m with
  | zero =>
    intro i σ u hi hD
    have ei : i = p := by omega
    subst ei
    refine ⟨σ, ?_, hD⟩
    rw [sg_142_42]
    (try simp (disch := omega) only [wr_id2])
    repeat (first | ((with_reducible refine step_t ?_ ?_); with_reducible exact True.intro) | ((with_reducible refine step_t ?_ ?_); omega) | ((with_reducible refine step_f ?_ ?_); omega))
    rfl
  | succ m ih =>
    intro i σ u hi hD
    have hb := hD.bl
    have hw := hD.wf
    have h9 : lN0 L ≤ 8 := hw.1
    obtain ⟨⟨m1, m2, m3, m4, m5, m6, m7, m8, m9⟩, f3, f4, f5, f6, fs, fw⟩ := id hb
    have hle : c * p + i < 256 := by omega
    have hp1 : p ≤ c * p := by
      have := Nat.mul_le_mul_right p h1
      omega
    have g6 : σ 43 6 = ((c * p + i : Nat) : Int) := by
      have := f6
      rw [show (lT (pth L (trM f (c * p + i)))).length = c * p + i from trM_len _ _] at this
      exact this
    have g3 : σ 43 3 = (lN0 L : Nat) := f3
    have gs : σ 44 (i : Int) = (f i : Nat) := fs i (f i) (trM_at (by omega))
    have k0 : σ 43 0 = 44 := m4
    have k6 : σ 44 (-1) = 20 := m6
    have k7 : σ 44 (-2) = 256 := m7
    clear f3 f6 fs fw m4 m6 m7
    have hfi := hf i
    have hfx := hf (c * p + i)
    have ec := hc i (by omega)
    obtain ⟨σ1, j1, D1⟩ := dw_push (d := d) (by omega) hD (x := f (c * p + i)) hfx (by show (trM f (c * p + i)).length < 256; rw [trM_len]; exact hle)
    have D1 : DW σ0 σ1 (pth L (trM f (c * p + i) ++ [f (c * p + i)])) := D1
    rw [← trM_s] at D1
    obtain ⟨σ2, q1, q2⟩ := ih (i + 1) σ1 (vI ((f i : Int) + x3)) (by omega) D1
    refine ⟨σ2, ?_, q2⟩
    rw [sg_142_42]
    (try simp (disch := omega) only [g6, k0, gs, g3, wr_id2])
    by_cases z : f i + x3 < lN0 L
    · rw [Nat.mod_eq_of_lt z] at ec
      rw [ec] at j1
      repeat (first | ((with_reducible refine step_t ?_ ?_); with_reducible exact True.intro) | ((with_reducible refine step_t ?_ ?_); omega) | ((with_reducible refine step_f ?_ ?_); omega))
      rw [sg_142_90]
      repeat (first | ((with_reducible refine step_t ?_ ?_); with_reducible exact True.intro) | ((with_reducible refine step_t ?_ ?_); omega) | ((with_reducible refine step_f ?_ ?_); omega))
      refine step_c (j1) ?_
      try dsimp only
      exact q1
    · rw [Nat.mod_eq_sub_mod (by omega), Nat.mod_eq_of_lt (by omega)] at ec
      rw [ec, show ((f i + x3 - lN0 L : Nat) : Int) = (f i : Int) + x3 - (lN0 L : Nat) by omega] at j1
      repeat (first | ((with_reducible refine step_t ?_ ?_); with_reducible exact True.intro) | ((with_reducible refine step_t ?_ ?_); omega) | ((with_reducible refine step_f ?_ ?_); omega))
      rw [sg_142_90]
      repeat (first | ((with_reducible refine step_t ?_ ?_); with_reducible exact True.intro) | ((with_reducible refine step_t ?_ ?_); omega) | ((with_reducible refine step_f ?_ ?_); omega))
      refine step_c (j1) ?_
      try dsimp only
      exact q1
theorem s142l {d : Nat} (h : 3 ≤ d) {σ0 : HP} {L : LB} {l : List Nat} {p r : Nat} (hr : r < lN0 L) (hNp : lN0 L * p ≤ 256) : ∀ (m c : Nat) (σ : HP) (u5 u6 : MV), c + m = lN0 L → 1 ≤ c → DW σ0 σ (pth L (trM (trF (lN0 L) p r l) (c * p))) → ∃ σ', rsP PG0 MX d 142 5 [vR 43, vI p, vI r, vI (((c - 1) * r % lN0 L : Nat) : Int), vI c, u5, u6] [] σ = some (0, σ') ∧ DW σ0 σ' (pth L (trM (trF (lN0 L) p r l) (lN0 L * p))) := by
  intro m
  induction m with
  | zero =>
    intro c σ u5 u6 hc h1 hD
    have ec : c = lN0 L := by omega
    subst ec
    have hb := hD.bl
    have h9 : lN0 L ≤ 8 := hD.wf.1
    obtain ⟨⟨m1, m2, m3, m4, m5, m6, m7, m8, m9⟩, f3, f4, f5, f6, fs, fw⟩ := id hb
    have g3 : σ 43 3 = (lN0 L : Nat) := f3
    refine ⟨σ, ?_, hD⟩
    rw [sg_142_5]
    (try simp (disch := omega) only [g3, wr_id2])
    repeat (first | ((with_reducible refine step_t ?_ ?_); with_reducible exact True.intro) | ((with_reducible refine step_t ?_ ?_); omega) | ((with_reducible refine step_f ?_ ?_); omega))
    rfl
  | succ m ih =>
    intro c σ u5 u6 hc h1 hD
    have hb := hD.bl
    have h9 : lN0 L ≤ 8 := hD.wf.1
    obtain ⟨⟨m1, m2, m3, m4, m5, m6, m7, m8, m9⟩, f3, f4, f5, f6, fs, fw⟩ := id hb
    have g3 : σ 43 3 = (lN0 L : Nat) := f3
    clear f3
    have hcp : c * p + p ≤ 256 := by
      have := Nat.mul_le_mul_right p (show c + 1 ≤ lN0 L by omega)
      rw [Nat.succ_mul] at this
      omega
    have hx3 : c * r % lN0 L < lN0 L := Nat.mod_lt _ (by omega)
    have hx0 : (c - 1) * r % lN0 L < lN0 L := Nat.mod_lt _ (by omega)
    have ex : c * r % lN0 L = ((c - 1) * r % lN0 L + r) % lN0 L := by
      rw [Nat.mod_add_mod]
      have : c * r = (c - 1) * r + r := by
        obtain ⟨c', rfl⟩ : ∃ c', c = c' + 1 := ⟨c - 1, by omega⟩
        rw [Nat.add_sub_cancel, Nat.succ_mul]
      rw [this]
    obtain ⟨σ1, j1, D1⟩ := s142i (d := d) h (σ0 := σ0) (L := L) (f := trF (lN0 L) p r l) (p := p) (c := c) (x3 := c * r % lN0 L) (r := r) (fun j => trF_lt (by omega) j) (fun i hi => trF_c hi) hx3 hcp h1 p 0 σ vU (by omega) hD
    rw [← Nat.succ_mul] at D1
    obtain ⟨σ2, q1, q2⟩ := ih (c + 1) σ1 vU vU (by omega) (by omega) D1
    rw [Nat.add_sub_cancel] at q1
    refine ⟨σ2, ?_, q2⟩
    have q := j1.trans q1
    rw [sg_142_5]
    (try simp (disch := omega) only [g3, wr_id2])
    by_cases z : (c - 1) * r % lN0 L + r < lN0 L
    · rw [Nat.mod_eq_of_lt z] at ex
      rw [ex] at q
      repeat (first | ((with_reducible refine step_t ?_ ?_); with_reducible exact True.intro) | ((with_reducible refine step_t ?_ ?_); omega) | ((with_reducible refine step_f ?_ ?_); omega))
      exact q
    · have ex2 : ((c - 1) * r % lN0 L + r) % lN0 L = (c - 1) * r % lN0 L + r - lN0 L := by
        rw [Nat.mod_eq_sub_mod (by omega)]
        exact Nat.mod_eq_of_lt (by omega)
      rw [ex2] at ex
      rw [ex, show (((c - 1) * r % lN0 L + r - lN0 L : Nat) : Int) = (((c - 1) * r % lN0 L : Nat) : Int) + r - (lN0 L : Nat) by omega] at q
      repeat (first | ((with_reducible refine step_t ?_ ?_); with_reducible exact True.intro) | ((with_reducible refine step_t ?_ ?_); omega) | ((with_reducible refine step_f ?_ ?_); omega))
      exact q
theorem s142 {d : Nat} (h : 4 ≤ d) {σ0 σ : HP} {L : LB} {l : List Nat} {p r : Nat} (hr : r < lN0 L) (hNp : lN0 L * p ≤ 256) (hl : l.length = p) (hD : DW σ0 σ (pth L l)) : ∃ σ', clR PG0 MX d 142 [vR 43, vI p, vI r] σ = some (0, σ') ∧ DW σ0 σ' (pth L (trM (trF (lN0 L) p r l) (lN0 L * p))) := by
  obtain ⟨d, rfl⟩ := ob1 (show 1 ≤ d by omega)
  have e := trM_0 (r := r) hl hD.wf.2.2.2.2.2
  have e : trM (trF (lN0 L) p r l) p = l := e
  obtain ⟨σ', k1, k2⟩ := s142l (d := d) (by omega) (σ0 := σ0) (L := L) (l := l) (p := p) hr hNp (lN0 L - 1) 1 σ vU vU (by omega) (Nat.le_refl _) (by rw [Nat.one_mul, e]; exact hD)
  refine ⟨σ', ?_, k2⟩
  rw [Nat.sub_self, Nat.zero_mul, Nat.zero_mod] at k1
  rw [ce_142, sg_142_0]
  exact k1
/-- haveCommonDivisor -/
def cmF (r N : Nat) : Nat → Nat → Bool
  | 0, _ => false
  | m + 1, k => if r % k = 0 ∧ N % k = 0 then true else cmF r N m (k + 1)
theorem s136l {d : Nat} (σ : HP) {r N : Nat} (hr : r < 256) (hN : N < 256) : ∀ (m k : Nat), k + m = 9 → 1 ≤ k → rsP PG0 MX d 136 2 [vI r, vI N, vI k] [] σ = some (b2i (cmF r N m k), σ) := by
  intro m
  induction m with
  | zero =>
    intro k hk h1
    rw [sg_136_2]
    (try simp (disch := omega) only [wr_id2])
    repeat (first | ((with_reducible refine step_t ?_ ?_); with_reducible exact True.intro) | ((with_reducible refine step_t ?_ ?_); omega) | ((with_reducible refine step_f ?_ ?_); omega))
    rfl
  | succ m ih =>
    intro k hk h1
    have e1 := i_rem_n (a := r) (b := k) (by omega) (by omega) (by omega)
    have e2 := i_rem_n (a := N) (b := k) (by omega) (by omega) (by omega)
    have m1 := Nat.mod_lt r (show 0 < k by omega)
    have m2 := Nat.mod_lt N (show 0 < k by omega)
    show _ = some (b2i (if r % k = 0 ∧ N % k = 0 then true else cmF r N m (k + 1)), σ)
    have ih := ih (k + 1) (by omega) (by omega)
    rw [sg_136_2, e1, e2]
    (try simp (disch := omega) only [wr_id2])
    by_cases z1 : r % k = 0
    · by_cases z2 : N % k = 0
      · rw [if_pos ⟨z1, z2⟩]
        repeat (first | ((with_reducible refine step_t ?_ ?_); with_reducible exact True.intro) | ((with_reducible refine step_t ?_ ?_); omega) | ((with_reducible refine step_f ?_ ?_); omega))
        rfl
      · rw [if_neg (fun q => z2 q.2)]
        repeat (first | ((with_reducible refine step_t ?_ ?_); with_reducible exact True.intro) | ((with_reducible refine step_t ?_ ?_); omega) | ((with_reducible refine step_f ?_ ?_); omega))
        exact ih
    · rw [if_neg (fun q => z1 q.1)]
      repeat (first | ((with_reducible refine step_t ?_ ?_); with_reducible exact True.intro) | ((with_reducible refine step_t ?_ ?_); omega) | ((with_reducible refine step_f ?_ ?_); omega))
      exact ih
theorem s136 {d : Nat} (h : 1 ≤ d) (σ : HP) {r N : Nat} (hr : r < 256) (hN : N < 256) : clR PG0 MX d 136 [vI r, vI N] σ = some (b2i (cmF r N 7 2), σ) := by
  obtain ⟨d, rfl⟩ := ob1 (show 1 ≤ d by omega)
  rw [ce_136, sg_136_0]
  exact s136l (d := d) σ hr hN 7 2 (by omega) (by omega)
def trkL (L : LB) (p r T : Nat) : Int × Option LB := if rnd (lN0 L) (lS L) = true then (-1, none) else if (sch (frT L (rl (lN0 L) (lS L) r) p) some (lN0 L) T p [] 0).1 = 1 then ((lN0 L * p : Nat), some (pth L (trM (trF (lN0 L) p r (sch (frT L (rl (lN0 L) (lS L) r) p) some (lN0 L) T p [] 0).2.1) (lN0 L * p)))) else if (sch (frT L (rl (lN0 L) (lS L) r) p) some (lN0 L) T p [] 0).1 = 0 then (-1, none) else (-3, none)
def trkQ (p r T : Int) (L : LB) : Int × Option LB := if (2 ≤ lN0 L ∧ 1 ≤ p ∧ (1 ≤ T ∧ T ≤ 50000) ∧ 1 ≤ r ∧ r < lN0 L) ∧ cmF r.toNat (lN0 L) 7 2 = false then (if (lN0 L : Int) * p ≤ 256 then trkL L p.toNat r.toNat T.toNat else (-5, none)) else (-2, none)
theorem s140g {d : Nat} (h : 1 ≤ d) {σ0 : HP} {N w : Nat} (hN : N ≤ 8) (hw : w < 2 ^ N) : ∀ (m i : Nat) (σ : HP) (br : Nat → Bool), i + m = N → FS σ0 σ → (∀ u : Nat, u < 2 ^ N → σ 91 u = b2i (br u)) → ∃ (σ' : HP) (br' : Nat → Bool), rsP PG0 MX d 140 3 [vR 90, vI w, vI N, vI 1, vI i] [] σ = some (0, σ') ∧ FS σ0 σ' ∧ (∀ a j, a ≠ 91 → σ' a j = σ a j) ∧ (∀ u : Nat, u < 2 ^ N → σ' 91 u = b2i (br' u)) ∧ (∀ u c, i ≤ c → c < N → rl N w c = u → br' u = true) ∧ ∀ u, (∀ c, i ≤ c → c < N → rl N w c ≠ u) → br' u = br u := by
  have hp8 := pow8 hN
  intro m
  induction m with
  | zero =>
    intro i σ br hi hF hr
    refine ⟨σ, br, ?_, hF, fun _ _ _ => rfl, hr, fun u c c1 c2 => by omega, fun _ _ => rfl⟩
    rw [sg_140_3]
    (try simp (disch := omega) only [wr_id2])
    repeat (first | ((with_reducible refine step_t ?_ ?_); with_reducible exact True.intro) | ((with_reducible refine step_t ?_ ?_); omega) | ((with_reducible refine step_f ?_ ?_); omega))
    rfl
  | succ m ih =>
    intro i σ br hi hF hr
    have hy := hF.2
    have y1 := hy.1
    have a1 := y90_m1 hy
    have a2 := y90_0 hy
    have b1 := y91_m1 hy
    have b2 := y91_m2 hy
    have hlt := rl_lt N w i
    obtain ⟨σ', br', k1, k2, k0, kr, k3, k4⟩ := ih (i + 1) (up σ 91 (rl N w i : Nat) 1) (fun u => if u = rl N w i then true else br u) (by omega) (hF.upd (by decide) (by decide +kernel) (by omega)) (fun u hu => by
      by_cases z : u = rl N w i
      · rw [if_pos z, z, up_s]; rfl
      · rw [if_neg z, up_n2 _ _ _ _ (by omega)]; exact hr u hu)
    refine ⟨σ', br', ?_, k2, fun a j ha => by rw [k0 a j ha, up_n1 _ _ _ _ ha], kr, fun u c c1 c2 c3 => ?_, fun u hu => ?_⟩
    · rw [sg_140_3]
      (try simp (disch := omega) only [wr_id2])
      repeat (first | ((with_reducible refine step_t ?_ ?_); with_reducible exact True.intro) | ((with_reducible refine step_t ?_ ?_); omega) | ((with_reducible refine step_f ?_ ?_); omega))
      refine step_c (s139 (by omega) σ hN hw (by omega)) ?_
      try dsimp only
      (try simp (disch := omega) only [a2, wr_id2])
      repeat (first | ((with_reducible refine step_t ?_ ?_); with_reducible exact True.intro) | ((with_reducible refine step_t ?_ ?_); omega) | ((with_reducible refine step_f ?_ ?_); omega))
      exact k1
    · by_cases z : ∃ c, i + 1 ≤ c ∧ c < N ∧ rl N w c = u
      · obtain ⟨c', e1, e2, e3⟩ := z
        exact k3 u c' e1 e2 e3
      · rw [k4 u (fun c' e1 e2 e3 => z ⟨c', e1, e2, e3⟩)]
        have : c = i := by
          by_cases zc : c = i
          · exact zc
          · exact absurd ⟨c, by omega, c2, c3⟩ z
        exact if_pos (by rw [← c3, this])
    · rw [k4 u (fun c' e1 e2 => hu c' (by omega) e2)]
      exact if_neg (fun q => hu i (Nat.le_refl _) (by omega) q.symm)
theorem s137 {d : Nat} (h : 30 ≤ d) {σ : HP} {b : Int} {L : LB} (hy : Lay σ) (hb : blr σ b L) (hw : wf0 L) (hb43 : b + 2 < 43) (h1 : 1 ≤ lN0 L) {p r T : Nat} (hp : 1 ≤ p) (hp2 : p ≤ 256) (hr : r ≤ lN0 L) (hT : T ≤ 50000) : ∃ σ' v, clR PG0 MX d 137 [vR 90, vR b, vI p, vI r, vI T, vR 43] σ = some (v, σ') ∧ FS σ σ' ∧ ((rnd (lN0 L) (lS L) = true ∧ v = -1) ∨ (rnd (lN0 L) (lS L) = false ∧ (((sch (frT L (rl (lN0 L) (lS L) r) p) some (lN0 L) T p [] 0).1 = 1 ∧ v = p ∧ DW σ σ' (pth L (sch (frT L (rl (lN0 L) (lS L) r) p) some (lN0 L) T p [] 0).2.1) ∧ (sch (frT L (rl (lN0 L) (lS L) r) p) some (lN0 L) T p [] 0).2.1.length = p) ∨ ((sch (frT L (rl (lN0 L) (lS L) r) p) some (lN0 L) T p [] 0).1 = 0 ∧ v = -1) ∨ ((sch (frT L (rl (lN0 L) (lS L) r) p) some (lN0 L) T p [] 0).1 = -3 ∧ v = -3)))) := by
  obtain ⟨d, rfl⟩ := ob1 (show 1 ≤ d by omega)
  have h9 := hw.1
  have hp8 := pow8 hw.1
  have q2 : lS L < 2 ^ lN0 L := hw.2.2.2.1
  obtain ⟨⟨m1, m2, m3, m4, m5, m6, m7, m8, m9⟩, f3, f4, f5, f6, fs, fw⟩ := id hb
  have y1 := hy.1
  have a1 := y90_m1 hy
  have e0 : σ (b + 2) 0 = (lS L : Nat) := by
    have := fw 0 (Nat.zero_le _)
    rw [wd_0] at this
    exact this
  obtain ⟨σ1, k1, F1, r1⟩ := s138 (d := d) (by omega) hy h1 h9
  have hy1 := F1.2
  have y11 := hy1.1
  have a11 := y90_m1 hy1
  have a21 := y90_0 hy1
  have b11 := y91_m1 hy1
  have b21 := y91_m2 hy1
  have e91 := r1 (lS L) q2
  obtain ⟨z5, z6, z7, -⟩ := yb_43 hy1
  cases z : rnd (lN0 L) (lS L) with
  | true =>
    rw [z] at e91
    have e91 : σ1 91 (lS L : Nat) = 1 := e91
    refine ⟨σ1, -1, ?_, F1, Or.inl ⟨rfl, rfl⟩⟩
    rw [ce_137, sg_137_0]
    (try simp (disch := omega) only [m5, e0, f3, wr_id2])
    repeat (first | ((with_reducible refine step_t ?_ ?_); with_reducible exact True.intro) | ((with_reducible refine step_t ?_ ?_); omega) | ((with_reducible refine step_f ?_ ?_); omega))
    refine step_c (k1) ?_
    try dsimp only
    (try simp (disch := omega) only [a21, e91, wr_id2])
    repeat (first | ((with_reducible refine step_t ?_ ?_); with_reducible exact True.intro) | ((with_reducible refine step_t ?_ ?_); omega) | ((with_reducible refine step_f ?_ ?_); omega))
    rfl
  | false =>
    rw [z] at e91
    have e91 : σ1 91 (lS L : Nat) = 0 := e91
    obtain ⟨σ2, k2, ag2, g3, g4⟩ := s104 (d := d) (by omega) (yb_43 F1.2) (F1.blr hb (by omega) (by omega)) (lS L)
    have D2 : DW σ σ2 (pth L []) := ⟨F1.ag3 ag2 g3.1, g3, ⟨hw.1, hw.2.1, hw.2.2.1, q2, Nat.zero_le _, fun b hb => by cases hb⟩, g4⟩
    have hy2 := D2.fs.2
    have y12 := hy2.1
    have a12 := y90_m1 hy2
    have a22 := y90_0 hy2
    have b12 := y91_m1 hy2
    have b22 := y91_m2 hy2
    have hb2 := D2.blr hb hb43
    obtain ⟨⟨n1, n2, n3, -⟩, n5, -⟩ := id hb2
    have run140 : ∃ σ3, clR PG0 MX d 140 [vR 90, vI (lS L : Nat), vI (lN0 L : Nat), vI 1] σ2 = some (0, σ3) ∧ FS σ σ3 ∧ (∀ a j, a ≠ 91 → σ3 a j = σ2 a j) ∧ ∀ w : Nat, w < 2 ^ lN0 L → σ3 91 w = b2i (brT L [] w) := by
      obtain ⟨d, rfl⟩ := ob1 (show 1 ≤ d by omega)
      obtain ⟨σ3, br', j1, j2, j3, j4, j5, j6⟩ := s140g (d := d) (by omega) h9 q2 (lN0 L) 0 σ2 (rnd (lN0 L)) (by omega) D2.fs (fun u hu => by rw [ag2 _ _ (by omega)]; exact r1 u hu)
      refine ⟨σ3, by rw [ce_140, sg_140_0]; exact j1, j2, j3, fun w hw2 => ?_⟩
      rw [j4 w hw2]
      unfold brT
      rw [inT_0]
      cases zc : inC (lN0 L) (lS L) w with
      | true =>
        obtain ⟨c, c1, c2⟩ := inC_t.mp zc
        rw [j5 w c (Nat.zero_le _) c1 c2, Bool.or_true]
      | false =>
        rw [j6 w (fun c c1 c2 c3 => by rw [inC_t.mpr ⟨c, c2, c3⟩] at zc; cases zc), Bool.or_false]
    obtain ⟨σ3, k3, F3, ag3', r3⟩ := run140
    have hy3 := F3.2
    have y13 := hy3.1
    have a13 := y90_m1 hy3
    have a33 := y90_1 hy3
    have a43 := y90_2 hy3
    have c13 := y92_m1 hy3
    have c23 := y92_m2 hy3
    have d13 := y93_m1 hy3
    have d23 := y93_m2 hy3
    have F4 : FS σ (up (up σ3 92 0 0) 93 0 0) := (F3.upd (by decide) (by decide +kernel) (by omega)).upd (by decide) (by decide +kernel) (by omega)
    have S4 : SR σ (up (up σ3 92 0 0) 93 0 0) (pth L []) (brT L []) 0 := by
      refine ⟨⟨F4, blr_same D2.bl (by rw [up_n1 _ _ _ _ (by omega), up_n1 _ _ _ _ (by omega), ag3' _ _ (by omega)]; exact Int.le_refl _) (fun a j g1 g2 => by rw [up_n1 _ _ _ _ (by omega), up_n1 _ _ _ _ (by omega), ag3' _ _ (by omega)]), D2.wf, by rw [up_n1 _ _ _ _ (by omega), up_n1 _ _ _ _ (by omega), ag3' _ _ (by omega)]; exact D2.ex⟩, fun w hw2 => ?_, ?_, fun i x hx => (by cases hx), fun i hi => ?_⟩
      · rw [up_n1 _ _ _ _ (by omega), up_n1 _ _ _ _ (by omega)]; exact r3 w hw2
      · rw [up_n1 _ _ _ _ (by omega)]; exact up_s _ _ _ _
      · have hi : i ≤ 0 := hi
        have : i = 0 := by omega
        rw [this]; exact up_s _ _ _ _
    have hb4 : blr σ3 b L := F3.blr hb (by omega) (by omega)
    obtain ⟨⟨o1, o2, o3, -⟩, o5, -⟩ := id hb4
    have e139 := s139 (d := d) (by omega) (up (up σ3 92 0 0) 93 0 0) (w := lS L) (b := r) h9 q2 hr
    obtain ⟨m, rfl⟩ : ∃ m, p = m + 1 := ⟨p - 1, by omega⟩
    have rr := s137c (d := d) (by omega) (g := rl (lN0 L) (lS L) r) (p := m + 1) (T := T) (rl_lt _ _ _) hT hp2 m [] 0 0 _ (vR b) (vI r) (vI (lS L : Nat)) vU vU (by show m + 1 + 0 = m + 1; omega) (fun _ => rfl) (Nat.zero_le _) S4 (fun i hi => by cases hi) (Nat.le_refl _) (Nat.zero_le _)
    have rr : FC10 d σ L (rl (lN0 L) (lS L) r) (m + 1) T [] 0 _ (sch (frT L (rl (lN0 L) (lS L) r) (m + 1)) some (lN0 L) T (m + 1) [] 0) := rr
    have run : clR PG0 MX (d + 1) 137 [vR 90, vR b, vI ((m + 1 : Nat) : Int), vI r, vI T, vR 43] σ = rsP PG0 MX d 137 80 [vR 90, vR b, vI ((m + 1 : Nat) : Int), vI r, vI T, vR 43, vI (lS L : Nat), vI (rl (lN0 L) (lS L) r : Nat), vI ((0 : Nat) : Int), vI (2 * ((0 : Nat) : Int) - (([] : List Nat).length : Nat)), vU, vU] [] (up (up σ3 92 0 0) 93 0 0) := by
      rw [ce_137, sg_137_0]
      (try simp (disch := omega) only [m5, e0, f3, wr_id2])
      repeat (first | ((with_reducible refine step_t ?_ ?_); with_reducible exact True.intro) | ((with_reducible refine step_t ?_ ?_); omega) | ((with_reducible refine step_f ?_ ?_); omega))
      refine step_c (k1) ?_
      try dsimp only
      (try simp (disch := omega) only [a21, e91, wr_id2])
      repeat (first | ((with_reducible refine step_t ?_ ?_); with_reducible exact True.intro) | ((with_reducible refine step_t ?_ ?_); omega) | ((with_reducible refine step_f ?_ ?_); omega))
      refine step_c (k2) ?_
      try dsimp only
      (try simp (disch := omega) only [n5, wr_id2])
      repeat (first | ((with_reducible refine step_t ?_ ?_); with_reducible exact True.intro) | ((with_reducible refine step_t ?_ ?_); omega) | ((with_reducible refine step_f ?_ ?_); omega))
      refine step_c (k3) ?_
      try dsimp only
      (try simp (disch := omega) only [a33, a43, up_n1, wr_id2])
      repeat (first | ((with_reducible refine step_t ?_ ?_); with_reducible exact True.intro) | ((with_reducible refine step_t ?_ ?_); omega) | ((with_reducible refine step_f ?_ ?_); omega))
      rw [o5]
      repeat (first | ((with_reducible refine step_t ?_ ?_); with_reducible exact True.intro) | ((with_reducible refine step_t ?_ ?_); omega) | ((with_reducible refine step_f ?_ ?_); omega))
      refine step_c (e139) ?_
      try dsimp only
      rw [sg_137_74]
      rfl
    rw [run]
    generalize sch (frT L (rl (lN0 L) (lS L) r) (m + 1)) some (lN0 L) T (m + 1) [] 0 = R at *
    rcases rr with ⟨r1, σ', r2, r3, r4⟩ | ⟨r1, σ', r2, r3⟩ | ⟨r1, -, -, r4⟩
    · exact ⟨σ', _, r2, r3.fs, Or.inr ⟨rfl, Or.inl ⟨r1, rfl, r3, r4⟩⟩⟩
    · exact ⟨σ', _, r2, r3, Or.inr ⟨rfl, Or.inr (Or.inr ⟨r1, rfl⟩)⟩⟩
    · rcases r4 with ⟨-, σ', r5, r6⟩ | ⟨l0, x, σ', r5, -⟩
      · exact ⟨σ', _, r5, r6, Or.inr ⟨rfl, Or.inr (Or.inl ⟨r1, rfl⟩)⟩⟩
      · have := congrArg List.length r5
        rw [len_a] at this
        cases this
theorem c135 (S : AS) {s p r T : Int} (hs : i32 s) (hp : i32 p) (hrr : i32 r) (hTT : i32 T) : cOp 135 [vI s, vI p, vI r, vI T] S (aA S s (trkQ p r T)) := by
  intro d σ h hy ht hc
  obtain ⟨d, rfl⟩ := ob1 (show 1 ≤ d by omega)
  have y1 := hy.1
  have a1 := y32_m1 hy
  have a5 := y32_5 hy
  have b84 := y84_m1 hy
  have e41 := s41 (d := d) (by omega) hy hc hs
  have a43 := y32_1 hy
  obtain ⟨v1, v2, v3, -⟩ := yb_43 hy
  unfold aA
  cases e : gl S s with
  | none =>
    rw [lbA_n e] at e41
    refine ⟨σ, ?_, FC.rf hy, hc⟩
    rw [ce_135, sg_135_0]
    repeat (first | ((with_reducible refine step_t ?_ ?_); with_reducible exact True.intro) | ((with_reducible refine step_t ?_ ?_); omega) | ((with_reducible refine step_f ?_ ?_); omega))
    refine step_c (e41) ?_
    try dsimp only
    repeat (first | ((with_reducible refine step_t ?_ ?_); with_reducible exact True.intro) | ((with_reducible refine step_t ?_ ?_); omega) | ((with_reducible refine step_f ?_ ?_); omega))
    rfl
  | some L =>
    rw [lbA_s e] at e41
    obtain ⟨g1, g2, g3, g4, g5⟩ := hc.got e
    have hw := g4.1
    obtain ⟨⟨m1, m2, m3, m4, m5, m6, m7, m8, m9⟩, f3, f4, f5, f6, fs, fw⟩ := id g3
    have hl := wf_len hw
    have h9 := hw.1
    have hsh := shN_le L
    dsimp only
    have a6 := y32_6 hy
    have b90 := y90_m1 hy
    unfold trkQ
    obtain ⟨p1, p2⟩ := hp
    obtain ⟨r1, r2⟩ := hrr
    obtain ⟨t1, t2⟩ := hTT
    have refuse : ∀ X : Option (Int × HP), X = some (-2, σ) → ((2 ≤ lN0 L ∧ 1 ≤ p ∧ (1 ≤ T ∧ T ≤ 50000) ∧ 1 ≤ r ∧ r < lN0 L) → clR PG0 MX d 136 [vI r, vI (lN0 L : Nat)] σ = some (1, σ)) → ¬ ((2 ≤ lN0 L ∧ 1 ≤ p ∧ (1 ≤ T ∧ T ≤ 50000) ∧ 1 ≤ r ∧ r < lN0 L) ∧ cmF r.toNat (lN0 L) 7 2 = false) → clR PG0 MX (d + 1) 135 [vR 32, vI s, vI p, vI r, vI T] σ = X := fun X hX h136 hno => by
      rw [hX, ce_135, sg_135_0]
      repeat (first | ((with_reducible refine step_t ?_ ?_); with_reducible exact True.intro) | ((with_reducible refine step_t ?_ ?_); omega) | ((with_reducible refine step_f ?_ ?_); omega))
      refine step_c (e41) ?_
      try dsimp only
      (try simp (disch := omega) only [f3, wr_id2])
      by_cases q1 : (lN0 L : Int) < 2
      · repeat (first | ((with_reducible refine step_t ?_ ?_); with_reducible exact True.intro) | ((with_reducible refine step_t ?_ ?_); omega) | ((with_reducible refine step_f ?_ ?_); omega))
        rfl
      · by_cases q2 : p < 1
        · repeat (first | ((with_reducible refine step_t ?_ ?_); with_reducible exact True.intro) | ((with_reducible refine step_t ?_ ?_); omega) | ((with_reducible refine step_f ?_ ?_); omega))
          rfl
        · by_cases q3 : T < 1
          · repeat (first | ((with_reducible refine step_t ?_ ?_); with_reducible exact True.intro) | ((with_reducible refine step_t ?_ ?_); omega) | ((with_reducible refine step_f ?_ ?_); omega))
            rfl
          · by_cases q4 : 50000 < T
            · repeat (first | ((with_reducible refine step_t ?_ ?_); with_reducible exact True.intro) | ((with_reducible refine step_t ?_ ?_); omega) | ((with_reducible refine step_f ?_ ?_); omega))
              rfl
            · by_cases q5 : r < 1
              · repeat (first | ((with_reducible refine step_t ?_ ?_); with_reducible exact True.intro) | ((with_reducible refine step_t ?_ ?_); omega) | ((with_reducible refine step_f ?_ ?_); omega))
                rfl
              · by_cases q6 : (lN0 L : Int) ≤ r
                · repeat (first | ((with_reducible refine step_t ?_ ?_); with_reducible exact True.intro) | ((with_reducible refine step_t ?_ ?_); omega) | ((with_reducible refine step_f ?_ ?_); omega))
                  rfl
                · repeat (first | ((with_reducible refine step_t ?_ ?_); with_reducible exact True.intro) | ((with_reducible refine step_t ?_ ?_); omega) | ((with_reducible refine step_f ?_ ?_); omega))
                  refine step_c (h136 (by omega)) ?_
                  try dsimp only
                  (try simp (disch := omega) only [wr_id2])
                  repeat (first | ((with_reducible refine step_t ?_ ?_); with_reducible exact True.intro) | ((with_reducible refine step_t ?_ ?_); omega) | ((with_reducible refine step_f ?_ ?_); omega))
                  rfl
    by_cases z : (2 ≤ lN0 L ∧ 1 ≤ p ∧ (1 ≤ T ∧ T ≤ 50000) ∧ 1 ≤ r ∧ r < lN0 L)
    · have e136 := s136 (d := d) (by omega) σ (r := r.toNat) (N := lN0 L) (by omega) (by omega)
      rw [show ((r.toNat : Nat) : Int) = r by omega] at e136
      cases zc : cmF r.toNat (lN0 L) 7 2 with
      | true =>
        rw [zc] at e136
        rw [if_neg (fun q => by cases q.2)]
        exact ⟨σ, refuse _ rfl (fun _ => e136) (fun q => by rw [zc] at q; cases q.2), FC.rf hy, hc⟩
      | false =>
        rw [zc] at e136
        rw [if_pos ⟨z, rfl⟩]
        obtain ⟨pn, rfl⟩ : ∃ pn : Nat, p = pn := ⟨p.toNat, by omega⟩
        obtain ⟨rn, rfl⟩ : ∃ rn : Nat, r = rn := ⟨r.toNat, by omega⟩
        obtain ⟨tn, rfl⟩ : ∃ tn : Nat, T = tn := ⟨T.toNat, by omega⟩
        simp only [Int.toNat_natCast] at zc e136 refuse ⊢
        rw [← Int.natCast_mul]
        by_cases z5 : lN0 L * pn ≤ 256
        · rw [if_pos (by omega)]
          have hpl : pn ≤ lN0 L * pn := by
            have := Nat.mul_le_mul_right pn (show 1 ≤ lN0 L by omega)
            omega
          obtain ⟨σ1, v, k1, F1, k2⟩ := s137 (d := d) (by omega) hy g3 hw (by omega) (p := pn) (r := rn) (T := tn) (by omega) (by omega) (by omega) (by omega) (by omega)
          have hy1 := F1.2
          have y11 := hy1.1
          have a11 := y32_m1 hy1
          have a431 := y32_1 hy1
          have mu : (lN0 L : Int) * (pn : Int) = ((lN0 L * pn : Nat) : Int) := (Int.natCast_mul _ _).symm
          have st : clR PG0 MX (d + 1) 135 [vR 32, vI s, vI (pn : Int), vI (rn : Int), vI (tn : Int)] σ = cnd (0 ≤ v) (bnd (clR PG0 MX d 142 [vR 43, vI (pn : Int), vI (rn : Int)] σ1) (fun q4 => rsP PG0 MX d 135 130 [vR 32, vI s, vI (pn : Int), vI (rn : Int), vI (tn : Int), vR (34 + 3 * s), vI v] [] q4.2)) (some (v, σ1)) := by
            rw [ce_135, sg_135_0]
            repeat (first | ((with_reducible refine step_t ?_ ?_); with_reducible exact True.intro) | ((with_reducible refine step_t ?_ ?_); omega) | ((with_reducible refine step_f ?_ ?_); omega))
            refine step_c (e41) ?_
            try dsimp only
            (try simp (disch := omega) only [f3, wr_id2])
            repeat (first | ((with_reducible refine step_t ?_ ?_); with_reducible exact True.intro) | ((with_reducible refine step_t ?_ ?_); omega) | ((with_reducible refine step_f ?_ ?_); omega))
            refine step_c (e136) ?_
            try dsimp only
            rw [wr_b2i]
            refine step_t (show b2i false = 0 by decide) ?_
            (try simp (disch := omega) only [f3, mu, a6, a43, wr_id2])
            repeat (first | ((with_reducible refine step_t ?_ ?_); with_reducible exact True.intro) | ((with_reducible refine step_t ?_ ?_); omega) | ((with_reducible refine step_f ?_ ?_); omega))
            refine step_c (k1) ?_
            try dsimp only
            (try simp (disch := omega) only [a431, wr_id2])
            by_cases zv : 0 ≤ v
            · refine step_t zv ?_
              repeat (first | ((with_reducible refine step_t ?_ ?_); with_reducible exact True.intro) | ((with_reducible refine step_t ?_ ?_); omega) | ((with_reducible refine step_f ?_ ?_); omega))
              rw [cnd, decide_eq_true zv]
              rfl
            · refine step_f zv ?_
              rw [cnd, decide_eq_false zv]
              rfl
          unfold trkL
          rw [st]
          rcases k2 with ⟨k3, rfl⟩ | ⟨k3, k4⟩
          · rw [if_pos k3]
            refine ⟨σ1, ?_, F1.fc, F1.cr hc⟩
            refine step_f (by decide) ?_
            rfl
          · rw [if_neg (by rw [k3]; decide)]
            generalize sch (frT L (rl (lN0 L) (lS L) rn) pn) some (lN0 L) tn pn [] 0 = R at *
            rcases k4 with ⟨r1, rfl, r3, r4⟩ | ⟨r1, rfl⟩ | ⟨r1, rfl⟩
            · rw [if_pos r1]
              obtain ⟨σ2, j1, D2⟩ := s142 (d := d) (by omega) (r := rn) (show rn < lN0 L by omega) z5 r4 r3
              obtain ⟨σ3, j3, j4, j5, -⟩ := dw_set (d := d) (by omega) hc D2 g1 g2 g4.2.1 g4.2.2.1 g4.2.2.2
              have j3 : clR PG0 MX d 32 [vR 32, vI s] σ2 = some ((((trM (trF (lN0 L) pn rn R.2.1) (lN0 L * pn)).length : Nat) : Int), σ3) := j3
              rw [trM_len] at j3
              have hy2 := D2.fs.2
              have y12 := hy2.1
              have a12 := y32_m1 hy2
              refine ⟨σ3, ?_, j4, j5⟩
              refine step_t (by omega) ?_
              refine step_c (j1) ?_
              try dsimp only
              rw [sg_135_130]
              repeat (first | ((with_reducible refine step_t ?_ ?_); with_reducible exact True.intro) | ((with_reducible refine step_t ?_ ?_); omega) | ((with_reducible refine step_f ?_ ?_); omega))
              refine step_c (j3) ?_
              try dsimp only
            · rw [if_neg (by omega), if_pos r1]
              refine ⟨σ1, ?_, F1.fc, F1.cr hc⟩
              refine step_f (by decide) ?_
              rfl
            · rw [if_neg (by omega), if_neg (by omega)]
              refine ⟨σ1, ?_, F1.fc, F1.cr hc⟩
              refine step_f (by decide) ?_
              rfl
        · rw [if_neg (by omega)]
          refine ⟨σ, ?_, FC.rf hy, hc⟩
          have mu : (lN0 L : Int) * (pn : Int) = ((lN0 L * pn : Nat) : Int) := (Int.natCast_mul _ _).symm
          rw [ce_135, sg_135_0]
          repeat (first | ((with_reducible refine step_t ?_ ?_); with_reducible exact True.intro) | ((with_reducible refine step_t ?_ ?_); omega) | ((with_reducible refine step_f ?_ ?_); omega))
          refine step_c (e41) ?_
          try dsimp only
          (try simp (disch := omega) only [f3, wr_id2])
          repeat (first | ((with_reducible refine step_t ?_ ?_); with_reducible exact True.intro) | ((with_reducible refine step_t ?_ ?_); omega) | ((with_reducible refine step_f ?_ ?_); omega))
          refine step_c (e136) ?_
          try dsimp only
          rw [wr_b2i]
          refine step_t (show b2i false = 0 by decide) ?_
          by_cases z6 : 256 < (pn : Int)
          · (try simp (disch := omega) only [wr_id2])
            repeat (first | ((with_reducible refine step_t ?_ ?_); with_reducible exact True.intro) | ((with_reducible refine step_t ?_ ?_); omega) | ((with_reducible refine step_f ?_ ?_); omega))
            rfl
          · have hm : lN0 L * pn ≤ 8 * 256 := Nat.mul_le_mul h9 (by omega)
            (try simp (disch := omega) only [f3, mu, wr_id2])
            repeat (first | ((with_reducible refine step_t ?_ ?_); with_reducible exact True.intro) | ((with_reducible refine step_t ?_ ?_); omega) | ((with_reducible refine step_f ?_ ?_); omega))
            rfl
    · rw [if_neg (fun q => z q.1)]
      exact ⟨σ, refuse _ rfl (fun q => absurd q z) (fun q => z q.1), FC.rf hy, hc⟩
