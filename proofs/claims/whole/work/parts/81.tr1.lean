/-! TRACKS: rolling words -/
def rl (N w b : Nat) : Nat := ((w * 2 ^ b) ||| (w / 2 ^ (N - b))) % 2 ^ N
theorem rl_lt (N w b : Nat) : rl N w b < 2 ^ N := Nat.mod_lt _ (Nat.two_pow_pos N)
theorem rl_c : ∀ N, N < 9 → ∀ w, w < 2 ^ N → ∀ b, b < N → ∀ c, c < N → rl N (rl N w b) c = rl N w ((b + c) % N) := by decide +kernel
theorem rl_0 : ∀ N, N < 9 → ∀ w, w < 2 ^ N → rl N w 0 = w := by decide +kernel
def rnd (N w : Nat) : Bool := decide (0 < cntB (fun b => decide (rl N w (b + 1) = w)) (N - 1))
def inC (N w v : Nat) : Bool := decide (0 < cntB (fun b => decide (rl N w b = v)) N)
theorem inC_t {N w v : Nat} : inC N w v = true ↔ ∃ b, b < N ∧ rl N w b = v := by
  unfold inC
  rw [decide_eq_true_iff, ← cntB_pos]
  constructor
  · rintro ⟨i, h1, h2⟩; exact ⟨i, h1, of_decide_eq_true h2⟩
  · rintro ⟨i, h1, h2⟩; exact ⟨i, h1, decide_eq_true h2⟩
theorem rnd_t {N w : Nat} : rnd N w = true ↔ ∃ b, b + 1 < N ∧ rl N w (b + 1) = w := by
  unfold rnd
  rw [decide_eq_true_iff, ← cntB_pos]
  constructor
  · rintro ⟨i, h1, h2⟩; exact ⟨i, by omega, of_decide_eq_true h2⟩
  · rintro ⟨i, h1, h2⟩; exact ⟨i, by omega, decide_eq_true h2⟩
theorem inC_self {N w : Nat} (h1 : 1 ≤ N) (hN : N ≤ 8) (hw : w < 2 ^ N) : inC N w w = true := inC_t.mpr ⟨0, by omega, rl_0 N (by omega) w hw⟩
theorem inC_sym {N w v : Nat} (hN : N ≤ 8) (hw : w < 2 ^ N) (h : inC N w v = true) : inC N v w = true := by
  obtain ⟨b, b1, b2⟩ := inC_t.mp h
  refine inC_t.mpr ⟨(N - b) % N, Nat.mod_lt _ (by omega), ?_⟩
  rw [← b2, rl_c N (by omega) w hw b b1 _ (Nat.mod_lt _ (by omega)), Nat.add_mod_mod, show b + (N - b) = N by omega, Nat.mod_self]
  exact rl_0 N (by omega) w hw
theorem inC_tr {N w v u : Nat} (hN : N ≤ 8) (hw : w < 2 ^ N) (h : inC N w v = true) (h2 : inC N v u = true) : inC N w u = true := by
  obtain ⟨b, b1, b2⟩ := inC_t.mp h
  obtain ⟨c, c1, c2⟩ := inC_t.mp h2
  refine inC_t.mpr ⟨(b + c) % N, Nat.mod_lt _ (by omega), ?_⟩
  rw [← rl_c N (by omega) w hw b b1 c c1, b2]
  exact c2
theorem rnd_C {N w v : Nat} (hN : N ≤ 8) (hw : w < 2 ^ N) (h : inC N w v = true) (hr : rnd N w = true) : rnd N v = true := by
  obtain ⟨b, b1, b2⟩ := inC_t.mp h
  obtain ⟨c, c1, c2⟩ := rnd_t.mp hr
  refine rnd_t.mpr ⟨c, c1, ?_⟩
  have e1 := rl_c N (by omega) w hw b b1 (c + 1) c1
  have e2 := rl_c N (by omega) w hw (c + 1) c1 b b1
  rw [c2] at e2
  rw [← b2, e1, Nat.add_comm b, ← e2]
def inT (L : LB) (l : List Nat) (v : Nat) : Bool := decide (0 < cntB (fun i => inC (lN0 L) (wd (pth L l) i) v) (l.length + 1))
theorem inT_t {L : LB} {l : List Nat} {v : Nat} : inT L l v = true ↔ ∃ i, i < l.length + 1 ∧ inC (lN0 L) (wd (pth L l) i) v = true := by
  unfold inT
  rw [decide_eq_true_iff, ← cntB_pos]
theorem inT_a {L : LB} {l : List Nat} {k v : Nat} : inT L (l ++ [k]) v = if inC (lN0 L) (wd (pth L l) l.length ^^^ 2 ^ k) v = true then true else inT L l v := by
  by_cases z : inC (lN0 L) (wd (pth L l) l.length ^^^ 2 ^ k) v = true
  · rw [if_pos z, inT_t]
    exact ⟨l.length + 1, by rw [len_a]; omega, by rw [wd_e]; exact z⟩
  · rw [if_neg z]
    cases q : inT L l v with
    | true =>
      obtain ⟨i, h1, h2⟩ := inT_t.mp q
      exact inT_t.mpr ⟨i, by rw [len_a]; omega, by rw [wd_a (by omega)]; exact h2⟩
    | false =>
      cases q2 : inT L (l ++ [k]) v with
      | false => rfl
      | true =>
        obtain ⟨i, h1, h2⟩ := inT_t.mp q2
        rw [len_a] at h1
        by_cases z2 : i = l.length + 1
        · rw [z2, wd_e] at h2
          exact absurd h2 z
        · rw [wd_a (by omega)] at h2
          rw [inT_t.mpr ⟨i, by omega, h2⟩] at q
          exact q
theorem inT_0 {L : LB} {v : Nat} : inT L [] v = inC (lN0 L) (lS L) v := by
  cases q : inC (lN0 L) (lS L) v with
  | true => exact inT_t.mpr ⟨0, by decide, by rw [wd_0]; exact q⟩
  | false =>
    cases q2 : inT L [] v with
    | false => rfl
    | true =>
      obtain ⟨i, h1, h2⟩ := inT_t.mp q2
      have h1 : i < 0 + 1 := h1
      have : i = 0 := by omega
      rw [this, wd_0] at h2
      have h2 : inC (lN0 L) (lS L) v = true := h2
      rw [h2] at q
      exact q
/-- what is gone with a word that is not gone is its own -/
theorem inT_b {L : LB} {l : List Nat} {k v : Nat} (hw : wf0 (pth L l)) (hk : k < lN0 L) (h : inT L l (wd (pth L l) l.length ^^^ 2 ^ k) = false) (hv : inC (lN0 L) (wd (pth L l) l.length ^^^ 2 ^ k) v = true) : inT L l v = false := by
  cases q : inT L l v with
  | false => rfl
  | true =>
    obtain ⟨i, h1, h2⟩ := inT_t.mp q
    have hN : lN0 L ≤ 8 := hw.1
    have vb : wd (pth L l) l.length ^^^ 2 ^ k < 2 ^ lN0 L := Nat.xor_lt_two_pow (wd_lt hw _) (Nat.pow_lt_pow_right (by omega) hk)
    have h3 := inC_tr hN (wd_lt hw i) h2 (inC_sym hN vb hv)
    rw [inT_t.mpr ⟨i, h1, h3⟩] at h
    exact h
def brT (L : LB) (l : List Nat) (v : Nat) : Bool := rnd (lN0 L) v || inT L l v
theorem brT_a {L : LB} {l : List Nat} {k : Nat} (v : Nat) : brT L (l ++ [k]) v = if inC (lN0 L) (wd (pth L l) l.length ^^^ 2 ^ k) v = true then true else brT L l v := by
  unfold brT
  rw [inT_a]
  by_cases z : inC (lN0 L) (wd (pth L l) l.length ^^^ 2 ^ k) v = true
  · rw [if_pos z, if_pos z, Bool.or_true]
  · rw [if_neg z, if_neg z]
theorem brT_b {L : LB} {l : List Nat} {k : Nat} (hw : wf0 (pth L l)) (hk : k < lN0 L) (h : brT L l (wd (pth L l) l.length ^^^ 2 ^ k) = false) (v : Nat) : brT L l v = if inC (lN0 L) (wd (pth L l) l.length ^^^ 2 ^ k) v = true then false else brT L (l ++ [k]) v := by
  have hN : lN0 L ≤ 8 := hw.1
  have vb : wd (pth L l) l.length ^^^ 2 ^ k < 2 ^ lN0 L := Nat.xor_lt_two_pow (wd_lt hw _) (Nat.pow_lt_pow_right (by omega) hk)
  by_cases z : inC (lN0 L) (wd (pth L l) l.length ^^^ 2 ^ k) v = true
  · rw [if_pos z]
    unfold brT at h ⊢
    have h1 : rnd (lN0 L) (wd (pth L l) l.length ^^^ 2 ^ k) = false := (Bool.or_eq_false_iff.mp h).1
    have h2 := (Bool.or_eq_false_iff.mp h).2
    rw [inT_b hw hk h2 z, Bool.or_false]
    cases q : rnd (lN0 L) v with
    | false => rfl
    | true =>
      obtain ⟨b, b1, b2⟩ := inC_t.mp z
      rw [rnd_C hN (by rw [← b2]; exact rl_lt _ _ _) (inC_sym hN vb z) q] at h1
      exact h1
  · rw [if_neg z, brT_a, if_neg z]
def VT (L : LB) (l : List Nat) : Prop := ∀ i, i < l.length → brT L (l.take i) (wd (pth L l) (i + 1)) = false
theorem VT.push {L : LB} {l : List Nat} {k : Nat} (h : VT L l) (hf : brT L l (wd (pth L l) l.length ^^^ 2 ^ k) = false) : VT L (l ++ [k]) := by
  intro i hi
  rw [len_a] at hi
  by_cases z : i = l.length
  · rw [z, List.take_left, wd_e]; exact hf
  · rw [List.take_append_of_le_length (by omega), wd_a (by omega)]; exact h i (by omega)
theorem VT.last {L : LB} {l : List Nat} {k : Nat} (h : VT L (l ++ [k])) : brT L l (wd (pth L l) l.length ^^^ 2 ^ k) = false := by
  have := h l.length (by rw [len_a]; omega)
  rw [List.take_left, wd_e] at this
  exact this
theorem rl_i {N w b : Nat} (hN : N ≤ 8) (hw : w < 2 ^ N) (hb : b ≤ N) : i_and (i_or (i_shl (w : Int) (b : Int)) (i_shr (w : Int) ((N : Int) - b))) (i_shl 1 (N : Int) - 1) = ((rl N w b : Nat) : Int) := by
  have h8 := pow8 hN
  have hb8 := pow8 (show b ≤ 8 by omega)
  have hp := Nat.two_pow_pos N
  have hm : w * 2 ^ b < 65536 := by
    have h1 : w * 2 ^ b ≤ w * 256 := Nat.mul_le_mul_left _ hb8
    omega
  have hd : w / 2 ^ (N - b) ≤ w := Nat.div_le_self _ _
  have ho : w * 2 ^ b ||| w / 2 ^ (N - b) < 2 ^ 16 := Nat.or_lt_two_pow hm (by omega)
  rw [i_shl_n (by omega) (by omega), show (N : Int) - b = ((N - b : Nat) : Int) by omega, i_shr_n (by omega) (by omega), i_or_n (by omega) (by omega), shl1 (by omega), show ((2 ^ N : Nat) : Int) - 1 = ((2 ^ N - 1 : Nat) : Int) by omega, i_and_n (by omega) (by omega), Nat.and_two_pow_sub_one_eq_mod]
  rfl
theorem rl_m {N w b : Nat} (hN : N ≤ 8) (hw : w < 2 ^ N) (hb : b ≤ N) : i_and (i_or (i_shl (w : Int) (b : Int)) (i_shr (i_shl (w : Int) (b : Int)) (N : Int))) (i_shl 1 (N : Int) - 1) = ((rl N w b : Nat) : Int) := by
  have h8 := pow8 hN
  have hb8 := pow8 (show b ≤ 8 by omega)
  have hp := Nat.two_pow_pos N
  have hm : w * 2 ^ b < 65536 := by
    have h1 : w * 2 ^ b ≤ w * 256 := Nat.mul_le_mul_left _ hb8
    omega
  have ed : w * 2 ^ b / 2 ^ N = w / 2 ^ (N - b) := by
    rw [show (2 : Nat) ^ N = 2 ^ (N - b) * 2 ^ b by rw [← Nat.pow_add, show N - b + b = N by omega]]
    exact Nat.mul_div_mul_right _ _ (Nat.two_pow_pos b)
  have hd : w / 2 ^ (N - b) ≤ w := Nat.div_le_self _ _
  have ho : w * 2 ^ b ||| w / 2 ^ (N - b) < 2 ^ 16 := Nat.or_lt_two_pow hm (by omega)
  rw [i_shl_n (by omega) (by omega), i_shr_n (by omega) (by omega), ed, i_or_n (by omega) (by omega), shl1 (by omega), show ((2 ^ N : Nat) : Int) - 1 = ((2 ^ N - 1 : Nat) : Int) by omega, i_and_n (by omega) (by omega), Nat.and_two_pow_sub_one_eq_mod]
  rfl
/-- rolled -/
theorem s139 {d : Nat} (h : 1 ≤ d) (σ : HP) {N w b : Nat} (hN : N ≤ 8) (hw : w < 2 ^ N) (hb : b ≤ N) : clR PG0 MX d 139 [vI w, vI b, vI N] σ = some (((rl N w b : Nat) : Int), σ) := by
  obtain ⟨d, rfl⟩ := ob1 (show 1 ≤ d by omega)
  rw [ce_139, sg_139_0, rl_i hN hw hb]
/-- barRolls -/
theorem s140l {d : Nat} (h : 1 ≤ d) {σ0 : HP} {P : LB} {k w : Nat} {b : Bool} (hw : w < 2 ^ lN0 P) {v : Int} (hv : v = b2i b) : ∀ (m i : Nat) (σ : HP) (br : Nat → Bool), i + m = lN0 P → SR σ0 σ P br k → ∃ σ' br', rsP PG0 MX d 140 3 [vR 90, vI w, vI (lN0 P : Nat), vI v, vI i] [] σ = some (0, σ') ∧ SR σ0 σ' P br' k ∧ (∀ u c, i ≤ c → c < lN0 P → rl (lN0 P) w c = u → br' u = b) ∧ ∀ u, (∀ c, i ≤ c → c < lN0 P → rl (lN0 P) w c ≠ u) → br' u = br u := by
  intro m
  induction m with
  | zero =>
    intro i σ br hi hS
    have h9 := hS.1.wf.1
    refine ⟨σ, br, ?_, hS, fun u c c1 c2 => by omega, fun _ _ => rfl⟩
    rw [sg_140_3]
    (try simp (disch := omega) only [wr_id2])
    repeat (first | ((with_reducible refine step_t ?_ ?_); with_reducible exact True.intro) | ((with_reducible refine step_t ?_ ?_); omega) | ((with_reducible refine step_f ?_ ?_); omega))
    rfl
  | succ m ih =>
    intro i σ br hi hS
    have h9 := hS.1.wf.1
    have hp8 := pow8 h9
    have hy := hS.1.fs.2
    have y1 := hy.1
    have a1 := y90_m1 hy
    have a2 := y90_0 hy
    have b1 := y91_m1 hy
    have b2 := y91_m2 hy
    have hlt := rl_lt (lN0 P) w i
    have S1 := hS.bar (w := rl (lN0 P) w i) (b := b) (br' := fun u => if u = rl (lN0 P) w i then b else br u) hlt (fun u _ => rfl) hv
    obtain ⟨σ', br', k1, k2, k3, k4⟩ := ih (i + 1) _ _ (by omega) S1
    refine ⟨σ', br', ?_, k2, fun u c c1 c2 c3 => ?_, fun u hu => ?_⟩
    · rw [sg_140_3]
      (try simp (disch := omega) only [wr_id2])
      repeat (first | ((with_reducible refine step_t ?_ ?_); with_reducible exact True.intro) | ((with_reducible refine step_t ?_ ?_); omega) | ((with_reducible refine step_f ?_ ?_); omega))
      refine step_c (s139 (by omega) σ h9 hw (by omega)) ?_
      try dsimp only
      (try simp (disch := omega) only [a2, wr_id2])
      repeat (first | ((with_reducible refine step_t ?_ ?_); with_reducible exact True.intro) | ((with_reducible refine step_t ?_ ?_); omega) | ((with_reducible refine step_f ?_ ?_); omega))
      exact k1
    · by_cases z : ∃ c, i + 1 ≤ c ∧ c < lN0 P ∧ rl (lN0 P) w c = u
      · obtain ⟨c', e1, e2, e3⟩ := z
        exact k3 u c' e1 e2 e3
      · rw [k4 u (fun c' e1 e2 e3 => z ⟨c', e1, e2, e3⟩)]
        have : c = i := by
          by_cases zc : c = i
          · exact zc
          · exact absurd ⟨c, by omega, c2, c3⟩ z
        exact if_pos (by rw [← c3, this])
    · rw [k4 u (fun c' e1 e2 => hu c' (by omega) e2)]
      exact if_neg (fun q => hu i (Nat.le_refl _) (by omega) q.symm)
theorem s140 {d : Nat} (h : 2 ≤ d) {σ0 σ : HP} {P : LB} {k w : Nat} {b : Bool} {br br' : Nat → Bool} (hS : SR σ0 σ P br k) (hw : w < 2 ^ lN0 P) (hb : ∀ u, br' u = if inC (lN0 P) w u = true then b else br u) {v : Int} (hv : v = b2i b) : ∃ σ', clR PG0 MX d 140 [vR 90, vI w, vI (lN0 P : Nat), vI v] σ = some (0, σ') ∧ SR σ0 σ' P br' k := by
  obtain ⟨d, rfl⟩ := ob1 (show 1 ≤ d by omega)
  obtain ⟨σ', b2, k1, k2, k3, k4⟩ := s140l (d := d) (by omega) (σ0 := σ0) hw hv (lN0 P) 0 σ br (by omega) hS
  refine ⟨σ', ?_, k2.co (fun u hu => ?_)⟩
  · rw [ce_140, sg_140_0]
    exact k1
  · rw [hb u]
    by_cases z : inC (lN0 P) w u = true
    · obtain ⟨c, c1, c2⟩ := inC_t.mp z
      rw [if_pos z, k3 u c (Nat.zero_le _) c1 c2]
    · rw [if_neg z, k4 u (fun c c1 c2 c3 => z (inC_t.mpr ⟨c, c2, c3⟩))]
/-- barRolledToThemselves -/
theorem s138i {d : Nat} (h : 1 ≤ d) {σ0 : HP} {N w : Nat} (hN : N ≤ 8) (hw : w < 2 ^ N) : ∀ (m i : Nat) (σ : HP), i + m = N → 1 ≤ i → FS σ0 σ → σ 91 w = b2i (decide (0 < cntB (fun b => decide (rl N w (b + 1) = w)) (i - 1))) → ∃ σ', rsP PG0 MX d 138 18 [vR 90, vI N, vI w, vI i] [] σ = rsP PG0 MX d 138 2 [vR 90, vI N, vI ((w : Int) + 1), vI N] [] σ' ∧ FS σ0 σ' ∧ σ' 91 w = b2i (rnd N w) ∧ ∀ a j, (a ≠ 91 ∨ j ≠ w) → σ' a j = σ a j := by
  have hp8 := pow8 hN
  intro m
  induction m with
  | zero =>
    intro i σ hi h1 hF hr
    have ei : i = N := by omega
    subst ei
    refine ⟨σ, ?_, hF, hr, fun _ _ _ => rfl⟩
    rw [sg_138_18]
    (try simp (disch := omega) only [wr_id2])
    repeat (first | ((with_reducible refine step_t ?_ ?_); with_reducible exact True.intro) | ((with_reducible refine step_t ?_ ?_); omega) | ((with_reducible refine step_f ?_ ?_); omega))
    rfl
  | succ m ih =>
    intro i σ hi h1 hF hr
    have hy := hF.2
    have y1 := hy.1
    have a1 := y90_m1 hy
    have a2 := y90_0 hy
    have b1 := y91_m1 hy
    have b2 := y91_m2 hy
    have e139 := s139 (d := d) (by omega) σ (w := w) (b := i) hN hw (by omega)
    have rb := rl_lt N w i
    obtain ⟨i', rfl⟩ : ∃ i', i = i' + 1 := ⟨i - 1, by omega⟩
    rw [Nat.add_sub_cancel] at hr
    by_cases z : rl N w (i' + 1) = w
    · obtain ⟨σ', k1, k2, k3, k4⟩ := ih (i' + 1 + 1) (up σ 91 w 1) (by omega) (by omega) (hF.upd (by decide) (by decide +kernel) (by omega)) (by
        rw [up_s, Nat.add_sub_cancel, cntB_st (decide_eq_true z), decide_eq_true (by omega)]; rfl)
      refine ⟨σ', ?_, k2, k3, fun a j h => by
        rw [k4 a j h]
        by_cases za : a = 91
        · exact up_n2 _ _ _ _ (by omega)
        · exact up_n1 _ _ _ _ za⟩
      rw [sg_138_18]
      (try simp (disch := omega) only [wr_id2])
      repeat (first | ((with_reducible refine step_t ?_ ?_); with_reducible exact True.intro) | ((with_reducible refine step_t ?_ ?_); omega) | ((with_reducible refine step_f ?_ ?_); omega))
      refine step_c (e139) ?_
      try dsimp only
      rw [z]
      (try simp (disch := omega) only [a2, wr_id2])
      repeat (first | ((with_reducible refine step_t ?_ ?_); with_reducible exact True.intro) | ((with_reducible refine step_t ?_ ?_); omega) | ((with_reducible refine step_f ?_ ?_); omega))
      exact k1
    · obtain ⟨σ', k1, k2, k3, k4⟩ := ih (i' + 1 + 1) σ (by omega) (by omega) hF (by
        rw [Nat.add_sub_cancel, cntB_sf (decide_eq_false z)]; exact hr)
      refine ⟨σ', ?_, k2, k3, k4⟩
      rw [sg_138_18]
      (try simp (disch := omega) only [wr_id2])
      repeat (first | ((with_reducible refine step_t ?_ ?_); with_reducible exact True.intro) | ((with_reducible refine step_t ?_ ?_); omega) | ((with_reducible refine step_f ?_ ?_); omega))
      refine step_c (e139) ?_
      try dsimp only
      (try simp (disch := omega) only [wr_id2])
      repeat (first | ((with_reducible refine step_t ?_ ?_); with_reducible exact True.intro) | ((with_reducible refine step_t ?_ ?_); omega) | ((with_reducible refine step_f ?_ ?_); omega))
      exact k1
theorem s138l {d : Nat} (h : 1 ≤ d) {σ0 : HP} {N : Nat} (h1 : 1 ≤ N) (hN : N ≤ 8) : ∀ (m w : Nat) (σ : HP) (u : MV), w + m = 2 ^ N → FS σ0 σ → (∀ v : Nat, v < w → σ 91 v = b2i (rnd N v)) → ∃ σ', rsP PG0 MX d 138 2 [vR 90, vI N, vI w, u] [] σ = some (0, σ') ∧ FS σ0 σ' ∧ ∀ v : Nat, v < 2 ^ N → σ' 91 v = b2i (rnd N v) := by
  have hp8 := pow8 hN
  have sh := shl1 (x := N) (by omega)
  intro m
  induction m with
  | zero =>
    intro w σ u hm hF hr
    refine ⟨σ, ?_, hF, fun v hv => hr v (by omega)⟩
    rw [sg_138_2, sh]
    (try simp (disch := omega) only [wr_id2])
    repeat (first | ((with_reducible refine step_t ?_ ?_); with_reducible exact True.intro) | ((with_reducible refine step_t ?_ ?_); omega) | ((with_reducible refine step_f ?_ ?_); omega))
    rfl
  | succ m ih =>
    intro w σ u hm hF hr
    have hy := hF.2
    have y1 := hy.1
    have a1 := y90_m1 hy
    have a2 := y90_0 hy
    have b1 := y91_m1 hy
    have b2 := y91_m2 hy
    have F1 : FS σ0 (up σ 91 w 0) := hF.upd (by decide) (by decide +kernel) (by omega)
    obtain ⟨σ1, k1, k2, k3, k4⟩ := s138i (d := d) h hN (w := w) (by omega) (N - 1) 1 (up σ 91 w 0) (by omega) (Nat.le_refl _) F1 (up_s _ _ _ _)
    obtain ⟨σ2, j1, j2⟩ := ih (w + 1) σ1 (vI N) (by omega) k2 (fun v hv => by
      by_cases z : v = w
      · rw [z]; exact k3
      · rw [k4 _ _ (by omega), up_n2 _ _ _ _ (by omega)]; exact hr v (by omega))
    refine ⟨σ2, ?_, j2⟩
    rw [sg_138_2, sh]
    (try simp (disch := omega) only [a2, wr_id2])
    repeat (first | ((with_reducible refine step_t ?_ ?_); with_reducible exact True.intro) | ((with_reducible refine step_t ?_ ?_); omega) | ((with_reducible refine step_f ?_ ?_); omega))
    exact k1.trans j1
theorem s138 {d : Nat} (h : 2 ≤ d) {σ : HP} (hy : Lay σ) {N : Nat} (h1 : 1 ≤ N) (hN : N ≤ 8) : ∃ σ', clR PG0 MX d 138 [vR 90, vI N] σ = some (0, σ') ∧ FS σ σ' ∧ ∀ v : Nat, v < 2 ^ N → σ' 91 v = b2i (rnd N v) := by
  obtain ⟨d, rfl⟩ := ob1 (show 1 ≤ d by omega)
  obtain ⟨σ', k1, k2⟩ := s138l (d := d) (by omega) h1 hN (2 ^ N) 0 σ vU (by omega) (FS.rf hy) (fun v hv => by omega)
  refine ⟨σ', ?_, k2⟩
  rw [ce_138, sg_138_0]
  exact k1
/-- bitTo -/
theorem pop_2 : ∀ k, k < 8 → pop (2 ^ k) = 1 ∧ lowN 31 (2 ^ k) = k := by decide +kernel
theorem nx_to {N w g : Nat} (hN : N ≤ 8) (hw : w < 2 ^ N) (hg : g < 2 ^ N) : nxI (fun k => decide (w ^^^ 2 ^ k = g)) N 0 = if pop (w ^^^ g) = 1 then ((lowN 31 (w ^^^ g) : Nat) : Int) else -1 := by
  have h8 := pow8 hN
  have hx := Nat.xor_lt_two_pow hw hg
  have sw : ∀ k, w ^^^ 2 ^ k = g → w ^^^ g = 2 ^ k := fun k e => by rw [← e, ← Nat.xor_assoc, Nat.xor_self, Nat.zero_xor]
  have sw2 : ∀ k, w ^^^ g = 2 ^ k → w ^^^ 2 ^ k = g := fun k e => by rw [← e, ← Nat.xor_assoc, Nat.xor_self, Nat.zero_xor]
  by_cases z : pop (w ^^^ g) = 1
  · rw [if_pos z]
    obtain ⟨x0, x1⟩ := popo (by omega) z
    have xl := low_N hN hx z
    rcases nxI_c (f := fun k => decide (w ^^^ 2 ^ k = g)) N 0 with q | ⟨j, j1, j2, j3, j4⟩
    · exfalso
      have hn : ∀ (m k : Nat), nxI (fun k => decide (w ^^^ 2 ^ k = g)) m k = -1 → ∀ j, k ≤ j → j < k + m → w ^^^ 2 ^ j ≠ g := by
        intro m
        induction m with
        | zero => intro k _ j h1 h2; omega
        | succ m ih =>
          intro k hk j h1 h2 e
          have hk : (if decide (w ^^^ 2 ^ k = g) = true then (k : Int) else nxI (fun k => decide (w ^^^ 2 ^ k = g)) m (k + 1)) = -1 := hk
          by_cases zz : w ^^^ 2 ^ k = g
          · rw [decide_eq_true zz, if_pos rfl] at hk; omega
          · rw [decide_eq_false zz, if_neg (by decide)] at hk
            by_cases zj : j = k
            · rw [zj] at e; exact zz e
            · exact ih (k + 1) hk j (by omega) (by omega) e
      exact hn N 0 q (lowN 31 (w ^^^ g)) (Nat.zero_le _) (by omega) (sw2 _ x1)
    · rw [j1]
      have e := sw j (of_decide_eq_true j4)
      have := (pop_2 j (by omega)).2
      rw [← e] at this
      rw [this]
  · rw [if_neg z]
    refine nxI_n _ _ (fun j h1 h2 => decide_eq_false (fun q => z ?_))
    rw [sw j q]
    exact (pop_2 j (by omega)).1
theorem s141 {d : Nat} (h : 2 ≤ d) {σ : HP} {P : LB} (hb : blr σ 43 P) (hw : wf0 P) {g : Nat} (hg : g < 2 ^ lN0 P) : clR PG0 MX d 141 [vR 43, vI g] σ = some (nxI (fun k => decide (wd P (lT P).length ^^^ 2 ^ k = g)) (lN0 P) 0, σ) := by
  obtain ⟨d, rfl⟩ := ob1 (show 1 ≤ d by omega)
  obtain ⟨⟨m1, m2, m3, m4, m5, m6, m7, m8, m9⟩, f3, f4, f5, f6, fs, fw⟩ := id hb
  have h9 := hw.1
  have hp8 := pow8 hw.1
  have q1 := wd_lt hw (lT P).length
  have hx := Nat.xor_lt_two_pow q1 hg
  rw [nx_to h9 q1 hg, ce_141, sg_141_0]
  repeat (first | ((with_reducible refine step_t ?_ ?_); with_reducible exact True.intro) | ((with_reducible refine step_t ?_ ?_); omega) | ((with_reducible refine step_f ?_ ?_); omega))
  refine step_c (s112 (by omega) hb hw) ?_
  try dsimp only
  rw [i_xor_n (a := wd P (lT P).length) (b := g) (by omega) (by omega)]
  refine step_c (s50 (by omega) σ (n := wd P (lT P).length ^^^ g) (by omega)) ?_
  try dsimp only
  have p8 := pop_le (wd P (lT P).length ^^^ g) (by omega)
  by_cases z : pop (wd P (lT P).length ^^^ g) = 1
  · rw [if_pos z]
    obtain ⟨x0, x1⟩ := popo (by omega) z
    (try simp (disch := omega) only [wr_id2])
    repeat (first | ((with_reducible refine step_t ?_ ?_); with_reducible exact True.intro) | ((with_reducible refine step_t ?_ ?_); omega) | ((with_reducible refine step_f ?_ ?_); omega))
    refine step_c (s101 (by omega) σ x0 (by omega)) ?_
    try dsimp only
  · rw [if_neg z]
    (try simp (disch := omega) only [wr_id2])
    repeat (first | ((with_reducible refine step_t ?_ ?_); with_reducible exact True.intro) | ((with_reducible refine step_t ?_ ?_); omega) | ((with_reducible refine step_f ?_ ?_); omega))
    rfl
