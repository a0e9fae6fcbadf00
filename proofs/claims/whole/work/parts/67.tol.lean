/-! READING A TEXT: what is read -/
def tv (T : List Nat) (i : Nat) : Nat := T[i]?.getD 0
def blkB (v : Nat) : Bool := decide (v = 32) || decide (v = 10)
def kdN (v : Nat) : Nat := if 97 ≤ v ∧ v ≤ 122 then 1 else if 48 ≤ v ∧ v ≤ 57 then 2 else 3
def skp (T : List Nat) : Nat → Nat → Nat
  | 0, p => p
  | m + 1, p => if blkB (tv T p) = true then skp T m (p + 1) else p
def ext (T : List Nat) (k : Nat) : Nat → Nat → Nat
  | 0, p => p
  | m + 1, p => if kdN (tv T p) = k then ext T k m (p + 1) else p
def tkF (T : List Nat) (p : Nat) : Nat := skp T (T.length - p) p
def tkK (T : List Nat) (p : Nat) : Nat := if tkF T p < T.length then kdN (tv T (tkF T p)) else 0
def tkE (T : List Nat) (p : Nat) : Nat := if tkF T p < T.length then (if tkK T p = 3 then tkF T p + 1 else ext T (tkK T p) (T.length - (tkF T p + 1)) (tkF T p + 1)) else tkF T p
/-- fault, its place, kind of token, from, to -/
abbrev RD : Type := Nat × Int × Nat × Nat × Nat
abbrev rK (r : RD) : Nat := r.1
abbrev rP (r : RD) : Int := r.2.1
abbrev rD (r : RD) : Nat := r.2.2.1
abbrev rF (r : RD) : Nat := r.2.2.2.1
abbrev rT (r : RD) : Nat := r.2.2.2.2
def rdAdv (T : List Nat) (r : RD) : RD := (rK r, rP r, tkK T (rT r), tkF T (rT r), tkE T (rT r))
def rdBl (k : Nat) (p : Int) (r : RD) : RD := (k, p, rD r, rF r, rT r)
def isL (T t : List Nat) (r : RD) : Bool := decide (rD r = 1) && decide (rT r - rF r = t.length) && allF (fun i => decide (tv T (rF r + i) = t[i]?.getD 0)) t.length 0
def rdL (T t : List Nat) (r : RD) : RD := if rK r ≠ 0 then r else if isL T t r = true then rdAdv T r else rdBl 1 (rF r : Nat) r
def vlR (T : List Nat) : Nat → Nat → Nat → Nat
  | 0, _, a => a
  | m + 1, p, a => vlR T m (p + 1) (min 1000 (10 * a + (tv T p - 48)))
def rdV (T : List Nat) (r : RD) : Nat := vlR T (rT r - rF r) (rF r) 0
def rdN (T : List Nat) (lo hi : Nat) (r : RD) : Nat × RD := if rK r ≠ 0 then (lo, r) else if rD r ≠ 2 then (lo, rdBl 1 (rF r : Nat) r) else if lo ≤ rdV T r ∧ rdV T r ≤ hi then (rdV T r, rdAdv T r) else (lo, rdBl 2 (rF r : Nat) r)
def rdS (T : List Nat) (c : Nat) (r : RD) : RD := if rK r ≠ 0 then r else if rD r = 3 ∧ tv T (rF r) = c then rdAdv T r else rdBl 1 (rF r : Nat) r
def rbF (T : List Nat) (N : Nat) : Nat → Nat → List Nat → RD → List Nat × RD
  | 0, _, l, r => (l, r)
  | m + 1, p, l, r => if N ≤ tv T p - 48 then (l, rdBl 3 (p : Nat) r) else if 256 ≤ l.length then (l, rdBl 4 (p : Nat) r) else rbF T N m (p + 1) (l ++ [tv T p - 48]) r
def rdB (T : List Nat) (N : Nat) (r : RD) : List Nat × RD := if rD r = 2 then ((rbF T N (rT r - rF r) (rF r) [] r).1, if rK (rbF T N (rT r - rF r) (rF r) [] r).2 = 0 then rdAdv T (rbF T N (rT r - rF r) (rF r) [] r).2 else (rbF T N (rT r - rF r) (rF r) [] r).2) else ([], r)
/-- what holds of a token -/
def rdOk (T : List Nat) (r : RD) : Prop := rF r ≤ rT r ∧ rT r ≤ T.length ∧ (rD r = 2 → ∀ j, rF r ≤ j → j < rT r → 48 ≤ tv T j ∧ tv T j ≤ 57) ∧ (rD r = 3 → rF r < T.length) ∧ rD r ≤ 3 ∧ rK r ≤ 4
theorem kd_12 {v : Nat} : kdN v = 1 ∨ kdN v = 2 ∨ kdN v = 3 := by
  unfold kdN
  by_cases z : 97 ≤ v ∧ v ≤ 122
  · rw [if_pos z]; exact Or.inl rfl
  · rw [if_neg z]
    by_cases z2 : 48 ≤ v ∧ v ≤ 57
    · rw [if_pos z2]; exact Or.inr (Or.inl rfl)
    · rw [if_neg z2]; exact Or.inr (Or.inr rfl)
theorem kd_2 {v : Nat} (h : kdN v = 2) : 48 ≤ v ∧ v ≤ 57 := by
  unfold kdN at h
  by_cases z : 97 ≤ v ∧ v ≤ 122
  · rw [if_pos z] at h; omega
  · rw [if_neg z] at h
    by_cases z2 : 48 ≤ v ∧ v ≤ 57
    · exact z2
    · rw [if_neg z2] at h; omega
theorem skp_b (T : List Nat) : ∀ m p, p ≤ skp T m p ∧ skp T m p ≤ p + m := by
  intro m
  induction m with
  | zero => intro p; exact ⟨Nat.le_refl _, Nat.le_refl _⟩
  | succ m ih =>
    intro p
    unfold skp
    by_cases z : blkB (tv T p) = true
    · rw [if_pos z]; have := ih (p + 1); omega
    · rw [if_neg z]; omega
theorem ext_b (T : List Nat) (k : Nat) : ∀ m p, p ≤ ext T k m p ∧ ext T k m p ≤ p + m ∧ ∀ j, p ≤ j → j < ext T k m p → kdN (tv T j) = k := by
  intro m
  induction m with
  | zero => intro p; exact ⟨Nat.le_refl _, Nat.le_refl _, fun j h1 h2 => by have h2 : j < p := h2; omega⟩
  | succ m ih =>
    intro p
    unfold ext
    by_cases z : kdN (tv T p) = k
    · rw [if_pos z]
      obtain ⟨h1, h2, h3⟩ := ih (p + 1)
      refine ⟨by omega, by omega, fun j a b => ?_⟩
      by_cases e : j = p
      · rw [e]; exact z
      · exact h3 j (by omega) b
    · rw [if_neg z]; exact ⟨Nat.le_refl _, by omega, fun j a b => by omega⟩
theorem adv_ok {T : List Nat} {r : RD} (h : rdOk T r) : rdOk T (rdAdv T r) := by
  obtain ⟨h1, h2, -, -, -, h6⟩ := h
  have b := skp_b T (T.length - rT r) (rT r)
  have b : rT r ≤ tkF T (rT r) ∧ tkF T (rT r) ≤ rT r + (T.length - rT r) := b
  have key : tkF T (rT r) ≤ tkE T (rT r) ∧ tkE T (rT r) ≤ T.length ∧ (tkK T (rT r) = 2 → ∀ j, tkF T (rT r) ≤ j → j < tkE T (rT r) → 48 ≤ tv T j ∧ tv T j ≤ 57) ∧ (tkK T (rT r) = 3 → tkF T (rT r) < T.length) ∧ tkK T (rT r) ≤ 3 := by
    by_cases z : tkF T (rT r) < T.length
    · have ek : tkK T (rT r) = kdN (tv T (tkF T (rT r))) := by unfold tkK; rw [if_pos z]
      have k12 := kd_12 (v := tv T (tkF T (rT r)))
      by_cases z3 : tkK T (rT r) = 3
      · have ee : tkE T (rT r) = tkF T (rT r) + 1 := by unfold tkE; rw [if_pos z, if_pos z3]
        exact ⟨by omega, by omega, fun q => by omega, fun _ => z, by omega⟩
      · have ee : tkE T (rT r) = ext T (tkK T (rT r)) (T.length - (tkF T (rT r) + 1)) (tkF T (rT r) + 1) := by unfold tkE; rw [if_pos z, if_neg z3]
        obtain ⟨e1, e2, e3⟩ := ext_b T (tkK T (rT r)) (T.length - (tkF T (rT r) + 1)) (tkF T (rT r) + 1)
        rw [← ee] at e1 e2 e3
        refine ⟨by omega, by omega, fun q j a b => ?_, fun q => z, by omega⟩
        by_cases e : j = tkF T (rT r)
        · rw [e]; exact kd_2 (by omega)
        · exact kd_2 (by rw [e3 j (by omega) b]; exact q)
    · have ek : tkK T (rT r) = 0 := by unfold tkK; rw [if_neg z]
      have ee : tkE T (rT r) = tkF T (rT r) := by unfold tkE; rw [if_neg z]
      exact ⟨by omega, by omega, fun q => by omega, fun q => by omega, by omega⟩
  exact ⟨key.1, key.2.1, key.2.2.1, key.2.2.2.1, key.2.2.2.2, h6⟩
theorem bl_ok {T : List Nat} {r : RD} (h : rdOk T r) {k : Nat} (hk : k ≤ 4) (p : Int) : rdOk T (rdBl k p r) := ⟨h.1, h.2.1, h.2.2.1, h.2.2.2.1, h.2.2.2.2.1, hk⟩
theorem rdL_ok {T t : List Nat} {r : RD} (h : rdOk T r) : rdOk T (rdL T t r) := by
  unfold rdL
  by_cases z : rK r ≠ 0
  · rw [if_pos z]; exact h
  · rw [if_neg z]
    by_cases z2 : isL T t r = true
    · rw [if_pos z2]; exact adv_ok h
    · rw [if_neg z2]; exact bl_ok h (by omega) _
theorem rdN_ok {T : List Nat} {lo hi : Nat} {r : RD} (h : rdOk T r) : rdOk T (rdN T lo hi r).2 := by
  unfold rdN
  by_cases z : rK r ≠ 0
  · rw [if_pos z]; exact h
  · rw [if_neg z]
    by_cases z2 : rD r ≠ 2
    · rw [if_pos z2]; exact bl_ok h (by omega) _
    · rw [if_neg z2]
      by_cases z3 : lo ≤ rdV T r ∧ rdV T r ≤ hi
      · rw [if_pos z3]; exact adv_ok h
      · rw [if_neg z3]; exact bl_ok h (by omega) _
theorem rdN_b {T : List Nat} {lo hi : Nat} (hl : lo ≤ hi) (r : RD) : lo ≤ (rdN T lo hi r).1 ∧ (rdN T lo hi r).1 ≤ hi := by
  unfold rdN
  by_cases z : rK r ≠ 0
  · rw [if_pos z]; exact ⟨Nat.le_refl _, hl⟩
  · rw [if_neg z]
    by_cases z2 : rD r ≠ 2
    · rw [if_pos z2]; exact ⟨Nat.le_refl _, hl⟩
    · rw [if_neg z2]
      by_cases z3 : lo ≤ rdV T r ∧ rdV T r ≤ hi
      · rw [if_pos z3]; exact z3
      · rw [if_neg z3]; exact ⟨Nat.le_refl _, hl⟩
theorem rdS_ok {T : List Nat} {c : Nat} {r : RD} (h : rdOk T r) : rdOk T (rdS T c r) := by
  unfold rdS
  by_cases z : rK r ≠ 0
  · rw [if_pos z]; exact h
  · rw [if_neg z]
    by_cases z2 : rD r = 3 ∧ tv T (rF r) = c
    · rw [if_pos z2]; exact adv_ok h
    · rw [if_neg z2]; exact bl_ok h (by omega) _
theorem rbF_ok {T : List Nat} {N : Nat} : ∀ (m p : Nat) (l : List Nat) (r : RD), rdOk T r → l.length ≤ 256 → (∀ x ∈ l, x < N) → rdOk T (rbF T N m p l r).2 ∧ (rbF T N m p l r).1.length ≤ 256 ∧ ∀ x ∈ (rbF T N m p l r).1, x < N := by
  intro m
  induction m with
  | zero => intro p l r h h1 h2; exact ⟨h, h1, h2⟩
  | succ m ih =>
    intro p l r h h1 h2
    unfold rbF
    by_cases z : N ≤ tv T p - 48
    · rw [if_pos z]; exact ⟨bl_ok h (by omega) _, h1, h2⟩
    · rw [if_neg z]
      by_cases z2 : 256 ≤ l.length
      · rw [if_pos z2]; exact ⟨bl_ok h (by omega) _, h1, h2⟩
      · rw [if_neg z2]
        refine ih (p + 1) _ r h (by rw [List.length_append]; show l.length + 1 ≤ 256; omega) (fun x hx => ?_)
        rcases List.mem_append.mp hx with q | q
        · exact h2 x q
        · rw [List.mem_singleton.mp q]; omega
theorem rdB_ok {T : List Nat} {N : Nat} {r : RD} (h : rdOk T r) : rdOk T (rdB T N r).2 ∧ (rdB T N r).1.length ≤ 256 ∧ ∀ x ∈ (rdB T N r).1, x < N := by
  unfold rdB
  by_cases z : rD r = 2
  · rw [if_pos z]
    obtain ⟨a, b, c⟩ := rbF_ok (T := T) (N := N) (rT r - rF r) (rF r) [] r h (Nat.zero_le _) (fun x hx => by cases hx)
    refine ⟨?_, b, c⟩
    dsimp only
    by_cases z2 : rK (rbF T N (rT r - rF r) (rF r) [] r).2 = 0
    · rw [if_pos z2]; exact adv_ok a
    · rw [if_neg z2]; exact a
  · rw [if_neg z]; exact ⟨h, Nat.zero_le _, fun x hx => by cases hx⟩
theorem tv_at {T : List Nat} {i : Nat} (h : i < T.length) : T[i]? = some (tv T i) := by
  unfold tv
  rw [List.getElem?_eq_getElem h]
  rfl
/-! the class reads -/
def FR (σ0 σ : HP) : Prop := (∀ a j, a ≠ 79 → σ a j = σ0 a j) ∧ Lay σ
def RR (σ : HP) (r : RD) : Prop := σ 79 1 = rD r ∧ σ 79 2 = rF r ∧ σ 79 3 = rT r ∧ σ 79 4 = rK r ∧ σ 79 5 = rP r
def RW (σ0 σ : HP) (T : List Nat) (r : RD) : Prop := FR σ0 σ ∧ RR σ r ∧ byR σ 80 81 400 T ∧ rdOk T r
theorem okc_1 : layT.all (fun t => !(decide (t.1 = 79) && decide (t.2.1 = 1))) = true := by decide +kernel
theorem okc_2 : layT.all (fun t => !(decide (t.1 = 79) && decide (t.2.1 = 2))) = true := by decide +kernel
theorem okc_3 : layT.all (fun t => !(decide (t.1 = 79) && decide (t.2.1 = 3))) = true := by decide +kernel
theorem okc_4 : layT.all (fun t => !(decide (t.1 = 79) && decide (t.2.1 = 4))) = true := by decide +kernel
theorem okc_5 : layT.all (fun t => !(decide (t.1 = 79) && decide (t.2.1 = 5))) = true := by decide +kernel
theorem FR.upc {σ0 σ : HP} (h : FR σ0 σ) {j v : Int} (hj : layT.all (fun t => !(decide (t.1 = 79) && decide (t.2.1 = j))) = true) : FR σ0 (up σ 79 j v) := ⟨fun a k h1 => by rw [up_n1 _ _ _ _ h1]; exact h.1 a k h1, h.2.upf hj (by omega)⟩
theorem byT_up {σ : HP} {T : List Nat} (h : byR σ 80 81 400 T) (j v : Int) : byR (up σ 79 j v) 80 81 400 T := byR_same h (fun _ => up_n1 _ _ _ _ (by omega)) (fun _ => up_n1 _ _ _ _ (by omega))
theorem s19t {d : Nat} (h : 1 ≤ d) {σ : HP} (hy : Lay σ) {T : List Nat} (hT : byR σ 80 81 400 T) {p : Nat} (hp : p < T.length) : clR PG0 MX d 19 [vR 80, vI p] σ = some (((tv T p : Nat) : Int), σ) ∧ tv T p < 256 := by
  have hl := hT.2.1
  have e := s19 (d := d) h (ym_80 hy) hT (by omega) (x := (p : Int)) (i32_n (by omega))
  rw [if_pos (by omega), show ((p : Int)).toNat = p from rfl, tv_at hp] at e
  exact ⟨e, (hT.2.2 p _ (tv_at hp)).1⟩
theorem s20 {d : Nat} (h : 1 ≤ d) (σ : HP) {v : Nat} (hv : v < 256) : clR PG0 MX d 20 [vI v] σ = some (b2i (blkB v), σ) := by
  obtain ⟨d, rfl⟩ := ob1 (show 1 ≤ d by omega)
  rw [ce_20, sg_20_0]
  (try simp (disch := omega) only [wr_id2])
  unfold blkB
  refine step_i (fun g => ?_) (fun g => ?_)
  · rw [decide_eq_true (show v = 32 by omega)]; rfl
  · rw [decide_eq_false (show ¬ v = 32 by omega), Bool.false_or]
    refine step_i (fun g2 => ?_) (fun g2 => ?_)
    · rw [decide_eq_false (by omega)]; rfl
    · rw [decide_eq_true (by omega)]; rfl
theorem s21 {d : Nat} (h : 1 ≤ d) (σ : HP) {v : Nat} (hv : v < 256) : clR PG0 MX d 21 [vI v] σ = some (((kdN v : Nat) : Int), σ) := by
  obtain ⟨d, rfl⟩ := ob1 (show 1 ≤ d by omega)
  rw [ce_21, sg_21_0]
  have e : ¬ (97 ≤ v ∧ v ≤ 122) → rsP PG0 MX d 21 14 [vI v] [] σ = some (((kdN v : Nat) : Int), σ) := by
    intro z
    unfold kdN
    rw [if_neg z, sg_21_14]
    (try simp (disch := omega) only [wr_id2])
    refine step_i (fun g => ?_) (fun g => ?_)
    · rw [if_neg (by omega)]; rfl
    · refine step_i (fun g2 => ?_) (fun g2 => ?_)
      · rw [if_neg (by omega)]; rfl
      · rw [if_pos (by omega)]; rfl
  (try simp (disch := omega) only [wr_id2])
  refine step_i (fun g => ?_) (fun g => ?_)
  · exact e (by omega)
  · refine step_i (fun g2 => ?_) (fun g2 => ?_)
    · exact e (by omega)
    · unfold kdN
      rw [if_pos (by omega)]; rfl
/-- advance -/
theorem s18a {d : Nat} (h : 1 ≤ d) {σ0 : HP} {T : List Nat} : ∀ (m p : Nat) (σ : HP), p + m = T.length → FR σ0 σ → byR σ 80 81 400 T → σ 79 2 = p → ∃ σ', rsP PG0 MX d 18 8 [vR 79] [] σ = rsP PG0 MX d 18 52 [vR 79] [] σ' ∧ FR σ0 σ' ∧ byR σ' 80 81 400 T ∧ σ' 79 2 = (skp T m p : Nat) ∧ σ' 79 4 = σ 79 4 ∧ σ' 79 5 = σ 79 5 := by
  intro m
  induction m with
  | zero =>
    intro p σ hp hF hT h2
    have hy := hF.2
    have y1 := hy.1
    have a1 := y79_m1 hy
    have a2 := y79_0 hy
    have a3 := y80_m1 hy
    have l1 := hT.1
    have l2 := hT.2.1
    refine ⟨σ, ?_, hF, hT, h2, rfl, rfl⟩
    rw [sg_18_8]
    (try simp (disch := omega) only [a2, l1, h2, wr_id2])
    repeat (first | ((with_reducible refine step_t ?_ ?_); with_reducible exact True.intro) | ((with_reducible refine step_t ?_ ?_); omega) | ((with_reducible refine step_f ?_ ?_); omega))
    rfl
  | succ m ih =>
    intro p σ hp hF hT h2
    have hy := hF.2
    have y1 := hy.1
    have a1 := y79_m1 hy
    have a2 := y79_0 hy
    have a3 := y80_m1 hy
    have l1 := hT.1
    have l2 := hT.2.1
    obtain ⟨e19, hv⟩ := s19t (d := d) h hy hT (p := p) (by omega)
    unfold skp
    cases hb : blkB (tv T p) with
    | false =>
      rw [if_neg (by decide)]
      refine ⟨σ, ?_, hF, hT, h2, rfl, rfl⟩
      rw [sg_18_8]
      (try simp (disch := omega) only [a2, l1, h2, wr_id2])
      repeat (first | ((with_reducible refine step_t ?_ ?_); with_reducible exact True.intro) | ((with_reducible refine step_t ?_ ?_); omega) | ((with_reducible refine step_f ?_ ?_); omega))
      refine step_c (e19) ?_
      try dsimp only
      refine step_c (s20 h σ hv) ?_
      try dsimp only
      rw [hb, wr_b2i]
      refine step_t (show b2i false = 0 by decide) ?_
      rfl
    | true =>
      rw [if_pos rfl]
      obtain ⟨σ', k1, k2, k3, k4, k5, k6⟩ := ih (p + 1) (up σ 79 2 ((p : Int) + 1)) (by omega) (hF.upc okc_2) (byT_up hT _ _) (by rw [up_s]; omega)
      refine ⟨σ', ?_, k2, k3, k4, by rw [k5, up_n2 _ _ _ _ (by omega)], by rw [k6, up_n2 _ _ _ _ (by omega)]⟩
      rw [sg_18_8]
      (try simp (disch := omega) only [a2, l1, h2, wr_id2])
      repeat (first | ((with_reducible refine step_t ?_ ?_); with_reducible exact True.intro) | ((with_reducible refine step_t ?_ ?_); omega) | ((with_reducible refine step_f ?_ ?_); omega))
      refine step_c (e19) ?_
      try dsimp only
      refine step_c (s20 h σ hv) ?_
      try dsimp only
      rw [hb, wr_b2i]
      refine step_f (show ¬ (b2i true = 0) by decide) ?_
      (try simp (disch := omega) only [h2, wr_id2])
      repeat (first | ((with_reducible refine step_t ?_ ?_); with_reducible exact True.intro) | ((with_reducible refine step_t ?_ ?_); omega) | ((with_reducible refine step_f ?_ ?_); omega))
      exact k1
theorem s18b {d : Nat} (h : 1 ≤ d) {σ0 : HP} {T : List Nat} {k : Nat} (hk : k = 1 ∨ k = 2) : ∀ (m p : Nat) (σ : HP), p + m = T.length → FR σ0 σ → byR σ 80 81 400 T → σ 79 1 = k → σ 79 3 = p → ∃ σ', rsP PG0 MX d 18 108 [vR 79] [] σ = some (0, σ') ∧ FR σ0 σ' ∧ byR σ' 80 81 400 T ∧ σ' 79 3 = (ext T k m p : Nat) ∧ σ' 79 1 = σ 79 1 ∧ σ' 79 2 = σ 79 2 ∧ σ' 79 4 = σ 79 4 ∧ σ' 79 5 = σ 79 5 := by
  intro m
  induction m with
  | zero =>
    intro p σ hp hF hT h1 h3
    have hy := hF.2
    have y1 := hy.1
    have a1 := y79_m1 hy
    have a2 := y79_0 hy
    have a3 := y80_m1 hy
    have l1 := hT.1
    have l2 := hT.2.1
    refine ⟨σ, ?_, hF, hT, h3, rfl, rfl, rfl, rfl⟩
    rw [sg_18_108]
    (try simp (disch := omega) only [a2, l1, h1, h3, wr_id2])
    repeat (first | ((with_reducible refine step_t ?_ ?_); with_reducible exact True.intro) | ((with_reducible refine step_t ?_ ?_); omega) | ((with_reducible refine step_f ?_ ?_); omega))
    rfl
  | succ m ih =>
    intro p σ hp hF hT h1 h3
    have hy := hF.2
    have y1 := hy.1
    have a1 := y79_m1 hy
    have a2 := y79_0 hy
    have a3 := y80_m1 hy
    have l1 := hT.1
    have l2 := hT.2.1
    obtain ⟨e19, hv⟩ := s19t (d := d) h hy hT (p := p) (by omega)
    have k3 := kd_12 (v := tv T p)
    unfold ext
    by_cases z : kdN (tv T p) = k
    · rw [if_pos z]
      obtain ⟨σ', k1, k2, k3, k4, k5, k6, k7, k8⟩ := ih (p + 1) (up σ 79 3 ((p : Int) + 1)) (by omega) (hF.upc okc_3) (byT_up hT _ _) (by rw [up_n2 _ _ _ _ (by omega)]; exact h1) (by rw [up_s]; omega)
      refine ⟨σ', ?_, k2, k3, k4, by rw [k5, up_n2 _ _ _ _ (by omega)], by rw [k6, up_n2 _ _ _ _ (by omega)], by rw [k7, up_n2 _ _ _ _ (by omega)], by rw [k8, up_n2 _ _ _ _ (by omega)]⟩
      rw [sg_18_108]
      (try simp (disch := omega) only [a2, l1, h1, h3, wr_id2])
      repeat (first | ((with_reducible refine step_t ?_ ?_); with_reducible exact True.intro) | ((with_reducible refine step_t ?_ ?_); omega) | ((with_reducible refine step_f ?_ ?_); omega))
      refine step_c (e19) ?_
      try dsimp only
      refine step_c (s21 h σ hv) ?_
      try dsimp only
      (try simp (disch := omega) only [h1, h3, wr_id2])
      repeat (first | ((with_reducible refine step_t ?_ ?_); with_reducible exact True.intro) | ((with_reducible refine step_t ?_ ?_); omega) | ((with_reducible refine step_f ?_ ?_); omega))
      exact k1
    · rw [if_neg z]
      refine ⟨σ, ?_, hF, hT, h3, rfl, rfl, rfl, rfl⟩
      rw [sg_18_108]
      (try simp (disch := omega) only [a2, l1, h1, h3, wr_id2])
      repeat (first | ((with_reducible refine step_t ?_ ?_); with_reducible exact True.intro) | ((with_reducible refine step_t ?_ ?_); omega) | ((with_reducible refine step_f ?_ ?_); omega))
      refine step_c (e19) ?_
      try dsimp only
      refine step_c (s21 h σ hv) ?_
      try dsimp only
      (try simp (disch := omega) only [h1, h3, wr_id2])
      repeat (first | ((with_reducible refine step_t ?_ ?_); with_reducible exact True.intro) | ((with_reducible refine step_t ?_ ?_); omega) | ((with_reducible refine step_f ?_ ?_); omega))
      rfl
theorem s18x {d : Nat} (h : 2 ≤ d) {σ0 σ : HP} {T : List Nat} {r : RD} (hF : FR σ0 σ) (r3 : σ 79 3 = rT r) (r4 : σ 79 4 = rK r) (r5 : σ 79 5 = rP r) (hT : byR σ 80 81 400 T) (hok : rdOk T r) : ∃ σ', clR PG0 MX d 18 [vR 79] σ = some (0, σ') ∧ RW σ0 σ' T (rdAdv T r) := by
  obtain ⟨d, rfl⟩ := ob1 (show 1 ≤ d by omega)
  have hy := hF.2
  have y1 := hy.1
  have a1 := y79_m1 hy
  have o2 := hok.2.1
  obtain ⟨σ1, k1, k2, k3, k4, k5, k6⟩ := s18a (d := d) (by omega) (T := T) (T.length - rT r) (rT r) (up σ 79 2 (rT r : Nat)) (by omega) (hF.upc okc_2) (byT_up hT _ _) (up_s _ _ _ _)
  rw [up_n2 _ _ _ _ (by omega), r4] at k5
  rw [up_n2 _ _ _ _ (by omega), r5] at k6
  have k4 : σ1 79 2 = (tkF T (rT r) : Nat) := k4
  have hy1 := k2.2
  have b1 := hy1.1
  have b2 := y79_m1 hy1
  have b3 := y79_0 hy1
  have b4 := y80_m1 hy1
  have l1 := k3.1
  have l2 := k3.2.1
  have aok := adv_ok hok
  have bF := skp_b T (T.length - rT r) (rT r)
  have bF : rT r ≤ tkF T (rT r) ∧ tkF T (rT r) ≤ rT r + (T.length - rT r) := bF
  have hF2 : FR σ0 (up σ1 79 3 (tkF T (rT r) : Nat)) := k2.upc okc_3
  have hy2 := hF2.2
  have c1 := hy2.1
  have c2 := y79_m1 hy2
  have c3 := y79_0 hy2
  have c4 := y80_m1 hy2
  have hT2 := byT_up k3 3 (tkF T (rT r) : Nat)
  have e2 : (up σ1 79 3 (tkF T (rT r) : Nat)) 79 2 = (tkF T (rT r) : Nat) := by rw [up_n2 _ _ _ _ (by omega)]; exact k4
  have e3 := hT2.1
  have start : ∀ X, rsP PG0 MX d 18 52 [vR 79] [] σ1 = X → clR PG0 MX (d + 1) 18 [vR 79] σ = X := by
    intro X hX
    rw [ce_18, sg_18_0]
    (try simp (disch := omega) only [r3, wr_id2])
    repeat (first | ((with_reducible refine step_t ?_ ?_); with_reducible exact True.intro) | ((with_reducible refine step_t ?_ ?_); omega) | ((with_reducible refine step_f ?_ ?_); omega))
    exact k1.trans hX
  by_cases z : tkF T (rT r) < T.length
  · obtain ⟨e19, hv⟩ := s19t (d := d) (by omega) hy2 hT2 z
    have ek : tkK T (rT r) = kdN (tv T (tkF T (rT r))) := by unfold tkK; rw [if_pos z]
    have k12 := kd_12 (v := tv T (tkF T (rT r)))
    have hF3 : FR σ0 (up (up σ1 79 3 (tkF T (rT r) : Nat)) 79 1 (tkK T (rT r) : Nat)) := hF2.upc okc_1
    have hF4 : FR σ0 (up (up (up σ1 79 3 (tkF T (rT r) : Nat)) 79 1 (tkK T (rT r) : Nat)) 79 3 ((tkF T (rT r) : Nat) + 1)) := hF3.upc okc_3
    have hy3 := hF3.2
    have d1 := hy3.1
    have d2 := y79_m1 hy3
    have hT4 := byT_up (byT_up hT2 1 (tkK T (rT r) : Nat)) 3 ((tkF T (rT r) : Nat) + 1)
    have f3 : (up (up σ1 79 3 (tkF T (rT r) : Nat)) 79 1 (tkK T (rT r) : Nat)) 79 3 = (tkF T (rT r) : Nat) := by rw [up_n2 _ _ _ _ (by omega), up_s]
    have g1 : (up (up (up σ1 79 3 (tkF T (rT r) : Nat)) 79 1 (tkK T (rT r) : Nat)) 79 3 ((tkF T (rT r) : Nat) + 1)) 79 1 = (tkK T (rT r) : Nat) := by rw [up_n2 _ _ _ _ (by omega), up_s]
    have g2 : (up (up (up σ1 79 3 (tkF T (rT r) : Nat)) 79 1 (tkK T (rT r) : Nat)) 79 3 ((tkF T (rT r) : Nat) + 1)) 79 2 = (tkF T (rT r) : Nat) := by rw [up_n2 _ _ _ _ (by omega), up_n2 _ _ _ _ (by omega)]; exact e2
    have g4 : (up (up (up σ1 79 3 (tkF T (rT r) : Nat)) 79 1 (tkK T (rT r) : Nat)) 79 3 ((tkF T (rT r) : Nat) + 1)) 79 4 = rK r := by rw [up_n2 _ _ _ _ (by omega), up_n2 _ _ _ _ (by omega), up_n2 _ _ _ _ (by omega)]; exact k5
    have g5 : (up (up (up σ1 79 3 (tkF T (rT r) : Nat)) 79 1 (tkK T (rT r) : Nat)) 79 3 ((tkF T (rT r) : Nat) + 1)) 79 5 = rP r := by rw [up_n2 _ _ _ _ (by omega), up_n2 _ _ _ _ (by omega), up_n2 _ _ _ _ (by omega)]; exact k6
    have s52 : ∀ X, rsP PG0 MX d 18 108 [vR 79] [] (up (up (up σ1 79 3 (tkF T (rT r) : Nat)) 79 1 (tkK T (rT r) : Nat)) 79 3 ((tkF T (rT r) : Nat) + 1)) = X → rsP PG0 MX d 18 52 [vR 79] [] σ1 = X := by
      intro X hX
      rw [sg_18_52]
      (try simp (disch := omega) only [k4, e2, c3, e3, wr_id2])
      repeat (first | ((with_reducible refine step_t ?_ ?_); with_reducible exact True.intro) | ((with_reducible refine step_t ?_ ?_); omega) | ((with_reducible refine step_f ?_ ?_); omega))
      refine step_c (e19) ?_
      try dsimp only
      refine step_c (s21 (by omega) _ hv) ?_
      try dsimp only
      rw [← ek]
      (try simp (disch := omega) only [f3, wr_id2])
      repeat (first | ((with_reducible refine step_t ?_ ?_); with_reducible exact True.intro) | ((with_reducible refine step_t ?_ ?_); omega) | ((with_reducible refine step_f ?_ ?_); omega))
      exact hX
    by_cases z3 : tkK T (rT r) = 3
    · have ee : tkE T (rT r) = tkF T (rT r) + 1 := by unfold tkE; rw [if_pos z, if_pos z3]
      refine ⟨_, start _ (s52 _ ?_), hF4, ⟨g1, g2, ?_, g4, g5⟩, hT4, aok⟩
      · have hy4 := hF4.2
        have h1 := hy4.1
        have h2 := y79_m1 hy4
        rw [sg_18_108, g1]
        refine step_t (by omega) ?_
        refine step_t (by rw [z3]; decide) ?_
        rfl
      · show _ = ((tkE T (rT r) : Nat) : Int)
        rw [up_s, ee]
        rfl
    · have ee : tkE T (rT r) = ext T (tkK T (rT r)) (T.length - (tkF T (rT r) + 1)) (tkF T (rT r) + 1) := by unfold tkE; rw [if_pos z, if_neg z3]
      obtain ⟨σ5, j1, j2, j3, j4, j5, j6, j7, j8⟩ := s18b (d := d) (by omega) (T := T) (k := tkK T (rT r)) (by omega) (T.length - (tkF T (rT r) + 1)) (tkF T (rT r) + 1) _ (by omega) hF4 hT4 g1 (by rw [up_s]; omega)
      exact ⟨σ5, start _ (s52 _ j1), j2, ⟨by rw [j5]; exact g1, by rw [j6]; exact g2, by rw [j4, ← ee]; rfl, by rw [j7]; exact g4, by rw [j8]; exact g5⟩, j3, aok⟩
  · have ek : tkK T (rT r) = 0 := by unfold tkK; rw [if_neg z]
    have ee : tkE T (rT r) = tkF T (rT r) := by unfold tkE; rw [if_neg z]
    have hF3 : FR σ0 (up (up σ1 79 3 (tkF T (rT r) : Nat)) 79 1 0) := hF2.upc okc_1
    refine ⟨_, start _ ?_, hF3, ⟨?_, ?_, ?_, ?_, ?_⟩, byT_up hT2 _ _, aok⟩
    · rw [sg_18_52]
      (try simp (disch := omega) only [k4, e2, c3, e3, wr_id2])
      repeat (first | ((with_reducible refine step_t ?_ ?_); with_reducible exact True.intro) | ((with_reducible refine step_t ?_ ?_); omega) | ((with_reducible refine step_f ?_ ?_); omega))
      rfl
    · show _ = ((tkK T (rT r) : Nat) : Int)
      rw [up_s, ek]; rfl
    · rw [up_n2 _ _ _ _ (by omega)]; exact e2
    · show _ = ((tkE T (rT r) : Nat) : Int)
      rw [up_n2 _ _ _ _ (by omega), up_s, ee]
    · rw [up_n2 _ _ _ _ (by omega), up_n2 _ _ _ _ (by omega)]; exact k5
    · rw [up_n2 _ _ _ _ (by omega), up_n2 _ _ _ _ (by omega)]; exact k6
theorem s18 {d : Nat} (h : 2 ≤ d) {σ0 σ : HP} {T : List Nat} {r : RD} (hR : RW σ0 σ T r) : ∃ σ', clR PG0 MX d 18 [vR 79] σ = some (0, σ') ∧ RW σ0 σ' T (rdAdv T r) := s18x h hR.1 hR.2.1.2.2.1 hR.2.1.2.2.2.1 hR.2.1.2.2.2.2 hR.2.2.1 hR.2.2.2
/-- isLetters -/
theorem RW.lay {σ0 σ : HP} {T : List Nat} {r : RD} (h : RW σ0 σ T r) : Lay σ := h.1.2
theorem RW.txt {σ0 σ : HP} {T : List Nat} {r : RD} (h : RW σ0 σ T r) (ht : Txt σ0) : Txt σ := by
  intro i t e
  obtain ⟨q1, q2, q3⟩ := ht i t e
  have hg := ht.get e
  refine ⟨?_, ?_, fun j y hy => ?_⟩
  · rw [h.1.1 _ _ (by omega)]; exact q1
  · rw [h.1.1 _ _ (by omega)]; exact q2
  · rw [h.1.1 _ _ (by omega)]; exact q3 j y hy
theorem s24l {d : Nat} (h : 6 ≤ d) {σ0 σ : HP} {T : List Nat} {r : RD} (hR : RW σ0 σ T r) (ht : Txt σ) {i : Nat} {t : List Nat} (e : txC[i]? = some t) (hlen : rT r - rF r = t.length) : ∀ (m k : Nat), k + m = t.length → rsP PG0 MX d 24 28 [vR 79, vR (2 + i), vI k] [] σ = some (b2i (allF (fun j => decide (tv T (rF r + j) = t[j]?.getD 0)) m k), σ) := by
  obtain ⟨hF, ⟨r1, r2, r3, r4, r5⟩, hT, hok⟩ := id hR
  have hy := hF.2
  have y1 := hy.1
  have a1 := y79_m1 hy
  have a2 := y79_0 hy
  have a3 := y80_m1 hy
  have l2 := hT.2.1
  have o1 := hok.1
  have o2 := hok.2.1
  have hg := ht.get e
  obtain ⟨t1, t2, t3⟩ := ht i t e
  have ht10 : t.length ≤ 10 := by
    have : ∀ t ∈ txC, t.length ≤ 10 := by decide
    exact this t (List.mem_of_getElem? e)
  intro m
  induction m with
  | zero =>
    intro k hk
    rw [sg_24_28]
    repeat (first | ((with_reducible refine step_t ?_ ?_); with_reducible exact True.intro) | ((with_reducible refine step_t ?_ ?_); omega) | ((with_reducible refine step_f ?_ ?_); omega))
    refine step_c (p_len (by omega) σ hg) ?_
    try dsimp only
    (try simp (disch := omega) only [t2, wr_id2])
    repeat (first | ((with_reducible refine step_t ?_ ?_); with_reducible exact True.intro) | ((with_reducible refine step_t ?_ ?_); omega) | ((with_reducible refine step_f ?_ ?_); omega))
    rfl
  | succ m ih =>
    intro k hk
    obtain ⟨x, hx⟩ : ∃ x, t[k]? = some x := ⟨_, List.getElem?_eq_getElem (by omega)⟩
    have hx2 := tx_128 t (List.mem_of_getElem? e) x (List.mem_of_getElem? hx)
    have hv := t3 k x hx
    obtain ⟨e19, hv2⟩ := s19t (d := d) (by omega) hy hT (p := rF r + k) (by omega)
    rw [show ((rF r + k : Nat) : Int) = (rF r : Nat) + (k : Int) by omega] at e19
    have hq := p_chr (d := d) (by omega) σ (a := 2 + i) (i := k) ⟨hg.1, hg.2.1, hg.2.2, by rw [wrn (by omega)]; omega, by rw [wrn (by omega), t2]; omega⟩
    rw [wrn (by omega), hv] at hq
    rw [sg_24_28]
    repeat (first | ((with_reducible refine step_t ?_ ?_); with_reducible exact True.intro) | ((with_reducible refine step_t ?_ ?_); omega) | ((with_reducible refine step_f ?_ ?_); omega))
    refine step_c (p_len (by omega) σ hg) ?_
    try dsimp only
    (try simp (disch := omega) only [t2, a2, r2, wr_id2])
    repeat (first | ((with_reducible refine step_t ?_ ?_); with_reducible exact True.intro) | ((with_reducible refine step_t ?_ ?_); omega) | ((with_reducible refine step_f ?_ ?_); omega))
    refine step_c (e19) ?_
    try dsimp only
    repeat (first | ((with_reducible refine step_t ?_ ?_); with_reducible exact True.intro) | ((with_reducible refine step_t ?_ ?_); omega) | ((with_reducible refine step_f ?_ ?_); omega))
    refine step_c (hq) ?_
    try dsimp only
    (try simp (disch := omega) only [wr_id2])
    unfold allF
    rw [hx]
    refine step_i (fun g => ?_) (fun g => ?_)
    · rw [if_pos (decide_eq_true (show tv T (rF r + k) = (some x).getD 0 by show tv T (rF r + k) = x; omega))]
      exact ih (k + 1) (by omega)
    · rw [if_neg (show ¬ decide (tv T (rF r + k) = (some x).getD 0) = true by rw [decide_eq_true_iff]; show ¬ tv T (rF r + k) = x; omega)]
      rfl
theorem s24 {d : Nat} (h : 7 ≤ d) {σ0 σ : HP} {T : List Nat} {r : RD} (hR : RW σ0 σ T r) (ht0 : Txt σ0) {i : Nat} {t : List Nat} (e : txC[i]? = some t) : clR PG0 MX d 24 [vR 79, vR (2 + i)] σ = some (b2i (isL T t r), σ) := by
  obtain ⟨d, rfl⟩ := ob1 (show 1 ≤ d by omega)
  have ht := hR.txt ht0
  obtain ⟨hF, ⟨r1, r2, r3, r4, r5⟩, hT, hok⟩ := id hR
  have hy := hF.2
  have y1 := hy.1
  have a1 := y79_m1 hy
  have l2 := hT.2.1
  have o1 := hok.1
  have o2 := hok.2.1
  have o5 := hok.2.2.2.2.1
  have hg := ht.get e
  obtain ⟨t1, t2, t3⟩ := ht i t e
  have ht10 : t.length ≤ 10 := by
    have : ∀ t ∈ txC, t.length ≤ 10 := by decide
    exact this t (List.mem_of_getElem? e)
  rw [ce_24, sg_24_0]
  unfold isL
  (try simp (disch := omega) only [r1, r2, r3, wr_id2])
  repeat (first | ((with_reducible refine step_t ?_ ?_); with_reducible exact True.intro) | ((with_reducible refine step_t ?_ ?_); omega) | ((with_reducible refine step_f ?_ ?_); omega))
  refine step_i (fun g => ?_) (fun g => ?_)
  · rw [decide_eq_false (by omega)]; rfl
  · rw [decide_eq_true (show rD r = 1 by omega), Bool.true_and]
    repeat (first | ((with_reducible refine step_t ?_ ?_); with_reducible exact True.intro) | ((with_reducible refine step_t ?_ ?_); omega) | ((with_reducible refine step_f ?_ ?_); omega))
    refine step_c (p_len (by omega) σ hg) ?_
    try dsimp only
    (try simp (disch := omega) only [t2, wr_id2])
    repeat (first | ((with_reducible refine step_t ?_ ?_); with_reducible exact True.intro) | ((with_reducible refine step_t ?_ ?_); omega) | ((with_reducible refine step_f ?_ ?_); omega))
    by_cases z : rT r - rF r = t.length
    · rw [decide_eq_true z, Bool.true_and]
      refine step_t (by omega) ?_
      exact s24l (d := d) (by omega) hR ht e z t.length 0 (by omega)
    · rw [decide_eq_false z]
      refine step_f (by omega) ?_
      rfl
/-- blame -/
theorem s25 {d : Nat} (h : 1 ≤ d) {σ0 σ : HP} {T : List Nat} {r : RD} (hR : RW σ0 σ T r) {k : Nat} (hk : k ≤ 4) (p : Int) : ∃ σ', clR PG0 MX d 25 [vR 79, vI k, vI p] σ = some (0, σ') ∧ RW σ0 σ' T (rdBl k p r) := by
  obtain ⟨d, rfl⟩ := ob1 (show 1 ≤ d by omega)
  obtain ⟨hF, ⟨r1, r2, r3, r4, r5⟩, hT, hok⟩ := id hR
  have hy := hF.2
  have y1 := hy.1
  have a1 := y79_m1 hy
  have hF1 : FR σ0 (up σ 79 4 k) := hF.upc okc_4
  have hF2 : FR σ0 (up (up σ 79 4 k) 79 5 p) := hF1.upc okc_5
  have hy1 := hF1.2
  have b1 := hy1.1
  have b2 := y79_m1 hy1
  refine ⟨_, ?_, hF2, ⟨?_, ?_, ?_, ?_, up_s _ _ _ _⟩, byT_up (byT_up hT _ _) _ _, bl_ok hok hk p⟩
  · rw [ce_25, sg_25_0]
    repeat (first | ((with_reducible refine step_t ?_ ?_); with_reducible exact True.intro) | ((with_reducible refine step_t ?_ ?_); omega) | ((with_reducible refine step_f ?_ ?_); omega))
    rfl
  · rw [up_n2 _ _ _ _ (by omega), up_n2 _ _ _ _ (by omega)]; exact r1
  · rw [up_n2 _ _ _ _ (by omega), up_n2 _ _ _ _ (by omega)]; exact r2
  · rw [up_n2 _ _ _ _ (by omega), up_n2 _ _ _ _ (by omega)]; exact r3
  · rw [up_n2 _ _ _ _ (by omega), up_s]; rfl
/-- expectLetters -/
theorem s23 {d : Nat} (h : 8 ≤ d) {σ0 σ : HP} {T : List Nat} {r : RD} (hR : RW σ0 σ T r) (ht0 : Txt σ0) {i : Nat} {t : List Nat} (e : txC[i]? = some t) : ∃ σ', clR PG0 MX d 23 [vR 79, vR (2 + i)] σ = some (0, σ') ∧ RW σ0 σ' T (rdL T t r) := by
  obtain ⟨d, rfl⟩ := ob1 (show 1 ≤ d by omega)
  obtain ⟨hF, ⟨r1, r2, r3, r4, r5⟩, hT, hok⟩ := id hR
  have hy := hF.2
  have y1 := hy.1
  have a1 := y79_m1 hy
  have o6 := hok.2.2.2.2.2
  have e24 := s24 (d := d) (by omega) hR ht0 e
  unfold rdL
  by_cases z : rK r ≠ 0
  · rw [if_pos z]
    refine ⟨σ, ?_, hR⟩
    rw [ce_23, sg_23_0]
    (try simp (disch := omega) only [r4, wr_id2])
    repeat (first | ((with_reducible refine step_t ?_ ?_); with_reducible exact True.intro) | ((with_reducible refine step_t ?_ ?_); omega) | ((with_reducible refine step_f ?_ ?_); omega))
    rfl
  · rw [if_neg z]
    cases hb : isL T t r with
    | true =>
      rw [if_pos rfl]
      rw [hb] at e24
      obtain ⟨σ1, k1, k2⟩ := s18 (d := d) (by omega) hR
      refine ⟨σ1, ?_, k2⟩
      rw [ce_23, sg_23_0]
      (try simp (disch := omega) only [r4, wr_id2])
      repeat (first | ((with_reducible refine step_t ?_ ?_); with_reducible exact True.intro) | ((with_reducible refine step_t ?_ ?_); omega) | ((with_reducible refine step_f ?_ ?_); omega))
      refine step_c (e24) ?_
      try dsimp only
      rw [wr_b2i]
      refine step_f (show ¬ (b2i true = 0) by decide) ?_
      repeat (first | ((with_reducible refine step_t ?_ ?_); with_reducible exact True.intro) | ((with_reducible refine step_t ?_ ?_); omega) | ((with_reducible refine step_f ?_ ?_); omega))
      refine step_c (k1) ?_
      try dsimp only
    | false =>
      rw [if_neg (by decide)]
      rw [hb] at e24
      obtain ⟨σ1, k1, k2⟩ := s25 (d := d) (by omega) hR (k := 1) (by omega) (rF r : Nat)
      have k1 : clR PG0 MX d 25 [vR 79, vI 1, vI (rF r : Nat)] σ = some (0, σ1) := k1
      refine ⟨σ1, ?_, k2⟩
      rw [ce_23, sg_23_0]
      (try simp (disch := omega) only [r4, wr_id2])
      repeat (first | ((with_reducible refine step_t ?_ ?_); with_reducible exact True.intro) | ((with_reducible refine step_t ?_ ?_); omega) | ((with_reducible refine step_f ?_ ?_); omega))
      refine step_c (e24) ?_
      try dsimp only
      rw [wr_b2i]
      refine step_t (show b2i false = 0 by decide) ?_
      (try simp (disch := omega) only [r2, wr_id2])
      repeat (first | ((with_reducible refine step_t ?_ ?_); with_reducible exact True.intro) | ((with_reducible refine step_t ?_ ?_); omega) | ((with_reducible refine step_f ?_ ?_); omega))
      refine step_c (k1) ?_
      try dsimp only
/-- expectSign -/
theorem s27 {d : Nat} (h : 3 ≤ d) {σ0 σ : HP} {T : List Nat} {r : RD} (hR : RW σ0 σ T r) {c : Nat} (hc : c < 256) : ∃ σ', clR PG0 MX d 27 [vR 79, vI c] σ = some (0, σ') ∧ RW σ0 σ' T (rdS T c r) := by
  obtain ⟨d, rfl⟩ := ob1 (show 1 ≤ d by omega)
  obtain ⟨hF, ⟨r1, r2, r3, r4, r5⟩, hT, hok⟩ := id hR
  have hy := hF.2
  have y1 := hy.1
  have a1 := y79_m1 hy
  have a2 := y79_0 hy
  have a3 := y80_m1 hy
  obtain ⟨o1, o2, o3, o4, o5, o6⟩ := id hok
  have l2 := hT.2.1
  obtain ⟨σ2, j1, j2⟩ := s25 (d := d) (by omega) hR (k := 1) (by omega) (rF r : Nat)
  have j1 : clR PG0 MX d 25 [vR 79, vI 1, vI (rF r : Nat)] σ = some (0, σ2) := j1
  have kb : ∀ u : MV, rsP PG0 MX d 27 37 [vR 79, u] [] σ = some (0, σ2) := by
    intro u
    rw [sg_27_37]
    (try simp (disch := omega) only [r2, wr_id2])
    repeat (first | ((with_reducible refine step_t ?_ ?_); with_reducible exact True.intro) | ((with_reducible refine step_t ?_ ?_); omega) | ((with_reducible refine step_f ?_ ?_); omega))
    refine step_c (j1) ?_
    try dsimp only
  unfold rdS
  by_cases z : rK r ≠ 0
  · rw [if_pos z]
    refine ⟨σ, ?_, hR⟩
    rw [ce_27, sg_27_0]
    (try simp (disch := omega) only [r4, wr_id2])
    repeat (first | ((with_reducible refine step_t ?_ ?_); with_reducible exact True.intro) | ((with_reducible refine step_t ?_ ?_); omega) | ((with_reducible refine step_f ?_ ?_); omega))
    rfl
  · rw [if_neg z]
    by_cases z3 : rD r = 3
    · obtain ⟨e19, hv⟩ := s19t (d := d) (by omega) hy hT (o4 z3)
      by_cases z4 : tv T (rF r) = c
      · rw [if_pos ⟨z3, z4⟩]
        obtain ⟨σ1, k1, k2⟩ := s18 (d := d) (by omega) hR
        refine ⟨σ1, ?_, k2⟩
        rw [ce_27, sg_27_0]
        (try simp (disch := omega) only [r4, r1, r2, a2, wr_id2])
        repeat (first | ((with_reducible refine step_t ?_ ?_); with_reducible exact True.intro) | ((with_reducible refine step_t ?_ ?_); omega) | ((with_reducible refine step_f ?_ ?_); omega))
        refine step_c (e19) ?_
        try dsimp only
        (try simp (disch := omega) only [wr_id2])
        repeat (first | ((with_reducible refine step_t ?_ ?_); with_reducible exact True.intro) | ((with_reducible refine step_t ?_ ?_); omega) | ((with_reducible refine step_f ?_ ?_); omega))
        refine step_c (k1) ?_
        try dsimp only
      · rw [if_neg (fun q => z4 q.2)]
        refine ⟨σ2, ?_, j2⟩
        rw [ce_27, sg_27_0]
        (try simp (disch := omega) only [r4, r1, r2, a2, wr_id2])
        repeat (first | ((with_reducible refine step_t ?_ ?_); with_reducible exact True.intro) | ((with_reducible refine step_t ?_ ?_); omega) | ((with_reducible refine step_f ?_ ?_); omega))
        refine step_c (e19) ?_
        try dsimp only
        (try simp (disch := omega) only [wr_id2])
        repeat (first | ((with_reducible refine step_t ?_ ?_); with_reducible exact True.intro) | ((with_reducible refine step_t ?_ ?_); omega) | ((with_reducible refine step_f ?_ ?_); omega))
        exact kb _
    · rw [if_neg (fun q => z3 q.1)]
      refine ⟨σ2, ?_, j2⟩
      rw [ce_27, sg_27_0]
      (try simp (disch := omega) only [r4, r1, r2, a2, wr_id2])
      repeat (first | ((with_reducible refine step_t ?_ ?_); with_reducible exact True.intro) | ((with_reducible refine step_t ?_ ?_); omega) | ((with_reducible refine step_f ?_ ?_); omega))
      exact kb _
/-- expectNumber -/
theorem vl_cap {T : List Nat} : ∀ m p, vlR T m p 1000 = 1000 := by
  intro m
  induction m with
  | zero => intro p; rfl
  | succ m ih =>
    intro p
    show vlR T m (p + 1) (min 1000 (10 * 1000 + (tv T p - 48))) = 1000
    rw [show min 1000 (10 * 1000 + (tv T p - 48)) = 1000 by omega]
    exact ih (p + 1)
theorem vl_b {T : List Nat} : ∀ m p a, a ≤ 1000 → vlR T m p a ≤ 1000 := by
  intro m
  induction m with
  | zero => intro p a h; exact h
  | succ m ih => intro p a h; exact ih (p + 1) _ (by omega)
theorem s26l {d : Nat} (h : 1 ≤ d) {σ0 σ : HP} {T : List Nat} {r : RD} (hR : RW σ0 σ T r) {lo hi : Int} (h2 : rD r = 2) : ∀ (m p a : Nat), p + m = rT r → rF r ≤ p → a < 1000 → ∃ (v : Nat) (u : MV), rsP PG0 MX d 26 36 [vR 79, vI lo, vI hi, vI a, vI p] [] σ = rsP PG0 MX d 26 76 [vR 79, vI lo, vI hi, vI v, u] [] σ ∧ min 1000 v = vlR T m p a ∧ v < 10000 := by
  obtain ⟨hF, ⟨r1, r2, r3, r4, r5⟩, hT, hok⟩ := id hR
  have hy := hF.2
  have y1 := hy.1
  have a1 := y79_m1 hy
  have a2 := y79_0 hy
  have a3 := y80_m1 hy
  obtain ⟨o1, o2, o3, o4, o5, o6⟩ := id hok
  have l2 := hT.2.1
  intro m
  induction m with
  | zero =>
    intro p a hp hf ha
    refine ⟨a, vI p, ?_, by show min 1000 a = a; omega, by omega⟩
    rw [sg_26_36]
    (try simp (disch := omega) only [r3, wr_id2])
    repeat (first | ((with_reducible refine step_t ?_ ?_); with_reducible exact True.intro) | ((with_reducible refine step_t ?_ ?_); omega) | ((with_reducible refine step_f ?_ ?_); omega))
    rfl
  | succ m ih =>
    intro p a hp hf ha
    obtain ⟨q1, q2⟩ := o3 h2 p hf (by omega)
    obtain ⟨e19, hv⟩ := s19t (d := d) h hy hT (p := p) (by omega)
    have e10 : (a : Int) * 10 + ((tv T p : Nat) : Int) - 48 = ((10 * a + (tv T p - 48) : Nat) : Int) := by omega
    have nx : ∀ X, rsP PG0 MX d 26 36 [vR 79, vI lo, vI hi, vI ((10 * a + (tv T p - 48) : Nat) : Int), vI ((p + 1 : Nat) : Int)] [] σ = X → rsP PG0 MX d 26 36 [vR 79, vI lo, vI hi, vI a, vI p] [] σ = X := by
      intro X hX
      rw [sg_26_36]
      (try simp (disch := omega) only [r3, a2, wr_id2])
      repeat (first | ((with_reducible refine step_t ?_ ?_); with_reducible exact True.intro) | ((with_reducible refine step_t ?_ ?_); omega) | ((with_reducible refine step_f ?_ ?_); omega))
      refine step_c (e19) ?_
      try dsimp only
      rw [e10]
      exact hX
    by_cases z : 10 * a + (tv T p - 48) < 1000
    · obtain ⟨v, u, k1, k2, k3⟩ := ih (p + 1) (10 * a + (tv T p - 48)) (by omega) (by omega) z
      refine ⟨v, u, nx _ k1, ?_, k3⟩
      rw [k2]
      show vlR T m (p + 1) _ = vlR T m (p + 1) (min 1000 (10 * a + (tv T p - 48)))
      rw [Nat.min_eq_right (by omega)]
    · refine ⟨10 * a + (tv T p - 48), vI ((p + 1 : Nat) : Int), nx _ ?_, ?_, by omega⟩
      · rw [sg_26_36]
        (try simp (disch := omega) only [r3, wr_id2])
        repeat (first | ((with_reducible refine step_t ?_ ?_); with_reducible exact True.intro) | ((with_reducible refine step_t ?_ ?_); omega) | ((with_reducible refine step_f ?_ ?_); omega))
        by_cases z2 : rT r ≤ p + 1
        · refine step_t (by omega) ?_
          rfl
        · refine step_f (by omega) ?_
          repeat (first | ((with_reducible refine step_t ?_ ?_); with_reducible exact True.intro) | ((with_reducible refine step_t ?_ ?_); omega) | ((with_reducible refine step_f ?_ ?_); omega))
          rfl
      · show min 1000 _ = vlR T m (p + 1) (min 1000 (10 * a + (tv T p - 48)))
        rw [Nat.min_eq_left (by omega), vl_cap]
theorem s26 {d : Nat} (h : 3 ≤ d) {σ0 σ : HP} {T : List Nat} {r : RD} (hR : RW σ0 σ T r) {lo hi : Nat} (hlo : lo ≤ 255) (hhi : hi ≤ 255) : ∃ σ', clR PG0 MX d 26 [vR 79, vI lo, vI hi] σ = some ((((rdN T lo hi r).1 : Nat) : Int), σ') ∧ RW σ0 σ' T (rdN T lo hi r).2 := by
  obtain ⟨d, rfl⟩ := ob1 (show 1 ≤ d by omega)
  obtain ⟨hF, ⟨r1, r2, r3, r4, r5⟩, hT, hok⟩ := id hR
  have hy := hF.2
  have y1 := hy.1
  have a1 := y79_m1 hy
  obtain ⟨o1, o2, o3, o4, o5, o6⟩ := id hok
  have l2 := hT.2.1
  unfold rdN
  by_cases z : rK r ≠ 0
  · rw [if_pos z]
    refine ⟨σ, ?_, hR⟩
    rw [ce_26, sg_26_0]
    (try simp (disch := omega) only [r4, wr_id2])
    repeat (first | ((with_reducible refine step_t ?_ ?_); with_reducible exact True.intro) | ((with_reducible refine step_t ?_ ?_); omega) | ((with_reducible refine step_f ?_ ?_); omega))
    rfl
  · rw [if_neg z]
    by_cases z2 : rD r = 2
    · rw [if_neg (fun q => q z2)]
      obtain ⟨v, u, k1, k2, k3⟩ := s26l (d := d) (by omega) hR (lo := lo) (hi := hi) z2 (rT r - rF r) (rF r) 0 (by omega) (Nat.le_refl _) (by omega)
      have k2 : min 1000 v = rdV T r := k2
      have start : ∀ X, rsP PG0 MX d 26 76 [vR 79, vI lo, vI hi, vI v, u] [] σ = X → clR PG0 MX (d + 1) 26 [vR 79, vI lo, vI hi] σ = X := by
        intro X hX
        rw [ce_26, sg_26_0]
        (try simp (disch := omega) only [r4, r1, r2, wr_id2])
        repeat (first | ((with_reducible refine step_t ?_ ?_); with_reducible exact True.intro) | ((with_reducible refine step_t ?_ ?_); omega) | ((with_reducible refine step_f ?_ ?_); omega))
        exact k1.trans hX
      by_cases z3 : lo ≤ rdV T r ∧ rdV T r ≤ hi
      · rw [if_pos z3]
        have ev : v = rdV T r := by omega
        obtain ⟨σ1, j1, j2⟩ := s18 (d := d) (by omega) hR
        refine ⟨σ1, start _ ?_, j2⟩
        rw [← ev] at z3 ⊢
        rw [sg_26_76]
        (try simp (disch := omega) only [wr_id2])
        repeat (first | ((with_reducible refine step_t ?_ ?_); with_reducible exact True.intro) | ((with_reducible refine step_t ?_ ?_); omega) | ((with_reducible refine step_f ?_ ?_); omega))
        refine step_c (j1) ?_
        try dsimp only
      · rw [if_neg z3]
        obtain ⟨σ1, j1, j2⟩ := s25 (d := d) (by omega) hR (k := 2) (by omega) (rF r : Nat)
        have j1 : clR PG0 MX d 25 [vR 79, vI 2, vI (rF r : Nat)] σ = some (0, σ1) := j1
        have kb : ∀ u2 u3 u4 : MV, rsP PG0 MX d 26 86 [vR 79, vI lo, u2, u3, u4] [] σ = some ((lo : Int), σ1) := by
          intro u2 u3 u4
          rw [sg_26_86]
          (try simp (disch := omega) only [r2, wr_id2])
          repeat (first | ((with_reducible refine step_t ?_ ?_); with_reducible exact True.intro) | ((with_reducible refine step_t ?_ ?_); omega) | ((with_reducible refine step_f ?_ ?_); omega))
          refine step_c (j1) ?_
          try dsimp only
        refine ⟨σ1, start _ ?_, j2⟩
        rw [sg_26_76]
        (try simp (disch := omega) only [wr_id2])
        by_cases z4 : v < lo
        · refine step_t (by omega) ?_
          exact kb _ _ _
        · refine step_f (by omega) ?_
          refine step_f (by omega) ?_
          exact kb _ _ _
    · rw [if_pos z2]
      obtain ⟨σ1, j1, j2⟩ := s25 (d := d) (by omega) hR (k := 1) (by omega) (rF r : Nat)
      have j1 : clR PG0 MX d 25 [vR 79, vI 1, vI (rF r : Nat)] σ = some (0, σ1) := j1
      refine ⟨σ1, ?_, j2⟩
      rw [ce_26, sg_26_0]
      (try simp (disch := omega) only [r4, r1, r2, wr_id2])
      repeat (first | ((with_reducible refine step_t ?_ ?_); with_reducible exact True.intro) | ((with_reducible refine step_t ?_ ?_); omega) | ((with_reducible refine step_f ?_ ?_); omega))
      refine step_c (j1) ?_
      try dsimp only
/-- readsBits -/
def RX (σ0 σ : HP) (T : List Nat) (r : RD) : Prop := ((∀ a j, a ≠ 79 → (a < 43 ∨ 45 < a) → σ a j = σ0 a j) ∧ Lay σ) ∧ RR σ r ∧ byR σ 80 81 400 T ∧ rdOk T r
theorem RW.rx {σ0 σ : HP} {T : List Nat} {r : RD} (h : RW σ0 σ T r) : RX σ0 σ T r := ⟨⟨fun a j h1 _ => h.1.1 a j h1, h.1.2⟩, h.2⟩
theorem RX.rw {σ0 σ : HP} {T : List Nat} {r : RD} (h : RX σ0 σ T r) : RW σ σ T r := ⟨⟨fun _ _ _ => rfl, h.1.2⟩, h.2⟩
theorem RX.tr {σ0 σ σ' : HP} {T : List Nat} {r r' : RD} (h : RX σ0 σ T r) (h2 : RW σ σ' T r') : RX σ0 σ' T r' := ⟨⟨fun a j h3 h4 => by rw [h2.1.1 a j h3]; exact h.1.1 a j h3 h4, h2.1.2⟩, h2.2⟩
theorem RX.ag3 {σ0 σ σ' : HP} {T : List Nat} {r : RD} (h : RX σ0 σ T r) (ha : ag3 σ σ' 43) (hb : blm σ' 43) : RX σ0 σ' T r := by
  obtain ⟨hF, ⟨r1, r2, r3, r4, r5⟩, hT, hok⟩ := h
  refine ⟨⟨fun a j h1 h2 => by rw [ha _ _ (by omega)]; exact hF.1 a j h1 h2, hF.2.ag3 ha hb okB_43⟩, ⟨?_, ?_, ?_, ?_, ?_⟩, byR_same hT (fun j => ha _ _ (by omega)) (fun j => ha _ _ (by omega)), hok⟩
  · rw [ha _ _ (by omega)]; exact r1
  · rw [ha _ _ (by omega)]; exact r2
  · rw [ha _ _ (by omega)]; exact r3
  · rw [ha _ _ (by omega)]; exact r4
  · rw [ha _ _ (by omega)]; exact r5
def DB (σ : HP) (M : LB) : Prop := blr σ 43 M ∧ wf0 M ∧ σ 43 2 = 1
theorem DB.rw {σ σ' : HP} {T : List Nat} {r : RD} {M : LB} (h : DB σ M) (h2 : RW σ σ' T r) : DB σ' M := ⟨blr_same h.1 (by rw [h2.1.1 _ _ (by omega)]; exact Int.le_refl _) (fun a j q1 q2 => h2.1.1 _ _ (by omega)), h.2.1, by rw [h2.1.1 _ _ (by omega)]; exact h.2.2⟩
theorem s29l {d : Nat} (h : 3 ≤ d) {σ0 : HP} {T : List Nat} {N A B S : Nat} : ∀ (m p : Nat) (σ : HP) (l : List Nat) (r : RD) (u3 : MV), p + m = rT r → rF r ≤ p → rD r = 2 → rK r = 0 → RX σ0 σ T r → DB σ (N, A, B, S, l) → ∃ (σ' : HP) (u2 : MV), rsP PG0 MX d 29 14 [vR 79, vR 43, vI p, u3] [] σ = rsP PG0 MX d 29 88 [vR 79, vR 43, u2, vU] [] σ' ∧ RX σ0 σ' T (rbF T N m p l r).2 ∧ DB σ' (N, A, B, S, (rbF T N m p l r).1) := by
  intro m
  induction m with
  | zero =>
    intro p σ l r u3 hp hf h2 h0 hR hD
    obtain ⟨hF, ⟨r1, r2, r3, r4, r5⟩, hT, hok⟩ := id hR
    have hy := hF.2
    have y1 := hy.1
    have a1 := y79_m1 hy
    have l2 := hT.2.1
    have o2 := hok.2.1
    refine ⟨σ, vI p, ?_, hR, hD⟩
    rw [sg_29_14]
    (try simp (disch := omega) only [r3, wr_id2])
    repeat (first | ((with_reducible refine step_t ?_ ?_); with_reducible exact True.intro) | ((with_reducible refine step_t ?_ ?_); omega) | ((with_reducible refine step_f ?_ ?_); omega))
    rfl
  | succ m ih =>
    intro p σ l r u3 hp hf h2 h0 hR hD
    obtain ⟨hF, ⟨r1, r2, r3, r4, r5⟩, hT, hok⟩ := id hR
    have hy := hF.2
    have y1 := hy.1
    have a1 := y79_m1 hy
    have a2 := y79_0 hy
    have a3 := y80_m1 hy
    have l2 := hT.2.1
    obtain ⟨o1, o2, o3, o4, o5, o6⟩ := id hok
    obtain ⟨q1, q2⟩ := o3 h2 p hf (by omega)
    obtain ⟨e19, hv⟩ := s19t (d := d) (by omega) hy hT (p := p) (by omega)
    obtain ⟨D1, D2, D3⟩ := id hD
    obtain ⟨⟨m1, m2, m3, m4, m5, m6, m7, m8, m9⟩, f3, f4, f5, f6, -⟩ := id D1
    have h9 := D2.1
    have hlen := wf_len D2
    have h9 : N ≤ 8 := h9
    have hlen : l.length ≤ 256 := hlen
    have f6 : σ 43 6 = (l.length : Nat) := f6
    have eb : ((tv T p : Nat) : Int) - 48 = ((tv T p - 48 : Nat) : Int) := by omega
    have e30 := s30' (d := d) (by omega) D1 D2 (x := ((tv T p - 48 : Nat) : Int)) (i32_n (by omega))
    have e30 : clR PG0 MX d 30 [vR 43, vI ((tv T p - 48 : Nat) : Int)] σ = some (b2i (decide (0 ≤ ((tv T p - 48 : Nat) : Int) ∧ ((tv T p - 48 : Nat) : Int) < (N : Int))), σ) := e30
    have stop : ∀ (σ : HP) (r' : RD), rK r' ≠ 0 → rT r' = rT r → RX σ0 σ T r' → rsP PG0 MX d 29 14 [vR 79, vR 43, vI ((p : Int) + 1), vU] [] σ = rsP PG0 MX d 29 88 [vR 79, vR 43, vI ((p : Int) + 1), vU] [] σ := by
      intro σ r' hk0 ht hR
      obtain ⟨hF, ⟨r1, r2, r3, r4, r5⟩, hT, hok⟩ := id hR
      have hy := hF.2
      have y1 := hy.1
      have a1 := y79_m1 hy
      have o6 := hok.2.2.2.2.2
      rw [sg_29_14]
      (try simp (disch := omega) only [r3, r4, wr_id2])
      refine step_t (by omega) ?_
      by_cases z : rT r' ≤ p + 1
      · refine step_t (by omega) ?_
        rfl
      · refine step_f (by omega) ?_
        repeat (first | ((with_reducible refine step_t ?_ ?_); with_reducible exact True.intro) | ((with_reducible refine step_t ?_ ?_); omega) | ((with_reducible refine step_f ?_ ?_); omega))
        rfl
    unfold rbF
    by_cases z : N ≤ tv T p - 48
    · rw [if_pos z]
      rw [decide_eq_false (by omega)] at e30
      obtain ⟨σ1, j1, j2⟩ := s25 (d := d) (by omega) hR.rw (k := 3) (by omega) (p : Nat)
      have j1 : clR PG0 MX d 25 [vR 79, vI 3, vI p] σ = some (0, σ1) := j1
      refine ⟨σ1, vI ((p : Int) + 1), ?_, hR.tr j2, hD.rw j2⟩
      rw [sg_29_14]
      (try simp (disch := omega) only [r3, r4, a2, wr_id2])
      repeat (first | ((with_reducible refine step_t ?_ ?_); with_reducible exact True.intro) | ((with_reducible refine step_t ?_ ?_); omega) | ((with_reducible refine step_f ?_ ?_); omega))
      refine step_c (e19) ?_
      try dsimp only
      rw [eb]
      repeat (first | ((with_reducible refine step_t ?_ ?_); with_reducible exact True.intro) | ((with_reducible refine step_t ?_ ?_); omega) | ((with_reducible refine step_f ?_ ?_); omega))
      refine step_c (e30) ?_
      try dsimp only
      rw [wr_b2i]
      refine step_f (show ¬ (b2i false ≠ 0) by decide) ?_
      repeat (first | ((with_reducible refine step_t ?_ ?_); with_reducible exact True.intro) | ((with_reducible refine step_t ?_ ?_); omega) | ((with_reducible refine step_f ?_ ?_); omega))
      refine step_c (j1) ?_
      try dsimp only
      exact stop σ1 (rdBl 3 (p : Nat) r) (by show (3 : Nat) ≠ 0; omega) rfl (hR.tr j2)
    · rw [if_neg z]
      rw [decide_eq_true (by omega)] at e30
      by_cases z2 : 256 ≤ l.length
      · rw [if_pos z2]
        obtain ⟨σ1, j1, j2⟩ := s25 (d := d) (by omega) hR.rw (k := 4) (by omega) (p : Nat)
        have j1 : clR PG0 MX d 25 [vR 79, vI 4, vI p] σ = some (0, σ1) := j1
        refine ⟨σ1, vI ((p : Int) + 1), ?_, hR.tr j2, hD.rw j2⟩
        rw [sg_29_14]
        (try simp (disch := omega) only [r3, r4, a2, wr_id2])
        repeat (first | ((with_reducible refine step_t ?_ ?_); with_reducible exact True.intro) | ((with_reducible refine step_t ?_ ?_); omega) | ((with_reducible refine step_f ?_ ?_); omega))
        refine step_c (e19) ?_
        try dsimp only
        rw [eb]
        repeat (first | ((with_reducible refine step_t ?_ ?_); with_reducible exact True.intro) | ((with_reducible refine step_t ?_ ?_); omega) | ((with_reducible refine step_f ?_ ?_); omega))
        refine step_c (e30) ?_
        try dsimp only
        rw [wr_b2i]
        refine step_t (show b2i true ≠ 0 by decide) ?_
        (try simp (disch := omega) only [f6, wr_id2])
        repeat (first | ((with_reducible refine step_t ?_ ?_); with_reducible exact True.intro) | ((with_reducible refine step_t ?_ ?_); omega) | ((with_reducible refine step_f ?_ ?_); omega))
        refine step_c (j1) ?_
        try dsimp only
        exact stop σ1 (rdBl 4 (p : Nat) r) (by show (4 : Nat) ≠ 0; omega) rfl (hR.tr j2)
      · rw [if_neg z2]
        obtain ⟨σ1, j1, j2, j3, j4⟩ := s31 (d := d) (by omega) D1 D2 (x := tv T p - 48) (by show _ < N; omega) (by show l.length < 256; omega)
        obtain ⟨σ2, u2, k1, k2, k3⟩ := ih (p + 1) σ1 (l ++ [tv T p - 48]) r vU (by omega) (by omega) h2 h0 (hR.ag3 j2 j3.1) ⟨j3, wf_push D2 (by show _ < N; omega) (by show l.length < 256; omega), by rw [j4]; exact D3⟩
        refine ⟨σ2, u2, ?_, k2, k3⟩
        rw [sg_29_14]
        (try simp (disch := omega) only [r3, r4, a2, wr_id2])
        repeat (first | ((with_reducible refine step_t ?_ ?_); with_reducible exact True.intro) | ((with_reducible refine step_t ?_ ?_); omega) | ((with_reducible refine step_f ?_ ?_); omega))
        refine step_c (e19) ?_
        try dsimp only
        rw [eb]
        repeat (first | ((with_reducible refine step_t ?_ ?_); with_reducible exact True.intro) | ((with_reducible refine step_t ?_ ?_); omega) | ((with_reducible refine step_f ?_ ?_); omega))
        refine step_c (e30) ?_
        try dsimp only
        rw [wr_b2i]
        refine step_t (show b2i true ≠ 0 by decide) ?_
        (try simp (disch := omega) only [f6, wr_id2])
        repeat (first | ((with_reducible refine step_t ?_ ?_); with_reducible exact True.intro) | ((with_reducible refine step_t ?_ ?_); omega) | ((with_reducible refine step_f ?_ ?_); omega))
        refine step_c (j1) ?_
        try dsimp only
        exact k1
theorem s29 {d : Nat} (h : 4 ≤ d) {σ0 σ : HP} {T : List Nat} {N A B S : Nat} {r : RD} (h0 : rK r = 0) (hR : RX σ0 σ T r) (hD : DB σ (N, A, B, S, [])) : ∃ σ', clR PG0 MX d 29 [vR 79, vR 43] σ = some (0, σ') ∧ RX σ0 σ' T (rdB T N r).2 ∧ DB σ' (N, A, B, S, (rdB T N r).1) := by
  obtain ⟨d, rfl⟩ := ob1 (show 1 ≤ d by omega)
  obtain ⟨hF, ⟨r1, r2, r3, r4, r5⟩, hT, hok⟩ := id hR
  have hy := hF.2
  have y1 := hy.1
  have a1 := y79_m1 hy
  have l2 := hT.2.1
  obtain ⟨o1, o2, o3, o4, o5, o6⟩ := id hok
  unfold rdB
  by_cases z : rD r = 2
  · rw [if_pos z]
    obtain ⟨σ1, u2, k1, k2, k3⟩ := s29l (d := d) (by omega) (rT r - rF r) (rF r) σ [] r vU (by omega) (Nat.le_refl _) z h0 hR hD
    generalize hq : rbF T N (rT r - rF r) (rF r) [] r = q at *
    obtain ⟨hF1, ⟨t1, t2, t3, t4, t5⟩, hT1, hok1⟩ := id k2
    have hy1 := hF1.2
    have b1 := hy1.1
    have b2 := y79_m1 hy1
    have o7 := hok1.2.2.2.2.2
    have start : ∀ X, rsP PG0 MX d 29 88 [vR 79, vR 43, u2, vU] [] σ1 = X → clR PG0 MX (d + 1) 29 [vR 79, vR 43] σ = X := by
      intro X hX
      rw [ce_29, sg_29_0]
      (try simp (disch := omega) only [r1, r2, wr_id2])
      repeat (first | ((with_reducible refine step_t ?_ ?_); with_reducible exact True.intro) | ((with_reducible refine step_t ?_ ?_); omega) | ((with_reducible refine step_f ?_ ?_); omega))
      exact k1.trans hX
    by_cases z2 : rK q.2 = 0
    · rw [if_pos z2]
      obtain ⟨σ2, j1, j2⟩ := s18 (d := d) (by omega) k2.rw
      refine ⟨σ2, start _ ?_, k2.tr j2, k3.rw j2⟩
      rw [sg_29_88]
      (try simp (disch := omega) only [t4, wr_id2])
      repeat (first | ((with_reducible refine step_t ?_ ?_); with_reducible exact True.intro) | ((with_reducible refine step_t ?_ ?_); omega) | ((with_reducible refine step_f ?_ ?_); omega))
      refine step_c (j1) ?_
      try dsimp only
    · rw [if_neg z2]
      refine ⟨σ1, start _ ?_, k2, k3⟩
      rw [sg_29_88]
      (try simp (disch := omega) only [t4, wr_id2])
      repeat (first | ((with_reducible refine step_t ?_ ?_); with_reducible exact True.intro) | ((with_reducible refine step_t ?_ ?_); omega) | ((with_reducible refine step_f ?_ ?_); omega))
      rfl
  · rw [if_neg z]
    refine ⟨σ, ?_, hR, hD⟩
    rw [ce_29, sg_29_0]
    (try simp (disch := omega) only [r1, wr_id2])
    repeat (first | ((with_reducible refine step_t ?_ ?_); with_reducible exact True.intro) | ((with_reducible refine step_t ?_ ?_); omega) | ((with_reducible refine step_f ?_ ?_); omega))
    rfl
