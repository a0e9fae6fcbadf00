/-! THE REFERENCE: its small questions -/
def FL (σ σ' : HP) : Prop := (∀ a j, 0 ≤ a → a < 101 → σ' a j = σ a j) ∧ Lay σ' ∧ σ (-1) 0 ≤ σ' (-1) 0 ∧ σ' (-1) 0 ≤ σ (-1) 0 + 1 ∧ σ (-1) 1 ≤ σ' (-1) 1 ∧ σ' (-1) 1 ≤ σ (-1) 1 + 5
theorem FM.fl {σ σ' : HP} (h : FM σ σ') : FL σ σ' := by
  have e0 := h.1 (-1) 0 (by omega)
  have e1 := h.1 (-1) 1 (by omega)
  exact ⟨fun a j h1 h2 => h.1 a j (Or.inl h2), h.2, by omega, by omega, by omega, by omega⟩
def mOp (k : Nat) (as : List MV) (S : AS) (q : Int × AS) : Prop := ∀ (d : Nat) (σ : HP), 1000 ≤ d → Lay σ → Txt σ → MM σ S → ∃ σ', clR PG0 MX d k (vR 101 :: as) σ = some (q.1, σ') ∧ FL σ σ' ∧ MM σ' q.2
theorem i32_n {n : Nat} (h : n < 2147483648) : i32 (n : Int) := ⟨by omega, by omega⟩
theorem l_cmp_v {x y : Int} (hx : i32 x) (hy : i32 y) : l_cmp x y = if y < x then 1 else if x = y then 0 else -1 := by
  obtain ⟨x1, x2⟩ := hx
  obtain ⟨y1, y2⟩ := hy
  have ex : (Int64.ofInt x).toInt = x := Int64.toInt_ofInt_of_le (by omega) (by omega)
  have ey : (Int64.ofInt y).toInt = y := Int64.toInt_ofInt_of_le (by omega) (by omega)
  unfold l_cmp lg_cmp
  by_cases h : y < x
  · rw [if_pos (show Int64.ofInt x > Int64.ofInt y from Int64.lt_iff_toInt_lt.mpr (by rw [ex, ey]; exact h)), if_pos h]; rfl
  · rw [if_neg (show ¬ (Int64.ofInt x > Int64.ofInt y) from fun z => h (by have := Int64.lt_iff_toInt_lt.mp z; rw [ex, ey] at this; exact this)), if_neg h]
    by_cases e : x = y
    · rw [if_pos (by rw [e]), if_pos e]; rfl
    · rw [if_neg (fun z => e (by have := congrArg Int64.toInt z; rw [ex, ey] at this; exact this)), if_neg e]; rfl
theorem l_lt {x y : Int} (hx : i32 x) (hy : i32 y) : wr (l_cmp x y) < 0 ↔ x < y := by
  rw [l_cmp_v hx hy]
  by_cases h : y < x
  · rw [if_pos h, wr_1]; omega
  · rw [if_neg h]
    by_cases e : x = y
    · rw [if_pos e, wr_0]; omega
    · rw [if_neg e, wr_m1]; omega
theorem l_gt {x y : Int} (hx : i32 x) (hy : i32 y) : 0 < wr (l_cmp x y) ↔ y < x := by
  rw [l_cmp_v hx hy]
  by_cases h : y < x
  · rw [if_pos h, wr_1]; omega
  · rw [if_neg h]
    by_cases e : x = y
    · rw [if_pos e, wr_0]; omega
    · rw [if_neg e, wr_m1]; omega
/-- in -/
theorem s179 {d : Nat} (h : 1 ≤ d) (σ : HP) {x y z : Int} (hx : i32 x) (hy : i32 y) (hz : i32 z) : clR PG0 MX d 179 [vL x, vL y, vL z] σ = some (b2i (decide (y ≤ x ∧ x ≤ z)), σ) := by
  obtain ⟨d, rfl⟩ := ob1 (show 1 ≤ d by omega)
  rw [ce_179, sg_179_0]
  refine step_i (fun g => ?_) (fun g => ?_)
  · rw [decide_eq_false (by have := (l_lt hx hy).mp g; omega)]; rfl
  · refine step_i (fun g2 => ?_) (fun g2 => ?_)
    · rw [decide_eq_false (by have := (l_gt hx hz).mp g2; omega)]; rfl
    · rw [decide_eq_true (by have a := mt (l_lt hx hy).mpr g; have b := mt (l_gt hx hz).mpr g2; omega)]; rfl
/-- isSlot -/
theorem s178 {d : Nat} (h : 2 ≤ d) (σ : HP) {s : Int} (hs : i32 s) : clR PG0 MX d 178 [vI s] σ = some (b2i (decide (0 ≤ s ∧ s ≤ 2)), σ) := by
  obtain ⟨d, rfl⟩ := ob1 (show 1 ≤ d by omega)
  rw [ce_178, sg_178_0, hs.wr]
  refine step_c (s179 (by omega) σ hs ⟨by decide, by decide⟩ ⟨by decide, by decide⟩) ?_
  try dsimp only
  exact step_t (b2i_01 _) rfl
/-- of -/
theorem s181 {d : Nat} (h : 1 ≤ d) {σ : HP} (hy : Lay σ) {s : Nat} (hs : s < 3) {j : Int} (h1 : 0 ≤ j) (h2 : j < 261) : clR PG0 MX d 181 [vR 101, vI s, vI j] σ = some (σ 102 (261 * (s : Int) + j), σ) := by
  obtain ⟨d, rfl⟩ := ob1 (show 1 ≤ d by omega)
  have y1 := hy.1; have k101 := y101_m1 hy; have p102 := y101_0 hy; have k102 := y102_m1 hy; have l102 := y102_m2 hy
  rw [ce_181, sg_181_0]
  (try simp (disch := omega) only [p102, wr_id2])
  repeat (first | refine step_t (by with_reducible exact True.intro) ?_ | refine step_t (by omega) ?_ | refine step_f (by omega) ?_)
  rfl
/-- a slot's row -/
def slR (σ : HP) (s : Nat) (L : LB) : Prop := σ 102 (261 * (s : Int) + 0) = lN0 L ∧ σ 102 (261 * (s : Int) + 1) = lA L ∧ σ 102 (261 * (s : Int) + 2) = lB L ∧ σ 102 (261 * (s : Int) + 3) = lS L ∧ σ 102 (261 * (s : Int) + 4) = ((lT L).length : Nat) ∧ ∀ i x : Nat, (lT L)[i]? = some x → σ 102 (261 * (s : Int) + 5 + i) = x
theorem encA_st (L : LB) (i : Nat) : encA (some L) (5 + i) = (((lT L)[i]?.getD 0 : Nat) : Int) := by
  unfold encA
  dsimp only
  rw [if_neg (by omega), if_neg (by omega), if_neg (by omega), if_neg (by omega), if_neg (by omega), show 5 + i - 5 = i by omega]
theorem MM.at {σ : HP} {S : AS} (hm : MM σ S) {n j : Nat} (hn : n < 3) (hj : j < 261) : σ 102 (261 * (n : Int) + (j : Int)) = encA (S.sl n) j := by
  have e := hm.row (261 * n + j) (by omega)
  unfold encR at e
  rw [show (261 * n + j) / 261 = n by omega, show (261 * n + j) % 261 = j by omega] at e
  rw [← e]
  congr 1
theorem MM.slr {σ : HP} {S : AS} (hm : MM σ S) {n : Nat} (hn : n < 3) {L : LB} (e : S.sl n = some L) : slR σ n L := by
  have hw := hm.wf n L hn e
  have hl := wf_len hw.1
  refine ⟨?_, ?_, ?_, ?_, ?_, fun i x hx => ?_⟩
  · have q := hm.at (j := 0) hn (by omega); rw [e] at q; exact q
  · have q := hm.at (j := 1) hn (by omega); rw [e] at q; exact q
  · have q := hm.at (j := 2) hn (by omega); rw [e] at q; exact q
  · have q := hm.at (j := 3) hn (by omega); rw [e] at q; exact q
  · have q := hm.at (j := 4) hn (by omega); rw [e] at q; exact q
  · have hi : i < (lT L).length := (List.getElem?_eq_some_iff.mp hx).1
    have q := hm.at (j := 5 + i) hn (by omega)
    rw [e, encA_st, hx] at q
    rw [show 261 * (n : Int) + 5 + (i : Int) = 261 * (n : Int) + ((5 + i : Nat) : Int) by omega]
    exact q
theorem MM.got {σ : HP} {S : AS} (hm : MM σ S) {s : Int} {L : LB} (e : gl S s = some L) : ∃ n : Nat, s = (n : Int) ∧ n < 3 ∧ slR σ n L ∧ wfL L ∧ S.sl n = some L := by
  unfold gl at e
  by_cases z : 0 ≤ s ∧ s < 3
  · rw [if_pos z] at e
    exact ⟨s.toNat, by omega, by omega, hm.slr (by omega) e, hm.wf _ _ (by omega) e, e⟩
  · rw [if_neg z] at e; cases e
/-- isList -/
theorem s180 {d : Nat} (h : 3 ≤ d) {σ : HP} {S : AS} (hy : Lay σ) (hm : MM σ S) {s : Int} (hs : i32 s) : clR PG0 MX d 180 [vR 101, vI s] σ = some (b2i (gl S s).isSome, σ) := by
  obtain ⟨d, rfl⟩ := ob1 (show 1 ≤ d by omega)
  have y1 := hy.1; have k101 := y101_m1 hy; have p102 := y101_0 hy; have k102 := y102_m1 hy; have l102 := y102_m2 hy
  rw [ce_180, sg_180_0]
  refine step_c (s178 (by omega) σ hs) ?_
  try dsimp only
  rw [wr_b2i]
  unfold gl
  by_cases z : 0 ≤ s ∧ s < 3
  · rw [decide_eq_true (show 0 ≤ s ∧ s ≤ 2 by omega), if_pos z]
    refine step_f (show ¬ (b2i true = 0) by decide) ?_
    have e : ((s.toNat : Nat) : Int) = s := by omega
    have e2 := s181 (d := d) (by omega) hy (s := s.toNat) (by omega) (j := 0) (by omega) (by omega)
    have e3 := hm.at (n := s.toNat) (j := 0) (by omega) (by omega)
    rw [e] at e2 e3
    have e3 : σ 102 (261 * s + 0) = encA (S.sl s.toNat) 0 := e3
    rw [e3] at e2
    repeat (first | refine step_t (by with_reducible exact True.intro) ?_ | refine step_t (by omega) ?_ | refine step_f (by omega) ?_)
    refine step_c (e2) ?_
    try dsimp only
    cases hq : S.sl s.toNat with
    | none =>
      refine step_t (show wr (encA none 0) ≤ 0 by decide) ?_
      rfl
    | some L =>
      have hw := hm.wf _ L (by omega) hq
      have h8 := hw.1.1
      have h1 := hw.2.1
      have e4 : encA (some L) 0 = (lN0 L : Nat) := rfl
      rw [e4]
      (try simp (disch := omega) only [wr_id2])
      repeat (first | refine step_t (by with_reducible exact True.intro) ?_ | refine step_t (by omega) ?_ | refine step_f (by omega) ?_)
      rfl
  · rw [decide_eq_false (show ¬ (0 ≤ s ∧ s ≤ 2) by omega), if_neg z]
    refine step_t (show b2i false = 0 by decide) ?_
    rfl
/-- bits, many, stepAt -/
theorem s207 {d : Nat} (h : 2 ≤ d) {σ : HP} (hy : Lay σ) {s : Nat} (hs : s < 3) {L : LB} (hr : slR σ s L) : clR PG0 MX d 207 [vR 101, vI s] σ = some (((lN0 L : Nat) : Int), σ) := by
  obtain ⟨d, rfl⟩ := ob1 (show 1 ≤ d by omega)
  have y1 := hy.1; have k101 := y101_m1 hy; have p102 := y101_0 hy; have k102 := y102_m1 hy; have l102 := y102_m2 hy
  rw [ce_207, sg_207_0]
  repeat (first | refine step_t (by with_reducible exact True.intro) ?_ | refine step_t (by omega) ?_ | refine step_f (by omega) ?_)
  refine step_c (s181 (by omega) hy hs (j := 0) (by omega) (by omega)) ?_
  try dsimp only
  rw [hr.1]
theorem s204 {d : Nat} (h : 2 ≤ d) {σ : HP} (hy : Lay σ) {s : Nat} (hs : s < 3) {L : LB} (hr : slR σ s L) : clR PG0 MX d 204 [vR 101, vI s] σ = some ((((lT L).length : Nat) : Int), σ) := by
  obtain ⟨d, rfl⟩ := ob1 (show 1 ≤ d by omega)
  have y1 := hy.1; have k101 := y101_m1 hy; have p102 := y101_0 hy; have k102 := y102_m1 hy; have l102 := y102_m2 hy
  rw [ce_204, sg_204_0]
  repeat (first | refine step_t (by with_reducible exact True.intro) ?_ | refine step_t (by omega) ?_ | refine step_f (by omega) ?_)
  refine step_c (s181 (by omega) hy hs (j := 4) (by omega) (by omega)) ?_
  try dsimp only
  rw [hr.2.2.2.2.1]
theorem s205 {d : Nat} (h : 1 ≤ d) {σ : HP} (hy : Lay σ) {s : Nat} (hs : s < 3) {L : LB} (hr : slR σ s L) (hw : wf0 L) {i x : Nat} (hx : (lT L)[i]? = some x) : clR PG0 MX d 205 [vR 101, vI s, vI i] σ = some (((x : Nat) : Int), σ) := by
  obtain ⟨d, rfl⟩ := ob1 (show 1 ≤ d by omega)
  have y1 := hy.1; have k101 := y101_m1 hy; have p102 := y101_0 hy; have k102 := y102_m1 hy; have l102 := y102_m2 hy
  have hl := wf_len hw
  have hi : i < (lT L).length := (List.getElem?_eq_some_iff.mp hx).1
  have e := hr.2.2.2.2.2 i x hx
  rw [ce_205, sg_205_0]
  (try simp (disch := omega) only [p102, e, wr_id2])
  repeat (first | refine step_t (by with_reducible exact True.intro) ?_ | refine step_t (by omega) ?_ | refine step_f (by omega) ?_)
  rfl
theorem st_get {L : LB} {i : Nat} (hi : i < (lT L).length) : ∃ x, (lT L)[i]? = some x := ⟨_, List.getElem?_eq_getElem hi⟩
/-- has -/
theorem s216 {d : Nat} (h : 1 ≤ d) (σ : HP) {x k : Nat} (hx : x < 2147483648) (hk : k < 32) : clR PG0 MX d 216 [vI x, vI k] σ = some (b2i (decide (btN x k = 1)), σ) := by
  obtain ⟨d, rfl⟩ := ob1 (show 1 ≤ d by omega)
  rw [ce_216, sg_216_0, i_shr_n hk hx]
  have hd : x / 2 ^ k ≤ x := Nat.div_le_self _ _
  have e : i_and ((x / 2 ^ k : Nat) : Int) 1 = ((x / 2 ^ k &&& 1 : Nat) : Int) := i_and_n (b := 1) (by omega) (by omega)
  rw [e, Nat.and_one_is_mod]
  have h2 : x / 2 ^ k % 2 < 2 := Nat.mod_lt _ (by omega)
  unfold btN
  (try simp (disch := omega) only [wr_id2])
  refine step_i (fun g => ?_) (fun g => ?_)
  · rw [decide_eq_false (by omega)]; rfl
  · rw [decide_eq_true (by omega)]; rfl
/-- lowest -/
theorem btN_low : ∀ m x, 0 < x → x < 2 ^ m → btN x (lowN m x) = 1 ∧ ∀ i, i < lowN m x → btN x i = 0 := by
  intro m
  induction m with
  | zero => intro x h1 h2; simp at h2; omega
  | succ m ih =>
    intro x h1 h2
    unfold lowN
    by_cases z : x % 2 = 1
    · rw [if_pos z]
      exact ⟨by unfold btN; rw [Nat.pow_zero, Nat.div_one]; exact z, fun i hi => by omega⟩
    · rw [if_neg z]
      obtain ⟨e1, e2⟩ := ih (x / 2) (by omega) (by rw [Nat.pow_succ] at h2; omega)
      have hb : ∀ k, btN x (1 + k) = btN (x / 2) k := fun k => by
        unfold btN
        rw [Nat.add_comm 1, Nat.pow_succ, Nat.mul_comm, Nat.div_div_eq_div_mul]
      refine ⟨by rw [hb]; exact e1, fun i hi => ?_⟩
      match i with
      | 0 => unfold btN; rw [Nat.pow_zero, Nat.div_one]; omega
      | i + 1 => rw [Nat.add_comm i 1, hb]; exact e2 i (by omega)
theorem s243l {d : Nat} (h : 1 ≤ d) (σ : HP) {x : Nat} (h0 : 0 < x) (hx : x < 2147483648) : ∀ m k, k + m = lowN 31 x → rsP PG0 MX d 243 2 [vI x, vI k] [] σ = some (((lowN 31 x : Nat) : Int), σ) := by
  obtain ⟨e1, e2⟩ := btN_low 31 x h0 (by omega)
  obtain ⟨y, -, e3⟩ := low_sp 31 x h0 (by omega)
  intro m
  induction m with
  | zero =>
    intro k hk
    have : k = lowN 31 x := by omega
    subst this
    rw [sg_243_2]
    refine step_c (s216 h σ hx (k := lowN 31 x) (by omega)) ?_
    try dsimp only
    rw [decide_eq_true e1, wr_b2i]
    refine step_t (show b2i true ≠ 0 by decide) ?_
    rfl
  | succ m ih =>
    intro k hk
    rw [sg_243_2]
    refine step_c (s216 h σ hx (k := k) (by omega)) ?_
    try dsimp only
    rw [decide_eq_false (by have := e2 k (by omega); omega), wr_b2i]
    refine step_f (show ¬ (b2i false ≠ 0) by decide) ?_
    exact ih (k + 1) (by omega)
theorem s243 {d : Nat} (h : 2 ≤ d) (σ : HP) {x : Nat} (h0 : 0 < x) (hx : x < 2147483648) : clR PG0 MX d 243 [vI x] σ = some (((lowN 31 x : Nat) : Int), σ) := by
  obtain ⟨d, rfl⟩ := ob1 (show 1 ≤ d by omega)
  rw [ce_243, sg_243_0]
  exact s243l (d := d) (by omega) σ h0 hx (lowN 31 x) 0 (by omega)
/-- ones -/
theorem pop_e (n : Nat) : pop n = n / 2 ^ 0 % 2 + n / 2 ^ 1 % 2 + n / 2 ^ 2 % 2 + n / 2 ^ 3 % 2 + n / 2 ^ 4 % 2 + n / 2 ^ 5 % 2 + n / 2 ^ 6 % 2 + n / 2 ^ 7 % 2 + n / 2 ^ 8 % 2 + n / 2 ^ 9 % 2 + n / 2 ^ 10 % 2 + n / 2 ^ 11 % 2 + n / 2 ^ 12 % 2 + n / 2 ^ 13 % 2 + n / 2 ^ 14 % 2 + n / 2 ^ 15 % 2 := by
  show 0 + _ + _ + _ + _ + _ + _ + _ + _ + _ + _ + _ + _ + _ + _ + _ + _ = _
  rw [Nat.zero_add]
theorem pop_16 (n : Nat) : pop n ≤ 16 := by
  rw [pop_e]
  omega
theorem bit_and_sub {x k y : Nat} (e : x = 2 ^ k * (2 * y + 1)) : ∀ i, (x &&& (x - 1)) / 2 ^ i % 2 = if i = k then 0 else x / 2 ^ i % 2 := by
  intro i
  have tb : ∀ z : Nat, z / 2 ^ i % 2 = (z.testBit i).toNat := fun z => by
    rw [Nat.testBit_eq_decide_div_mod_eq]
    have : z / 2 ^ i % 2 < 2 := Nat.mod_lt _ (by omega)
    by_cases q : z / 2 ^ i % 2 = 1
    · rw [decide_eq_true q, q]; rfl
    · rw [decide_eq_false q]; show _ = 0; omega
  rw [tb, tb, Nat.testBit_and]
  have hp := Nat.two_pow_pos k
  have e1 : x - 1 = 2 ^ k * (2 * y) + (2 ^ k - 1) := by
    rw [e, Nat.mul_add, Nat.mul_one]
    omega
  have h1 : 2 ^ k - 1 < 2 ^ k := by omega
  rw [e1, e, Nat.testBit_two_pow_mul_add _ h1, Nat.testBit_two_pow_mul]
  by_cases z : i < k
  · rw [if_pos z, if_neg (by omega), decide_eq_false (show ¬ i ≥ k by omega)]
    rfl
  · rw [if_neg z, decide_eq_true (show i ≥ k by omega), Bool.true_and]
    match hj : i - k with
    | 0 =>
      rw [if_pos (by omega)]
      simp [Nat.testBit_zero]
    | j + 1 =>
      rw [if_neg (by omega), Nat.testBit_succ, Nat.testBit_succ]
      rw [show 2 * y / 2 = y by omega, show (2 * y + 1) / 2 = y by omega]
      cases y.testBit j <;> rfl
theorem pop_clr {x : Nat} (h0 : 0 < x) (hx : x < 65536) : pop (x &&& (x - 1)) + 1 = pop x := by
  obtain ⟨y, e, hk⟩ := low_sp 16 x h0 hx
  have hb := bit_and_sub e
  have h1 := btN_low 16 x h0 hx
  have h1 := h1.1
  unfold btN at h1
  generalize lowN 16 x = k at *
  rw [pop_e, pop_e x, hb 0, hb 1, hb 2, hb 3, hb 4, hb 5, hb 6, hb 7, hb 8, hb 9, hb 10, hb 11, hb 12, hb 13, hb 14, hb 15]
  rcases (show k = 0 ∨ k = 1 ∨ k = 2 ∨ k = 3 ∨ k = 4 ∨ k = 5 ∨ k = 6 ∨ k = 7 ∨ k = 8 ∨ k = 9 ∨ k = 10 ∨ k = 11 ∨ k = 12 ∨ k = 13 ∨ k = 14 ∨ k = 15 by omega) with q | q | q | q | q | q | q | q | q | q | q | q | q | q | q | q <;> subst q <;> simp only [reduceIte, Nat.reduceEqDiff] at h1 ⊢ <;> omega
theorem s209l {d : Nat} (σ : HP) : ∀ (m x a : Nat) (u : MV), pop x = m → x < 65536 → a + m ≤ 100 → rsP PG0 MX d 209 4 [u, vI a, vI x] [] σ = some (((a + m : Nat) : Int), σ) := by
  intro m
  induction m with
  | zero =>
    intro x a u hp hx ha
    have : x = 0 := by
      rcases Nat.eq_zero_or_pos x with z | z
      · exact z
      · have := pop_clr z hx; omega
    subst this
    rw [sg_209_4]
    refine step_t (show wr ((0 : Nat) : Int) = 0 by decide) ?_
    rfl
  | succ m ih =>
    intro x a u hp hx ha
    have h0 : 0 < x := by
      rcases Nat.eq_zero_or_pos x with z | z
      · subst z; rw [show pop 0 = 0 from rfl] at hp; omega
      · exact z
    have e := pop_clr h0 hx
    have e1 : i_and (x : Int) ((x : Int) - 1) = ((x &&& (x - 1) : Nat) : Int) := by
      rw [show (x : Int) - 1 = ((x - 1 : Nat) : Int) by omega]
      exact i_and_n (by omega) (by omega)
    have h2 : x &&& (x - 1) ≤ x := Nat.and_le_left
    have p16 := pop_16 x
    rw [sg_209_4]
    (try simp (disch := omega) only [e1, wr_id2])
    repeat (first | refine step_t (by with_reducible exact True.intro) ?_ | refine step_t (by omega) ?_ | refine step_f (by omega) ?_)
    have q := ih (x &&& (x - 1)) (a + 1) vU (by omega) (by omega) (by omega)
    rw [show a + 1 + m = a + (m + 1) by omega] at q
    exact q
theorem s209 {d : Nat} (h : 1 ≤ d) (σ : HP) {x : Nat} (hx : x < 65536) : clR PG0 MX d 209 [vI x] σ = some (((pop x : Nat) : Int), σ) := by
  obtain ⟨d, rfl⟩ := ob1 (show 1 ≤ d by omega)
  rw [ce_209, sg_209_0]
  have p16 := pop_16 x
  have q := s209l (d := d) σ (pop x) x 0 (vI x) rfl hx (by omega)
  rw [Nat.zero_add] at q
  exact q
/-- isInScope -/
theorem s208 {d : Nat} (h : 2 ≤ d) {σ : HP} (hy : Lay σ) {s : Nat} (hs : s < 3) {L : LB} (hr : slR σ s L) (hw : wf0 L) {x : Nat} (hx : x < 65536) : clR PG0 MX d 208 [vR 101, vI s, vI x] σ = some (b2i (inSc L x), σ) := by
  obtain ⟨d, rfl⟩ := ob1 (show 1 ≤ d by omega)
  have y1 := hy.1; have k101 := y101_m1 hy; have p102 := y101_0 hy; have k102 := y102_m1 hy; have l102 := y102_m2 hy
  have p16 := pop_16 x
  have hA := hw.2.1
  have hB := hw.2.2.1
  rw [ce_208, sg_208_0]
  refine step_c (s209 (by omega) σ hx) ?_
  try dsimp only
  repeat (first | refine step_t (by with_reducible exact True.intro) ?_ | refine step_t (by omega) ?_ | refine step_f (by omega) ?_)
  refine step_c (s181 (by omega) hy hs (j := 1) (by omega) (by omega)) ?_
  try dsimp only
  repeat (first | refine step_t (by with_reducible exact True.intro) ?_ | refine step_t (by omega) ?_ | refine step_f (by omega) ?_)
  refine step_c (s181 (by omega) hy hs (j := 2) (by omega) (by omega)) ?_
  try dsimp only
  rw [hr.2.1, hr.2.2.1]
  (try simp (disch := omega) only [wr_id2])
  refine step_c (s179 (by omega) σ (i32_n (by omega)) (i32_n (by omega)) (i32_n (by omega))) ?_
  try dsimp only
  refine step_t (b2i_01 _) ?_
  have e : decide (((lA L : Nat) : Int) ≤ ((pop x : Nat) : Int) ∧ ((pop x : Nat) : Int) ≤ ((lB L : Nat) : Int)) = inSc L x := by
    unfold inSc
    by_cases a : lA L ≤ pop x
    · by_cases b : pop x ≤ lB L
      · rw [decide_eq_true a, decide_eq_true b, decide_eq_true (by omega)]; rfl
      · rw [decide_eq_true a, decide_eq_false b, decide_eq_false (by omega)]; rfl
    · rw [decide_eq_false a, decide_eq_false (by omega)]; rfl
  rw [e]
/-- isBit, isWordOf -/
theorem s224 {d : Nat} (h : 4 ≤ d) {σ : HP} {S : AS} (hy : Lay σ) (hm : MM σ S) {s x : Int} (hs : i32 s) (hx : i32 x) : clR PG0 MX d 224 [vR 101, vI s, vI x] σ = some (b2i (match gl S s with | none => false | some L => decide (0 ≤ x ∧ x < lN0 L)), σ) := by
  obtain ⟨d, rfl⟩ := ob1 (show 1 ≤ d by omega)
  have y1 := hy.1; have k101 := y101_m1 hy; have p102 := y101_0 hy; have k102 := y102_m1 hy; have l102 := y102_m2 hy
  rw [ce_224, sg_224_0]
  repeat (first | refine step_t (by with_reducible exact True.intro) ?_ | refine step_t (by omega) ?_ | refine step_f (by omega) ?_)
  refine step_c (s180 (by omega) hy hm hs) ?_
  try dsimp only
  rw [wr_b2i]
  cases e : gl S s with
  | none =>
    refine step_t (show b2i (none : Option LB).isSome = 0 from rfl) ?_
    rfl
  | some L =>
    obtain ⟨n, rfl, hn, hr, hw, -⟩ := hm.got e
    have h8 := hw.1.1
    have h1 := hw.2.1
    refine step_f (show ¬ b2i (some L).isSome = 0 from (by decide : ¬ b2i true = 0)) ?_
    repeat (first | refine step_t (by with_reducible exact True.intro) ?_ | refine step_t (by omega) ?_ | refine step_f (by omega) ?_)
    refine step_c (s207 (by omega) hy hn hr) ?_
    try dsimp only
    rw [hx.wr]
    (try simp (disch := omega) only [wr_id2])
    refine step_c (s179 (by omega) σ hx ⟨by decide, by decide⟩ (show i32 ((lN0 L : Nat) - 1 : Int) from ⟨by omega, by omega⟩)) ?_
    try dsimp only
    rw [wr_b2i]
    by_cases z : 0 ≤ x ∧ x < lN0 L
    · rw [decide_eq_true z, decide_eq_true (by omega)]
      refine step_f (show ¬ (b2i true = 0) by decide) ?_
      rfl
    · rw [decide_eq_false z, decide_eq_false (by omega)]
      refine step_t (show b2i false = 0 by decide) ?_
      rfl
theorem s221 {d : Nat} (h : 4 ≤ d) {σ : HP} {S : AS} (hy : Lay σ) (hm : MM σ S) {s x : Int} (hs : i32 s) (hx : i32 x) : clR PG0 MX d 221 [vR 101, vI s, vI x] σ = some (b2i (match gl S s with | none => false | some L => decide (0 ≤ x ∧ x < (2 ^ lN0 L : Nat))), σ) := by
  obtain ⟨d, rfl⟩ := ob1 (show 1 ≤ d by omega)
  have y1 := hy.1; have k101 := y101_m1 hy; have p102 := y101_0 hy; have k102 := y102_m1 hy; have l102 := y102_m2 hy
  rw [ce_221, sg_221_0]
  repeat (first | refine step_t (by with_reducible exact True.intro) ?_ | refine step_t (by omega) ?_ | refine step_f (by omega) ?_)
  refine step_c (s180 (by omega) hy hm hs) ?_
  try dsimp only
  rw [wr_b2i]
  cases e : gl S s with
  | none =>
    refine step_t (show b2i (none : Option LB).isSome = 0 from rfl) ?_
    rfl
  | some L =>
    obtain ⟨n, rfl, hn, hr, hw, -⟩ := hm.got e
    have h8 := hw.1.1
    have h1 := hw.2.1
    have hp := pow8 h8
    have hp0 := Nat.two_pow_pos (lN0 L)
    refine step_f (show ¬ b2i (some L).isSome = 0 from (by decide : ¬ b2i true = 0)) ?_
    repeat (first | refine step_t (by with_reducible exact True.intro) ?_ | refine step_t (by omega) ?_ | refine step_f (by omega) ?_)
    refine step_c (s207 (by omega) hy hn hr) ?_
    try dsimp only
    rw [hx.wr, shl1 (show lN0 L < 31 by omega)]
    (try simp (disch := omega) only [wr_id2])
    refine step_c (s179 (by omega) σ hx ⟨by decide, by decide⟩ (show i32 ((2 ^ lN0 L : Nat) - 1 : Int) from ⟨by omega, by omega⟩)) ?_
    try dsimp only
    rw [wr_b2i]
    by_cases z : 0 ≤ x ∧ x < (2 ^ lN0 L : Nat)
    · rw [decide_eq_true z, decide_eq_true (by omega)]
      refine step_f (show ¬ (b2i true = 0) by decide) ?_
      rfl
    · rw [decide_eq_false z, decide_eq_false (by omega)]
      refine step_t (show b2i false = 0 by decide) ?_
      rfl
