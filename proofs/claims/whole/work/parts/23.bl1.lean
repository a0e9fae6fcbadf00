theorem up_s (σ : HP) (a i v : Int) : up σ a i v a i = v := by simp [up]
theorem up_n1 (σ : HP) {a b : Int} (i v j : Int) (h : b ≠ a) : up σ a i v b j = σ b j := by simp [up, h]
theorem up_n2 (σ : HP) (a b : Int) {i j : Int} (v : Int) (h : j ≠ i) : up σ a i v b j = σ b j := by simp [up, h]
theorem b2i_01 (b : Bool) : b2i b = 0 ∨ b2i b = 1 := by cases b <;> simp [b2i]
theorem wr_b2i (b : Bool) : wr (b2i b) = b2i b := by cases b <;> decide
theorem wr_1 : wr 1 = 1 := by decide
theorem wf_len {L : LB} (h : wf0 L) : (lT L).length ≤ 256 := h.2.2.2.2.1
theorem wr_len {L : LB} (h : wf0 L) : wr (((lT L).length : Nat) : Int) = ((lT L).length : Nat) := wrn (by have := wf_len h; omega)
theorem wr_N {L : LB} (h : wf0 L) : wr ((lN0 L : Nat) : Int) = (lN0 L : Nat) := wrn (by have := h.1; omega)
theorem wr_A {L : LB} (h : wf0 L) : wr ((lA L : Nat) : Int) = (lA L : Nat) := wrn (by have := h.2.1; omega)
theorem wr_B {L : LB} (h : wf0 L) : wr ((lB L : Nat) : Int) = (lB L : Nat) := wrn (by have := h.2.2.1; omega)
theorem wr_wd {L : LB} (h : wf0 L) (i : Nat) : wr ((wd L i : Nat) : Int) = (wd L i : Nat) := wrn (by have := wd_256 h i; omega)
/-- allWords -/
theorem s47 {d : Nat} (h : 1 ≤ d) {σ : HP} {b : Int} {L : LB} (hb : blr σ b L) (hw : wf0 L) : clR PG0 MX d 47 [vR b] σ = some (((2 ^ lN0 L : Nat) : Int), σ) := by
  obtain ⟨d, rfl⟩ := ob1 (show 1 ≤ d by omega)
  obtain ⟨⟨m1, m2, m3, m4, m5, m6, m7, m8, m9⟩, f3, f4, f5, f6, fs, fw⟩ := id hb
  rw [ce_47, sg_47_0]
  refine step_t (by omega) ?_
  rw [f3]
  have h8 := pow8 hw.1
  have h9 := hw.1
  have e : i_shl 1 (lN0 L : Nat) = ((1 * 2 ^ lN0 L : Nat) : Int) := i_shl_n (a := 1) (by omega) (by omega)
  rw [e, Nat.one_mul]
/-- shown -/
theorem s42 {d : Nat} (h : 2 ≤ d) {σ : HP} {b : Int} {L : LB} (hb : blr σ b L) (hw : wf0 L) : clR PG0 MX d 42 [vR b] σ = some (((shN L : Nat) : Int), σ) := by
  obtain ⟨d, rfl⟩ := ob1 (show 1 ≤ d by omega)
  obtain ⟨⟨m1, m2, m3, m4, m5, m6, m7, m8, m9⟩, f3, f4, f5, f6, fs, fw⟩ := id hb
  rw [ce_42, sg_42_0]
  refine step_t (by omega) ?_
  refine step_c (s43 (by omega) hb hw) ?_
  try dsimp only
  rw [wr_b2i, f6]
  unfold shN
  cases lpB L
  · refine step_t (show b2i false = 0 from rfl) ?_
    refine step_t (by omega) ?_
    rfl
  · refine step_f (show ¬ b2i true = 0 by decide) ?_
    refine step_t (by omega) ?_
    rfl
/-- hasBit -/
theorem s30 {d : Nat} (h : 1 ≤ d) {σ : HP} {b x : Int} {L : LB} (hb : blr σ b L) (hw : wf0 L) : clR PG0 MX d 30 [vR b, vI x] σ = some (b2i (decide (0 ≤ wr x ∧ wr x < lN0 L)), σ) := by
  obtain ⟨d, rfl⟩ := ob1 (show 1 ≤ d by omega)
  obtain ⟨⟨m1, m2, m3, m4, m5, m6, m7, m8, m9⟩, f3, f4, f5, f6, fs, fw⟩ := id hb
  rw [ce_30, sg_30_0, f3, wr_N hw]
  refine step_i (fun h1 => ?_) (fun h1 => ?_)
  · rw [decide_eq_false (by omega)]; rfl
  · refine step_t (by omega) ?_
    refine step_i (fun h2 => ?_) (fun h2 => ?_)
    · rw [decide_eq_false (by omega)]; rfl
    · rw [decide_eq_true (by omega)]; rfl
/-- hasWord -/
theorem s68 {d : Nat} (h : 2 ≤ d) {σ : HP} {b x : Int} {L : LB} (hb : blr σ b L) (hw : wf0 L) : clR PG0 MX d 68 [vR b, vI x] σ = some (b2i (decide (0 ≤ wr x ∧ wr x < (2 ^ lN0 L : Nat))), σ) := by
  obtain ⟨d, rfl⟩ := ob1 (show 1 ≤ d by omega)
  obtain ⟨⟨m1, m2, m3, m4, m5, m6, m7, m8, m9⟩, f3, f4, f5, f6, fs, fw⟩ := id hb
  rw [ce_68, sg_68_0]
  have h8 := pow8 hw.1
  refine step_i (fun h1 => ?_) (fun h1 => ?_)
  · rw [decide_eq_false (by omega)]; rfl
  · refine step_t (by omega) ?_
    refine step_c (s47 (by omega) hb hw) ?_
    try dsimp only
    rw [wrn (n := 2 ^ lN0 L) (by omega)]
    refine step_i (fun h2 => ?_) (fun h2 => ?_)
    · rw [decide_eq_false (by omega)]; rfl
    · rw [decide_eq_true (by omega)]; rfl
/-- hasPlace -/
theorem s91 {d : Nat} (h : 1 ≤ d) {σ : HP} {b x : Int} {L : LB} (hb : blr σ b L) (hw : wf0 L) : clR PG0 MX d 91 [vR b, vI x] σ = some (b2i (decide (0 ≤ wr x ∧ wr x ≤ (lT L).length)), σ) := by
  obtain ⟨d, rfl⟩ := ob1 (show 1 ≤ d by omega)
  obtain ⟨⟨m1, m2, m3, m4, m5, m6, m7, m8, m9⟩, f3, f4, f5, f6, fs, fw⟩ := id hb
  rw [ce_91, sg_91_0, f6, wr_len hw]
  refine step_i (fun h1 => ?_) (fun h1 => ?_)
  · rw [decide_eq_false (by omega)]; rfl
  · refine step_t (by omega) ?_
    refine step_i (fun h2 => ?_) (fun h2 => ?_)
    · rw [decide_eq_false (by omega)]; rfl
    · rw [decide_eq_true (by omega)]; rfl
def btN (w k : Nat) : Nat := w / 2 ^ k % 2
/-- bitAt -/
theorem s64 {d : Nat} (h : 1 ≤ d) {σ : HP} {b : Int} {L : LB} {i k : Nat} (hb : blr σ b L) (hw : wf0 L) (hi : i ≤ (lT L).length) (hk : k < 32) : clR PG0 MX d 64 [vR b, vI i, vI k] σ = some (((btN (wd L i) k : Nat) : Int), σ) := by
  obtain ⟨d, rfl⟩ := ob1 (show 1 ≤ d by omega)
  obtain ⟨⟨m1, m2, m3, m4, m5, m6, m7, m8, m9⟩, f3, f4, f5, f6, fs, fw⟩ := id hb
  have hl := wf_len hw
  have q := wd_256 hw i
  rw [ce_64, sg_64_0]
  simp only [m5, wrn (n := i) (by omega), fw i hi]
  repeat (refine step_t (by omega) ?_)
  rw [i_shr_n hk (by omega)]
  have hd : wd L i / 2 ^ k ≤ wd L i := Nat.div_le_self _ _
  have e : i_and ((wd L i / 2 ^ k : Nat) : Int) 1 = ((wd L i / 2 ^ k &&& 1 : Nat) : Int) := i_and_n (b := 1) (by omega) (by omega)
  rw [e, Nat.and_one_is_mod]
  rfl
/-- lastWord -/
theorem s112 {d : Nat} (h : 1 ≤ d) {σ : HP} {b : Int} {L : LB} (hb : blr σ b L) (hw : wf0 L) : clR PG0 MX d 112 [vR b] σ = some (((wd L (lT L).length : Nat) : Int), σ) := by
  obtain ⟨d, rfl⟩ := ob1 (show 1 ≤ d by omega)
  obtain ⟨⟨m1, m2, m3, m4, m5, m6, m7, m8, m9⟩, f3, f4, f5, f6, fs, fw⟩ := id hb
  have hl := wf_len hw
  rw [ce_112, sg_112_0]
  simp only [m5, f6, wr_len hw, fw _ (Nat.le_refl _)]
  repeat (refine step_t (by omega) ?_)
  rfl
/-- inScope -/
theorem s49 {d : Nat} (h : 2 ≤ d) {σ : HP} {b : Int} {L : LB} {w : Nat} (hb : blr σ b L) (hw : wf0 L) (hn : w < 256) : clR PG0 MX d 49 [vR b, vI w] σ = some (b2i (inSc L w), σ) := by
  obtain ⟨d, rfl⟩ := ob1 (show 1 ≤ d by omega)
  obtain ⟨⟨m1, m2, m3, m4, m5, m6, m7, m8, m9⟩, f3, f4, f5, f6, fs, fw⟩ := id hb
  have hp := pop_le w hn
  rw [ce_49, sg_49_0]
  refine step_c (s50 (by omega) σ hn) ?_
  try dsimp only
  simp only [f4, f5, wr_A hw, wr_B hw, wrn (n := pop w) (show pop w < 2147483648 by omega)]
  refine step_t (by omega) ?_
  unfold inSc
  refine step_i (fun h1 => ?_) (fun h1 => ?_)
  · rw [decide_eq_false (by omega)]; rfl
  · refine step_t (by omega) ?_
    rw [decide_eq_true (show lA L ≤ pop w by omega)]
    refine step_i (fun h2 => ?_) (fun h2 => ?_)
    · rw [decide_eq_false (by omega)]; rfl
    · rw [decide_eq_true (by omega)]; rfl
/-- how many below n hold -/
def cntB (p : Nat → Bool) : Nat → Nat
  | 0 => 0
  | n + 1 => cntB p n + (bif p n then 1 else 0)
theorem cntB_le (p : Nat → Bool) : ∀ n, cntB p n ≤ n := by
  intro n
  induction n with
  | zero => exact Nat.le_refl _
  | succ n ih =>
    show cntB p n + _ ≤ n + 1
    cases p n
    · simp only [cond_false]; omega
    · simp only [cond_true]; omega
/-- scopeSize -/
theorem s48 {d : Nat} (h : 3 ≤ d) {σ : HP} {b : Int} {L : LB} (hb : blr σ b L) (hw : wf0 L) : clR PG0 MX d 48 [vR b] σ = some (((cntB (inSc L) (2 ^ lN0 L) : Nat) : Int), σ) := by
  obtain ⟨d, rfl⟩ := ob1 (show 1 ≤ d by omega)
  obtain ⟨⟨m1, m2, m3, m4, m5, m6, m7, m8, m9⟩, f3, f4, f5, f6, fs, fw⟩ := id hb
  have h8 := pow8 hw.1
  rw [ce_48, sg_48_0]
  refine loopE (St := Unit) (fun i _ => rsP PG0 MX d 48 4 [vR b, vI (cntB (inSc L) i : Nat), vI i] [] σ) (fun _ _ => True) _ (2 ^ lN0 L) (fun i s hi _ => ?_) (fun s _ => ?_) (2 ^ lN0 L) 0 () (by omega) trivial
  · right
    refine ⟨(), ?_, trivial⟩
    try dsimp only
    rw [sg_48_4]
    refine step_t (by omega) ?_
    refine step_c (s47 (by omega) hb hw) ?_
    try dsimp only
    rw [wrn (n := 2 ^ lN0 L) (by omega), wrn (n := i) (by omega)]
    refine step_f (by omega) ?_
    refine step_t (by omega) ?_
    refine step_c (s49 (by omega) hb hw (by omega)) ?_
    try dsimp only
    rw [wr_b2i]
    show _ = rsP PG0 MX d 48 4 [vR b, vI ((cntB (inSc L) i + (bif inSc L i then 1 else 0) : Nat) : Int), vI ((i + 1 : Nat) : Int)] [] σ
    cases inSc L i
    · refine step_t (show b2i false = 0 from rfl) ?_
      rfl
    · refine step_f (show ¬ b2i true = 0 by decide) ?_
      rfl
  · try dsimp only
    rw [sg_48_4]
    refine step_t (by omega) ?_
    refine step_c (s47 (by omega) hb hw) ?_
    try dsimp only
    rw [wrn (n := 2 ^ lN0 L) (by omega)]
    refine step_t (by omega) ?_
    rfl
/-- how often a bit is turned -/
def tuN (L : LB) (x : Nat) : Nat := cntB (fun i => decide ((lT L)[i]? = some x)) (lT L).length
theorem st_at {σ : HP} {b : Int} {L : LB} (hb : blr σ b L) {i : Nat} (hi : i < (lT L).length) : ∃ x, (lT L)[i]? = some x ∧ σ (b + 1) i = x := by
  obtain ⟨x, hx⟩ : ∃ x, (lT L)[i]? = some x := ⟨_, List.getElem?_eq_getElem hi⟩
  exact ⟨x, hx, hb.2.2.2.2.2.1 i x hx⟩
theorem st_lt {L : LB} (hw : wf0 L) {i x : Nat} (h : (lT L)[i]? = some x) : x < lN0 L := hw.2.2.2.2.2 x (List.mem_of_getElem? h)
/-- turnsOf -/
theorem s72 {d : Nat} (h : 1 ≤ d) {σ : HP} {b : Int} {L : LB} {x : Nat} (hb : blr σ b L) (hw : wf0 L) (hx : x < 1000) : clR PG0 MX d 72 [vR b, vI x] σ = some (((tuN L x : Nat) : Int), σ) := by
  obtain ⟨d, rfl⟩ := ob1 (show 1 ≤ d by omega)
  obtain ⟨⟨m1, m2, m3, m4, m5, m6, m7, m8, m9⟩, f3, f4, f5, f6, fs, fw⟩ := id hb
  have hl := wf_len hw
  rw [ce_72, sg_72_0]
  refine loopE (St := Unit) (fun i _ => rsP PG0 MX d 72 4 [vR b, vI x, vI (cntB (fun i => decide ((lT L)[i]? = some x)) i : Nat), vI i] [] σ) (fun _ _ => True) _ (lT L).length (fun i s hi _ => ?_) (fun s _ => ?_) (lT L).length 0 () (by omega) trivial
  · right
    refine ⟨(), ?_, trivial⟩
    try dsimp only
    obtain ⟨y, y1, y2⟩ := st_at hb hi
    have y3 := st_lt hw y1
    have h9 := hw.1
    rw [sg_72_4]
    simp only [m4, f6, wr_len hw, wrn (n := i) (by omega), y2, wrn (n := y) (by omega), wrn (n := x) (by omega)]
    refine step_t (by omega) ?_
    refine step_f (by omega) ?_
    repeat (refine step_t (by omega) ?_)
    show _ = rsP PG0 MX d 72 4 [vR b, vI x, vI ((cntB (fun i => decide ((lT L)[i]? = some x)) i + (bif decide ((lT L)[i]? = some x) then 1 else 0) : Nat) : Int), vI ((i + 1 : Nat) : Int)] [] σ
    rw [y1]
    by_cases e : y = x
    · refine step_f (by omega) ?_
      rw [e, decide_eq_true rfl]
      rfl
    · refine step_t (by omega) ?_
      rw [decide_eq_false (fun z => e (Option.some.inj z))]
      rfl
  · try dsimp only
    rw [sg_72_4]
    simp only [f6, wr_len hw]
    refine step_t (by omega) ?_
    refine step_t (by omega) ?_
    rfl
