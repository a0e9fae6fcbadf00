-- @after 30 31 35 40 41
/-! WHAT IS TOLD, AND THE TAPE -/
theorem byX_n {n : Nat} (h : n < 256) : byX (n : Int) = n := by
  unfold byX
  have e : i_and (n : Int) 255 = ((n &&& 255 : Nat) : Int) := i_and_n (b := 255) (by omega) (by omega)
  rw [e, show (255 : Nat) = 2 ^ 8 - 1 from rfl, Nat.and_two_pow_sub_one_eq_mod]
  omega
def bwr (σ0 σ : HP) (a m : Int) (l : List Nat) : Prop := (∀ c j, c < a ∨ a + 1 < c → σ c j = σ0 c j) ∧ bym σ a m ∧ byR σ a (a + 1) m l
theorem bw13 {d : Nat} (h : 1 ≤ d) {σ0 σ : HP} {a m : Int} {l : List Nat} (hb : bwr σ0 σ a m l) (h2 : m ≤ 2400) (hr : (l.length : Int) < m) (x : Int) : ∃ σ', clR PG0 MX d 13 [vR a, vI x] σ = some (0, σ') ∧ bwr σ0 σ' a m (l ++ [byX x]) := by
  obtain ⟨σ', k1, k2, k3, k4⟩ := s13 h hb.2.1 hb.2.2 h2 hr x
  exact ⟨σ', k1, fun c j hc => by rw [k2 c j hc]; exact hb.1 c j hc, k3, k4⟩
def byT (a m : Int) : List (Int × Int × Int) := [(a, -1, 1), (a, 0, a + 1), (a + 1, -1, 21), (a + 1, -2, m)]
def okY (a m : Int) : Bool := decide (32 ≤ a) && layT.all (fun t => decide (t.1 < a) || decide (a + 1 < t.1) || (byT a m).contains t)
theorem bwr.lay {σ0 σ : HP} {a m : Int} {l : List Nat} (h : Lay σ0) (hb : bwr σ0 σ a m l) (ho : okY a m = true) : Lay σ := by
  unfold okY at ho
  rw [Bool.and_eq_true] at ho
  obtain ⟨ha, ⟨m1, m2, m3, m4, m5, m6⟩, -⟩ := hb
  refine ⟨?_, fun t ht => ?_⟩
  · rw [ha _ _ (by omega)]; exact h.1
  · have e := List.all_eq_true.mp ho.2 t ht
    rw [Bool.or_eq_true, Bool.or_eq_true] at e
    rcases e with (e | e) | e
    · rw [ha _ _ (Or.inl (of_decide_eq_true e))]; exact h.2 t ht
    · rw [ha _ _ (Or.inr (of_decide_eq_true e))]; exact h.2 t ht
    · have e := List.contains_iff_mem.mp e
      simp only [byT, List.mem_cons, List.not_mem_nil, or_false] at e
      rcases e with e | e | e | e <;> subst e <;> assumption
theorem okY_80 : okY 80 400 = true := by decide +kernel
theorem okY_82 : okY 82 2400 = true := by decide +kernel
/-- the class's state when a row of bytes has become another -/
theorem CR.out {σ σ' : HP} {S : AS} {l : List Nat} (hc : CR σ S) (hb : bwr σ σ' 82 2400 l) : CR σ' (mkA S.sl S.hs S.tp S.fk S.fp l) := by
  obtain ⟨ha, -, hl⟩ := hb
  have h0 : σ (-1) 0 ≤ σ' (-1) 0 := by rw [ha _ _ (by omega)]; exact Int.le_refl _
  obtain ⟨n, n1, n2, n3⟩ := hc.nx
  refine ⟨rowO_same hc.s0 h0 (fun a j q1 q2 => ha _ _ (by omega)), rowO_same hc.s1 h0 (fun a j q1 q2 => ha _ _ (by omega)), rowO_same hc.s2 h0 (fun a j q1 q2 => ha _ _ (by omega)), ⟨n, n1, ?_, fun i s o hi => ?_⟩, ?_, hc.dl, byR_same hc.tp (fun j => ha _ _ (by omega)) (fun j => ha _ _ (by omega)), ?_, ?_, hl⟩
  · rw [ha _ _ (by omega)]; exact n2
  · obtain ⟨k1, k2, k3⟩ := n3 i s o hi
    exact ⟨k1, by rw [ha _ _ (by omega)]; exact k2, rowO_same k3 h0 (fun a j q1 q2 => ha _ _ (by omega))⟩
  · rw [ha _ _ (by omega)]; exact hc.dp
  · rw [ha _ _ (by omega)]; exact hc.fk
  · rw [ha _ _ (by omega)]; exact hc.fp
theorem CR.tap {σ σ' : HP} {S : AS} {l : List Nat} (hc : CR σ S) (hb : bwr σ σ' 80 400 l) : CR σ' (mkA S.sl S.hs l S.fk S.fp S.ot) := by
  obtain ⟨ha, -, hl⟩ := hb
  have h0 : σ (-1) 0 ≤ σ' (-1) 0 := by rw [ha _ _ (by omega)]; exact Int.le_refl _
  obtain ⟨n, n1, n2, n3⟩ := hc.nx
  refine ⟨rowO_same hc.s0 h0 (fun a j q1 q2 => ha _ _ (by omega)), rowO_same hc.s1 h0 (fun a j q1 q2 => ha _ _ (by omega)), rowO_same hc.s2 h0 (fun a j q1 q2 => ha _ _ (by omega)), ⟨n, n1, ?_, fun i s o hi => ?_⟩, ?_, hc.dl, hl, ?_, ?_, byR_same hc.ot (fun j => ha _ _ (by omega)) (fun j => ha _ _ (by omega))⟩
  · rw [ha _ _ (by omega)]; exact n2
  · obtain ⟨k1, k2, k3⟩ := n3 i s o hi
    exact ⟨k1, by rw [ha _ _ (by omega)]; exact k2, rowO_same k3 h0 (fun a j q1 q2 => ha _ _ (by omega))⟩
  · rw [ha _ _ (by omega)]; exact hc.dp
  · rw [ha _ _ (by omega)]; exact hc.fk
  · rw [ha _ _ (by omega)]; exact hc.fp
/-- octet -/
theorem c174 (S : AS) {i : Int} (hi : i32 i) : cOp 174 [vI i] S (octA S i, S) := by
  intro d σ h hy ht hc
  obtain ⟨d, rfl⟩ := ob1 (show 1 ≤ d by omega)
  have h1 := hi.1
  have h2 := hi.2
  have y1 := hy.1
  have a1 := y32_m1 hy
  have a2 := y32_4 hy
  have a3 := y82_m1 hy
  have f1 := hc.ot.1
  have f2 := hc.ot.2.1
  refine ⟨σ, ?_, FC.rf hy, hc⟩
  rw [ce_174, sg_174_0]
  have e := s19 (d := d) (by omega) (ym_82 hy) hc.ot (by omega) hi
  unfold octA
  (try simp (disch := omega) only [a2, f1, wr_id2])
  refine step_i (fun g => ?_) (fun g => ?_)
  · rw [if_neg (show ¬ 0 ≤ i by omega)]
  · repeat (first | refine step_t trivial ?_ | refine step_t (by omega) ?_ | refine step_f (by omega) ?_)
    refine step_i (fun g2 => ?_) (fun g2 => ?_)
    · repeat (first | refine step_t trivial ?_ | refine step_t (by omega) ?_ | refine step_f (by omega) ?_)
      refine step_c (e) ?_
      try dsimp only
    · rw [if_pos (show 0 ≤ i by omega), List.getElem?_eq_none (by omega)]
/-- feed -/
def fdB (x : Int) : List Nat := [byX (i_ushr x 24), byX (i_ushr x 16), byX (i_ushr x 8), byX x]
theorem bw12 {d : Nat} (h : 2 ≤ d) {σ0 σ : HP} {l : List Nat} (hb : bwr σ0 σ 80 400 l) (hr : l.length + 4 ≤ 400) (x : Int) : ∃ σ', clR PG0 MX d 12 [vR 80, vI x] σ = some (0, σ') ∧ bwr σ0 σ' 80 400 (l ++ fdB x) := by
  obtain ⟨d, rfl⟩ := ob1 (show 1 ≤ d by omega)
  obtain ⟨σ1, g1, g2⟩ := bw13 (d := d) (by omega) hb (by omega) (by omega) (i_ushr x 24)
  obtain ⟨σ2, j1, j2⟩ := bw13 (d := d) (by omega) g2 (by omega) (by rw [List.length_append]; show ((l.length + 1 : Nat) : Int) < 400; omega) (i_ushr x 16)
  obtain ⟨σ3, k1, k2⟩ := bw13 (d := d) (by omega) j2 (by omega) (by rw [List.length_append, List.length_append]; show ((l.length + 1 + 1 : Nat) : Int) < 400; omega) (i_ushr x 8)
  obtain ⟨σ4, l1, l2⟩ := bw13 (d := d) (by omega) k2 (by omega) (by rw [List.length_append, List.length_append, List.length_append]; show ((l.length + 1 + 1 + 1 : Nat) : Int) < 400; omega) x
  refine ⟨σ4, ?_, ?_⟩
  · obtain ⟨-, ⟨m1, m2, m3, m4, -⟩, -⟩ := hb
    obtain ⟨-, ⟨n1, n2, n3, n4, -⟩, -⟩ := g2
    obtain ⟨-, ⟨p1, p2, p3, p4, -⟩, -⟩ := j2
    obtain ⟨-, ⟨q1, q2, q3, q4, -⟩, -⟩ := k2
    rw [ce_12, sg_12_0]
    repeat (first | refine step_t trivial ?_ | refine step_t (by omega) ?_ | refine step_f (by omega) ?_)
    refine step_c (g1) ?_
    try dsimp only
    repeat (first | refine step_t trivial ?_ | refine step_t (by omega) ?_ | refine step_f (by omega) ?_)
    refine step_c (j1) ?_
    try dsimp only
    repeat (first | refine step_t trivial ?_ | refine step_t (by omega) ?_ | refine step_f (by omega) ?_)
    refine step_c (k1) ?_
    try dsimp only
    repeat (first | refine step_t trivial ?_ | refine step_t (by omega) ?_ | refine step_f (by omega) ?_)
    refine step_c (l1) ?_
    try dsimp only
  · have e : l ++ fdB x = l ++ [byX (i_ushr x 24)] ++ [byX (i_ushr x 16)] ++ [byX (i_ushr x 8)] ++ [byX x] := by
      simp [fdB]
    rw [e]
    exact l2
def fedA (S : AS) (a b c e f : Int) : Int × AS := if S.tp.length ≤ 380 then (((S.tp.length + 20 : Nat) : Int), (mkA S.sl S.hs (S.tp ++ fdB a ++ fdB b ++ fdB c ++ fdB e ++ fdB f) S.fk S.fp S.ot)) else (-1, S)
theorem fdB_l (x : Int) : (fdB x).length = 4 := rfl
theorem c10 (S : AS) (a b c e f : Int) : cOp 10 [vI a, vI b, vI c, vI e, vI f] S (fedA S a b c e f) := by
  intro d σ h hy ht hc
  obtain ⟨d, rfl⟩ := ob1 (show 1 ≤ d by omega)
  have y1 := hy.1
  have a1 := y32_m1 hy
  have a2 := y32_3 hy
  have a3 := y79_m1 hy
  have a4 := y79_0 hy
  have a5 := y80_m1 hy
  have a6 := y80_0 hy
  have a7 := y81_m1 hy
  have a8 := y81_m2 hy
  have f1 := hc.tp.1
  have f2 := hc.tp.2.1
  have e11 : clR PG0 MX d 11 [vR 80, vI 20] σ = some (b2i (decide (S.tp.length ≤ 380)), σ) := by
    obtain ⟨d, rfl⟩ := ob1 (show 1 ≤ d by omega)
    rw [ce_11, sg_11_0]
    (try simp (disch := omega) only [a6, a8, f1, wr_id2])
    repeat (first | refine step_t trivial ?_ | refine step_t (by omega) ?_ | refine step_f (by omega) ?_)
    refine step_i (fun g => ?_) (fun g => ?_)
    · rw [decide_eq_false (by omega)]; rfl
    · rw [decide_eq_true (by omega)]; rfl
  unfold fedA
  by_cases z : S.tp.length ≤ 380
  · rw [if_pos z]
    have b0 : bwr σ σ 80 400 S.tp := ⟨fun _ _ _ => rfl, ym_80 hy, hc.tp⟩
    obtain ⟨σ1, g1, g2⟩ := bw12 (d := d) (by omega) b0 (by omega) a
    obtain ⟨σ2, j1, j2⟩ := bw12 (d := d) (by omega) g2 (by simp only [List.length_append, fdB_l]; omega) b
    obtain ⟨σ3, k1, k2⟩ := bw12 (d := d) (by omega) j2 (by simp only [List.length_append, fdB_l]; omega) c
    obtain ⟨σ4, l1, l2⟩ := bw12 (d := d) (by omega) k2 (by simp only [List.length_append, fdB_l]; omega) e
    obtain ⟨σ5, m1, m2⟩ := bw12 (d := d) (by omega) l2 (by simp only [List.length_append, fdB_l]; omega) f
    obtain ⟨-, ⟨n1, n2, n3, n4, -⟩, -⟩ := id g2
    obtain ⟨-, ⟨p1, p2, p3, p4, -⟩, -⟩ := id j2
    obtain ⟨-, ⟨q1, q2, q3, q4, -⟩, -⟩ := id k2
    obtain ⟨-, ⟨r1, r2, r3, r4, -⟩, -⟩ := id l2
    obtain ⟨-, ⟨t1, t2, t3, t4, -⟩, t5, -⟩ := id m2
    refine ⟨σ5, ?_, ⟨fun a j q => m2.1 a j (by omega), m2.lay hy okY_80⟩, hc.tap m2⟩
    rw [ce_10, sg_10_0]
    (try simp (disch := omega) only [a2, a4, wr_id2])
    repeat (first | refine step_t trivial ?_ | refine step_t (by omega) ?_ | refine step_f (by omega) ?_)
    refine step_c (e11) ?_
    try dsimp only
    rw [decide_eq_true z, wr_b2i]
    refine step_t (show b2i true ≠ 0 by decide) ?_
    repeat (first | refine step_t trivial ?_ | refine step_t (by omega) ?_ | refine step_f (by omega) ?_)
    refine step_c (g1) ?_
    try dsimp only
    repeat (first | refine step_t trivial ?_ | refine step_t (by omega) ?_ | refine step_f (by omega) ?_)
    refine step_c (j1) ?_
    try dsimp only
    repeat (first | refine step_t trivial ?_ | refine step_t (by omega) ?_ | refine step_f (by omega) ?_)
    refine step_c (k1) ?_
    try dsimp only
    rw [sg_10_39]
    repeat (first | refine step_t trivial ?_ | refine step_t (by omega) ?_ | refine step_f (by omega) ?_)
    refine step_c (l1) ?_
    try dsimp only
    repeat (first | refine step_t trivial ?_ | refine step_t (by omega) ?_ | refine step_f (by omega) ?_)
    refine step_c (m1) ?_
    try dsimp only
    repeat (first | refine step_t trivial ?_ | refine step_t (by omega) ?_ | refine step_f (by omega) ?_)
    rw [t5]
    simp only [List.length_append, fdB_l]
  · rw [if_neg z]
    refine ⟨σ, ?_, FC.rf hy, hc⟩
    rw [ce_10, sg_10_0]
    (try simp (disch := omega) only [a2, a4, wr_id2])
    repeat (first | refine step_t trivial ?_ | refine step_t (by omega) ?_ | refine step_f (by omega) ?_)
    refine step_c (e11) ?_
    try dsimp only
    rw [decide_eq_false z, wr_b2i]
    refine step_f (show ¬ (b2i false ≠ 0) by decide) ?_
    rfl
/-- numbers -/
def dgs (n : Nat) : List Nat := (if 100 ≤ n then [48 + n / 100 % 10] else []) ++ ((if 10 ≤ n then [48 + n / 10 % 10] else []) ++ [48 + n % 10])
theorem dgs_len (n : Nat) : (dgs n).length ≤ 3 := by
  unfold dgs
  by_cases h1 : 100 ≤ n <;> by_cases h2 : 10 ≤ n <;> simp [h1, h2]
theorem bw172 {d : Nat} (h : 2 ≤ d) {σ0 σ : HP} {l : List Nat} (hb : bwr σ0 σ 82 2400 l) {n : Nat} (hn : n < 1000) (hr : l.length + 3 ≤ 2400) : ∃ σ', clR PG0 MX d 172 [vR 82, vI n] σ = some (0, σ') ∧ bwr σ0 σ' 82 2400 (l ++ dgs n) := by
  obtain ⟨d, rfl⟩ := ob1 (show 1 ≤ d by omega)
  have e100 : i_div (n : Int) 100 = ((n / 100 : Nat) : Int) := i_div_n (b := 100) (by omega) (by omega) (by omega)
  have e10 : i_div (n : Int) 10 = ((n / 10 : Nat) : Int) := i_div_n (b := 10) (by omega) (by omega) (by omega)
  have r1 : i_rem ((n / 100 : Nat) : Int) 10 = ((n / 100 % 10 : Nat) : Int) := i_rem_n (b := 10) (by omega) (by omega) (by omega)
  have r2 : i_rem ((n / 10 : Nat) : Int) 10 = ((n / 10 % 10 : Nat) : Int) := i_rem_n (b := 10) (by omega) (by omega) (by omega)
  have r3 : i_rem (n : Int) 10 = ((n % 10 : Nat) : Int) := i_rem_n (b := 10) (by omega) (by omega) (by omega)
  have key3 : ∀ (σ : HP) (l : List Nat), bwr σ0 σ 82 2400 l → l.length + 1 ≤ 2400 → ∃ σ', rsP PG0 MX d 172 40 [vR 82, vI n] [] σ = some (0, σ') ∧ bwr σ0 σ' 82 2400 (l ++ [48 + n % 10]) := by
    intro σ l hb hr
    obtain ⟨σ1, g1, g2⟩ := bw13 (d := d) (by omega) hb (by omega) (by omega) ((48 + n % 10 : Nat) : Int)
    rw [byX_n (by omega)] at g2
    refine ⟨σ1, ?_, g2⟩
    obtain ⟨-, ⟨n1, n2, n3, n4, -⟩, -⟩ := id hb
    rw [sg_172_40]
    (try simp (disch := omega) only [r3, wr_id2])
    repeat (first | refine step_t trivial ?_ | refine step_t (by omega) ?_ | refine step_f (by omega) ?_)
    refine step_c (q := (0, σ1)) ?_ rfl
    rw [← g1, Int.natCast_add]; rfl
  have key2 : ∀ (σ : HP) (l : List Nat), bwr σ0 σ 82 2400 l → l.length + 2 ≤ 2400 → ∃ σ', rsP PG0 MX d 172 20 [vR 82, vI n] [] σ = some (0, σ') ∧ bwr σ0 σ' 82 2400 (l ++ ((if 10 ≤ n then [48 + n / 10 % 10] else []) ++ [48 + n % 10])) := by
    intro σ l hb hr
    obtain ⟨-, ⟨n1, n2, n3, n4, -⟩, -⟩ := id hb
    rw [sg_172_20]
    by_cases z : 10 ≤ n
    · rw [if_pos z]
      obtain ⟨σ1, g1, g2⟩ := bw13 (d := d) (by omega) hb (by omega) (by omega) ((48 + n / 10 % 10 : Nat) : Int)
      rw [byX_n (by omega)] at g2
      obtain ⟨σ2, j1, j2⟩ := key3 σ1 _ g2 (by rw [List.length_append]; show l.length + 1 + 1 ≤ 2400; omega)
      refine ⟨σ2, ?_, by rw [← List.append_assoc]; exact j2⟩
      (try simp (disch := omega) only [e10, r2, wr_id2])
      repeat (first | refine step_t trivial ?_ | refine step_t (by omega) ?_ | refine step_f (by omega) ?_)
      refine step_c (q := (0, σ1)) ?_ j1
      rw [← g1, Int.natCast_add]; rfl
    · rw [if_neg z]
      obtain ⟨σ2, j1, j2⟩ := key3 σ _ hb (by omega)
      refine ⟨σ2, ?_, j2⟩
      (try simp (disch := omega) only [wr_id2])
      repeat (first | refine step_t trivial ?_ | refine step_t (by omega) ?_ | refine step_f (by omega) ?_)
      exact j1
  obtain ⟨-, ⟨n1, n2, n3, n4, -⟩, -⟩ := id hb
  unfold dgs
  by_cases z : 100 ≤ n
  · rw [if_pos z]
    obtain ⟨σ1, g1, g2⟩ := bw13 (d := d) (by omega) hb (by omega) (by omega) ((48 + n / 100 % 10 : Nat) : Int)
    rw [byX_n (by omega)] at g2
    obtain ⟨σ2, j1, j2⟩ := key2 σ1 _ g2 (by rw [List.length_append]; show l.length + 1 + 2 ≤ 2400; omega)
    refine ⟨σ2, ?_, by rw [← List.append_assoc]; exact j2⟩
    rw [ce_172, sg_172_0]
    (try simp (disch := omega) only [e100, r1, wr_id2])
    repeat (first | refine step_t trivial ?_ | refine step_t (by omega) ?_ | refine step_f (by omega) ?_)
    refine step_c (q := (0, σ1)) ?_ j1
    rw [← g1, Int.natCast_add]; rfl
  · rw [if_neg z]
    obtain ⟨σ2, j1, j2⟩ := key2 σ _ hb (by omega)
    refine ⟨σ2, ?_, j2⟩
    rw [ce_172, sg_172_0]
    (try simp (disch := omega) only [wr_id2])
    repeat (first | refine step_t trivial ?_ | refine step_t (by omega) ?_ | refine step_f (by omega) ?_)
    exact j1
/-- texts -/
theorem Txt.get {σ : HP} (h : Txt σ) {i : Nat} {t : List Nat} (e : txC[i]? = some t) : 0 < (2 + i : Int) ∧ (2 + i : Int) < 32 ∧ σ (2 + i) (-1) = 30 := by
  have hi : i < 10 := by
    rcases Nat.lt_or_ge i 10 with z | z
    · exact z
    · rw [List.getElem?_eq_none (by exact z)] at e; cases e
  exact ⟨by omega, by omega, (h i t e).1⟩
theorem tx_128 : ∀ t ∈ txC, ∀ x ∈ t, x < 128 := by decide
theorem bw171 {d : Nat} (h : 7 ≤ d) {σ0 : HP} {i : Nat} {t : List Nat} (e : txC[i]? = some t) : ∀ (m k : Nat) (σ : HP) (l : List Nat), k + m = t.length → Txt σ → bwr σ0 σ 82 2400 l → l.length + m ≤ 2400 → ∃ σ', rsP PG0 MX d 171 2 [vR 82, vR (2 + i), vI k] [] σ = some (0, σ') ∧ bwr σ0 σ' 82 2400 (l ++ t.drop k) := by
  intro m
  induction m with
  | zero =>
    intro k σ l hk ht hb hr
    have hg := ht.get e
    obtain ⟨t1, t2, t3⟩ := ht i t e
    refine ⟨σ, ?_, by rw [List.drop_eq_nil_of_le (by omega), List.append_nil]; exact hb⟩
    have ht10 : t.length ≤ 10 := by
      have : ∀ t ∈ txC, t.length ≤ 10 := by decide
      exact this t (List.mem_of_getElem? e)
    rw [sg_171_2]
    obtain ⟨-, ⟨n1, n2, n3, n4, -⟩, -⟩ := id hb
    repeat (first | refine step_t trivial ?_ | refine step_t (by omega) ?_ | refine step_f (by omega) ?_)
    refine step_c (p_len (by omega) σ hg) ?_
    try dsimp only
    (try simp (disch := omega) only [t2, wr_id2])
    repeat (first | refine step_t trivial ?_ | refine step_t (by omega) ?_ | refine step_f (by omega) ?_)
    rfl
  | succ m ih =>
    intro k σ l hk ht hb hr
    have hg := ht.get e
    obtain ⟨t1, t2, t3⟩ := ht i t e
    obtain ⟨x, hx⟩ : ∃ x, t[k]? = some x := ⟨_, List.getElem?_eq_getElem (by omega)⟩
    have hx2 := tx_128 t (List.mem_of_getElem? e) x (List.mem_of_getElem? hx)
    have ht10 : t.length ≤ 10 := by
      have : ∀ t ∈ txC, t.length ≤ 10 := by decide
      exact this t (List.mem_of_getElem? e)
    have hv := t3 k x hx
    obtain ⟨σ1, g1, g2⟩ := bw13 (d := d) (by omega) hb (by omega) (by omega) (x : Int)
    rw [byX_n (by omega)] at g2
    have ht1 : Txt σ1 := by
      intro i' t' e'
      obtain ⟨q1, q2, q3⟩ := ht i' t' e'
      have hg' := ht.get e'
      refine ⟨?_, ?_, fun j y hy => ?_⟩
      · rw [g2.1 _ _ (by omega), ← hb.1 _ _ (by omega)]; exact q1
      · rw [g2.1 _ _ (by omega), ← hb.1 _ _ (by omega)]; exact q2
      · rw [g2.1 _ _ (by omega), ← hb.1 _ _ (by omega)]; exact q3 j y hy
    obtain ⟨σ2, j1, j2⟩ := ih (k + 1) σ1 _ (by omega) ht1 g2 (by rw [List.length_append]; show l.length + 1 + m ≤ 2400; omega)
    have e2 : t.drop k = x :: t.drop (k + 1) := by
      rw [List.drop_eq_getElem_cons (by omega)]
      have := List.getElem?_eq_getElem (l := t) (i := k) (by omega)
      rw [hx] at this
      rw [Option.some.inj this]
    refine ⟨σ2, ?_, by rw [e2, List.append_cons]; exact j2⟩
    obtain ⟨-, ⟨n1, n2, n3, n4, -⟩, -⟩ := id hb
    rw [sg_171_2]
    repeat (first | refine step_t trivial ?_ | refine step_t (by omega) ?_ | refine step_f (by omega) ?_)
    refine step_c (p_len (by omega) σ hg) ?_
    try dsimp only
    (try simp (disch := omega) only [t2, wr_id2])
    repeat (first | refine step_t trivial ?_ | refine step_t (by omega) ?_ | refine step_f (by omega) ?_)
    have hq := p_chr (d := d) (by omega) σ (a := 2 + i) (i := k) ⟨hg.1, hg.2.1, hg.2.2, by rw [wrn (by omega)]; omega, by rw [wrn (by omega), t2]; omega⟩
    rw [wrn (by omega), hv] at hq
    refine step_c (hq) ?_
    try dsimp only
    repeat (first | refine step_t trivial ?_ | refine step_t (by omega) ?_ | refine step_f (by omega) ?_)
    refine step_c (g1) ?_
    try dsimp only
    exact j1
theorem s171 {d : Nat} (h : 8 ≤ d) {σ0 σ : HP} {i : Nat} {t : List Nat} (e : txC[i]? = some t) (ht : Txt σ) {l : List Nat} (hb : bwr σ0 σ 82 2400 l) (hr : l.length + t.length ≤ 2400) : ∃ σ', clR PG0 MX d 171 [vR 82, vR (2 + i)] σ = some (0, σ') ∧ bwr σ0 σ' 82 2400 (l ++ t) := by
  obtain ⟨d, rfl⟩ := ob1 (show 1 ≤ d by omega)
  obtain ⟨σ', k1, k2⟩ := bw171 (d := d) (by omega) e t.length 0 σ l (by omega) ht hb hr
  refine ⟨σ', ?_, k2⟩
  rw [ce_171, sg_171_0]
  exact k1
theorem Txt.bw {σ0 σ : HP} {l : List Nat} (h : Txt σ0) (hb : bwr σ0 σ 82 2400 l) : Txt σ := by
  intro i' t' e'
  obtain ⟨q1, q2, q3⟩ := h i' t' e'
  have hg' := h.get e'
  refine ⟨?_, ?_, fun j y hy => ?_⟩
  · rw [hb.1 _ _ (by omega)]; exact q1
  · rw [hb.1 _ _ (by omega)]; exact q2
  · rw [hb.1 _ _ (by omega)]; exact q3 j y hy
