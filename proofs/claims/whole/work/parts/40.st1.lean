-- @after 30 31 35
/-! SLOTS AND ACTS OF THE CLASS -/
theorem y33_s {σ : HP} (h : Lay σ) {s : Nat} (hs : s < 3) : σ 33 (s : Nat) = 34 + 3 * (s : Int) := by
  rcases (show s = 0 ∨ s = 1 ∨ s = 2 by omega) with e | e | e <;> subst e
  · exact y33_0 h
  · exact y33_1 h
  · exact y33_2 h
theorem y47_i {σ : HP} (h : Lay σ) {s : Nat} (hs : s < 10) : σ 47 (s : Nat) = 48 + 3 * (s : Int) := by
  rcases (show s = 0 ∨ s = 1 ∨ s = 2 ∨ s = 3 ∨ s = 4 ∨ s = 5 ∨ s = 6 ∨ s = 7 ∨ s = 8 ∨ s = 9 by omega) with e | e | e | e | e | e | e | e | e | e <;> subst e
  · exact y47_0 h
  · exact y47_1 h
  · exact y47_2 h
  · exact y47_3 h
  · exact y47_4 h
  · exact y47_5 h
  · exact y47_6 h
  · exact y47_7 h
  · exact y47_8 h
  · exact y47_9 h
theorem yb_s {σ : HP} (h : Lay σ) {s : Nat} (hs : s < 3) : blm σ (34 + 3 * (s : Int)) := by
  rcases (show s = 0 ∨ s = 1 ∨ s = 2 by omega) with e | e | e <;> subst e
  · exact yb_34 h
  · exact yb_37 h
  · exact yb_40 h
theorem yb_h {σ : HP} (h : Lay σ) {s : Nat} (hs : s < 10) : blm σ (48 + 3 * (s : Int)) := by
  rcases (show s = 0 ∨ s = 1 ∨ s = 2 ∨ s = 3 ∨ s = 4 ∨ s = 5 ∨ s = 6 ∨ s = 7 ∨ s = 8 ∨ s = 9 by omega) with e | e | e | e | e | e | e | e | e | e <;> subst e
  · exact yb_48 h
  · exact yb_51 h
  · exact yb_54 h
  · exact yb_57 h
  · exact yb_60 h
  · exact yb_63 h
  · exact yb_66 h
  · exact yb_69 h
  · exact yb_72 h
  · exact yb_75 h
/-- isSlot -/
theorem s16 {d : Nat} (h : 1 ≤ d) (σ : HP) {s : Int} (hs : i32 s) : clR PG0 MX d 16 [vI s] σ = some (b2i (decide (0 ≤ s ∧ s < 3)), σ) := by
  obtain ⟨d, rfl⟩ := ob1 (show 1 ≤ d by omega)
  rw [ce_16, sg_16_0]
  have h1 := hs.1
  have h2 := hs.2
  (try simp (disch := omega) only [wr_id2])
  refine step_i (fun g => ?_) (fun g => ?_)
  · rw [decide_eq_false (by omega)]; rfl
  · refine step_i (fun g2 => ?_) (fun g2 => ?_)
    · rw [decide_eq_false (by omega)]; rfl
    · rw [decide_eq_true (by omega)]; rfl
/-- isFlag -/
theorem s82 {d : Nat} (h : 1 ≤ d) (σ : HP) {s : Int} (hs : i32 s) : clR PG0 MX d 82 [vI s] σ = some (b2i (decide (0 ≤ s ∧ s ≤ 1)), σ) := by
  obtain ⟨d, rfl⟩ := ob1 (show 1 ≤ d by omega)
  rw [ce_82, sg_82_0]
  have h1 := hs.1
  have h2 := hs.2
  (try simp (disch := omega) only [wr_id2])
  refine step_i (fun g => ?_) (fun g => ?_)
  · rw [decide_eq_true (by omega)]; rfl
  · refine step_i (fun g2 => ?_) (fun g2 => ?_)
    · rw [decide_eq_false (by omega)]; rfl
    · rw [decide_eq_true (by omega)]; rfl
/-- asNumber -/
theorem s52 {d : Nat} (h : 1 ≤ d) (σ : HP) (z : Bool) : clR PG0 MX d 52 [vI (b2i z)] σ = some (b2i z, σ) := by
  obtain ⟨d, rfl⟩ := ob1 (show 1 ≤ d by omega)
  rw [ce_52, sg_52_0, wr_b2i]
  cases z
  · refine step_t (show b2i false = 0 by decide) ?_
    rfl
  · refine step_f (show ¬ (b2i true = 0) by decide) ?_
    rfl
/-- listIn -/
def lbA (S : AS) (s : Int) : Int := if (gl S s).isSome = true then 34 + 3 * s else 0
theorem s41 {d : Nat} (h : 2 ≤ d) {σ : HP} {S : AS} (hy : Lay σ) (hc : CR σ S) {s : Int} (hs : i32 s) : clR PG0 MX d 41 [vR 32, vI s] σ = some (lbA S s, σ) := by
  obtain ⟨d, rfl⟩ := ob1 (show 1 ≤ d by omega)
  rw [ce_41, sg_41_0]
  have h1 := hs.1
  have h2 := hs.2
  have y1 := hy.1
  have a1 := y32_m1 hy
  have a2 := y32_0 hy
  have a3 := y33_m1 hy
  have a4 := y33_m2 hy
  refine step_c (s16 (by omega) σ hs) ?_
  try dsimp only
  rw [wr_b2i]
  unfold lbA gl
  by_cases z : 0 ≤ s ∧ s < 3
  · rw [decide_eq_true z, if_pos z]
    refine step_f (show ¬ (b2i true = 0) by decide) ?_
    obtain ⟨L, r1, r2, r3, r4⟩ := hc.slot s.toNat (by omega)
    have e1 : ((s.toNat : Nat) : Int) = s := by omega
    have e2 := y33_s hy (s := s.toNat) (by omega)
    rw [e1] at r1 r3 e2
    obtain ⟨⟨m1, m2, m3, m4, m5, m6, m7, m8, m9⟩, f3, f4, f5, f6, fs, fw⟩ := id r1
    (try simp (disch := omega) only [a2, e2, r3, wr_b2i, wr_id2])
    repeat (first | refine step_t trivial ?_ | refine step_t (by omega) ?_ | refine step_f (by omega) ?_)
    cases (S.sl s.toNat).isSome
    · refine step_f (show ¬ (b2i false ≠ 0) by decide) ?_
      rfl
    · refine step_t (show b2i true ≠ 0 by decide) ?_
      (try simp (disch := omega) only [a2, e2, wr_id2])
      repeat (first | refine step_t trivial ?_ | refine step_t (by omega) ?_ | refine step_f (by omega) ?_)
      rfl
  · rw [decide_eq_false z, if_neg z]
    refine step_t (show b2i false = 0 by decide) ?_
    rfl
/-- slotsAsBits -/
def sbF (S : AS) : Nat → Nat → Nat → Nat
  | 0, _, a => a
  | m + 1, i, a => sbF S m (i + 1) (bif (S.sl i).isSome then a ||| 2 ^ i else a)
theorem s39l {d : Nat} {σ : HP} {S : AS} (hy : Lay σ) (hc : CR σ S) : ∀ (m i a : Nat), i + m = 3 → a < 256 → rsP PG0 MX d 39 4 [vR 32, vI a, vI i] [] σ = some (((sbF S m i a : Nat) : Int), σ) := by
  have y1 := hy.1
  have a1 := y32_m1 hy
  have a2 := y32_0 hy
  have a3 := y33_m1 hy
  have a4 := y33_m2 hy
  intro m
  induction m with
  | zero =>
    intro i a hi ha
    rw [sg_39_4]
    (try simp (disch := omega) only [wr_id2])
    repeat (first | refine step_t trivial ?_ | refine step_t (by omega) ?_ | refine step_f (by omega) ?_)
    rfl
  | succ m ih =>
    intro i a hi ha
    obtain ⟨L, r1, r2, r3, r4⟩ := hc.slot i (by omega)
    have e2 := y33_s hy (s := i) (by omega)
    obtain ⟨⟨m1, m2, m3, m4, m5, m6, m7, m8, m9⟩, f3, f4, f5, f6, fs, fw⟩ := id r1
    have q2 : 2 ^ i < 256 := Nat.pow_lt_pow_right (a := 2) (by omega) (show i < 8 by omega)
    have q4 : a ||| 2 ^ i < 256 := Nat.or_lt_two_pow (n := 8) ha q2
    have es : i_shl 1 (i : Int) = ((2 ^ i : Nat) : Int) := by
      have := i_shl_n (a := 1) (k := i) (by omega) (by omega)
      rw [Nat.one_mul] at this
      exact this
    rw [sg_39_4]
    (try simp (disch := omega) only [a2, e2, r3, wr_b2i, es, i_or_n (a := a) (b := 2 ^ i) (by omega) (by omega), wr_id2])
    repeat (first | refine step_t trivial ?_ | refine step_t (by omega) ?_ | refine step_f (by omega) ?_)
    unfold sbF
    cases (S.sl i).isSome
    · refine step_t (show b2i false = 0 by decide) ?_
      exact ih (i + 1) a (by omega) ha
    · refine step_f (show ¬ (b2i true = 0) by decide) ?_
      exact ih (i + 1) (a ||| 2 ^ i) (by omega) q4
theorem s39 {d : Nat} (h : 1 ≤ d) {σ : HP} {S : AS} (hy : Lay σ) (hc : CR σ S) : clR PG0 MX d 39 [vR 32] σ = some (((sbF S 3 0 0 : Nat) : Int), σ) := by
  obtain ⟨d, rfl⟩ := ob1 (show 1 ≤ d by omega)
  rw [ce_39, sg_39_0]
  exact s39l (d := d) hy hc 3 0 0 (by omega) (by omega)
/-- an act is kept -/
theorem s34 {d : Nat} (h : 8 ≤ d) {σ : HP} {S : AS} (hy : Lay σ) (hc : CR σ S) {s : Nat} (hs : s < 3) : ∃ σ', clR PG0 MX d 34 [vR 46, vI s, vR (34 + 3 * (s : Int))] σ = some (0, σ') ∧ (∀ a j, (a < 46 ∨ 78 < a) → σ' a j = σ a j) ∧ Lay σ' ∧ CR σ' (mkA S.sl (((s, S.sl s) :: S.hs).take 10) S.tp S.fk S.fp S.ot) := by
  obtain ⟨d, rfl⟩ := ob1 (show 1 ≤ d by omega)
  have y1 := hy.1
  have a1 := y46_m1 hy
  have a2 := y46_0 hy
  have a3 := y46_1 hy
  have a4 := y47_m1 hy
  have a5 := y47_m2 hy
  obtain ⟨n, n1, n2, n3⟩ := hc.nx
  have dl := hc.dl
  have dp := hc.dp
  have e47 := y47_i hy n1
  have hbm := yb_h hy n1
  obtain ⟨L, r1, r2, r3, r4⟩ := hc.slot s hs
  have rb := b2i_01 (S.sl s).isSome
  obtain ⟨σ1, g1, g2, g3, g4⟩ := s35 (d := d) (by omega) (σ := σ) (b := 48 + 3 * (n : Int)) (c := 34 + 3 * (s : Int)) hbm r1 r2 (by omega) (by rw [r3]; exact rb)
  have hy1 : Lay σ1 := hy.ag3 g2 g3.1 (okB_h n n1)
  have z1 := hy1.1
  have c1 := y46_m1 hy1
  have c2 := y46_1 hy1
  have c3 := y78_m1 hy1
  have c4 := y78_m2 hy1
  have d1 : σ1 46 2 = n := by rw [g2 _ _ (by omega)]; exact n2
  have d2 : σ1 46 3 = (S.hs.length : Nat) := by rw [g2 _ _ (by omega)]; exact dp
  have hy2 : ∀ v : Int, Lay (up σ1 78 n v) := fun v => hy1.upd (by decide +kernel) (by decide) (by omega)
  have hy3 : ∀ v x : Int, Lay (up (up σ1 78 n v) 46 2 x) := fun v x => (hy2 v).upf (by decide +kernel) (by decide)
  have hy4 : ∀ v x t : Int, Lay (up (up (up σ1 78 n v) 46 2 x) 46 3 t) := fun v x t => (hy3 v x).upf (by decide +kernel) (by decide)
  obtain ⟨⟨x1, x2, x3, x4⟩, -⟩ := id r1
  obtain ⟨w1, w2, w3, w4⟩ := id hbm
  refine ⟨up (up (up σ1 78 n s) 46 2 (((n + 1) % 10 : Nat) : Int)) 46 3 ((min (S.hs.length + 1) 10 : Nat) : Int), ?_, fun a j q => ?_, hy4 _ _ _, ?_⟩
  · have hy9 := hy2 s
    have t1 := hy9.1
    have t2 := y46_m1 hy9
    rw [ce_34, sg_34_0]
    (try simp (disch := omega) only [a2, n2, e47, wr_id2])
    repeat (first | refine step_t trivial ?_ | refine step_t (by omega) ?_ | refine step_f (by omega) ?_)
    refine step_c (g1) ?_
    try dsimp only
    (try simp (disch := omega) only [c2, d1, wr_id2])
    repeat (first | refine step_t trivial ?_ | refine step_t (by omega) ?_ | refine step_f (by omega) ?_)
    have key : ∀ v : Int, v = (((n + 1) % 10 : Nat) : Int) → rsP PG0 MX d 34 45 [vR 46, vI s, vR (34 + 3 * (s : Int))] [vI v, vR 46] (up σ1 78 n s) = some (0, up (up (up σ1 78 n s) 46 2 (((n + 1) % 10 : Nat) : Int)) 46 3 ((min (S.hs.length + 1) 10 : Nat) : Int)) := by
      intro v hv
      subst hv
      have u1 := (hy3 s (((n + 1) % 10 : Nat) : Int)).1
      have u2 := y46_m1 (hy3 s (((n + 1) % 10 : Nat) : Int))
      have u3 : (up (up σ1 78 n s) 46 2 (((n + 1) % 10 : Nat) : Int)) 46 3 = (S.hs.length : Nat) := by
        rw [up_n2 _ _ _ _ (by omega), up_n1 _ _ _ _ (by omega)]; exact d2
      rw [sg_34_45]
      repeat (first | refine step_t trivial ?_ | refine step_t (by omega) ?_ | refine step_f (by omega) ?_)
      refine step_c (p_min (by omega) _ _ _) ?_
      try dsimp only
      (try simp (disch := omega) only [u3, wr_id2])
      repeat (first | refine step_t trivial ?_ | refine step_t (by omega) ?_ | refine step_f (by omega) ?_)
      have e : (if (10 : Int) < ((S.hs.length : Nat) : Int) + 1 then (10 : Int) else ((S.hs.length : Nat) : Int) + 1) = ((min (S.hs.length + 1) 10 : Nat) : Int) := by
        by_cases z : 10 < S.hs.length + 1
        · rw [if_pos (by omega)]; omega
        · rw [if_neg (by omega)]; omega
      rw [e]
    have u4 : (up σ1 78 (n : Int) (s : Int)) 46 2 = n := by rw [up_n1 _ _ _ _ (by omega)]; exact d1
    (try simp (disch := omega) only [u4, wr_id2])
    refine step_i (fun g => ?_) (fun g => ?_)
    · repeat (first | refine step_t trivial ?_ | refine step_t (by omega) ?_ | refine step_f (by omega) ?_)
      exact key _ (by omega)
    · exact key _ (by omega)
  · rw [up_n1 _ _ _ _ (by omega), up_n1 _ _ _ _ (by omega), up_n1 _ _ _ _ (by omega), g2 _ _ (by omega)]
  · have hsm : ∀ a j, a ≠ 46 → a ≠ 78 → (up (up (up σ1 78 n s) 46 2 (((n + 1) % 10 : Nat) : Int)) 46 3 ((min (S.hs.length + 1) 10 : Nat) : Int)) a j = σ1 a j := fun a j h1 h2 => by rw [up_n1 _ _ _ _ h1, up_n1 _ _ _ _ h1, up_n1 _ _ _ _ h2]
    have hns : σ (-1) 0 ≤ (up (up (up σ1 78 n s) 46 2 (((n + 1) % 10 : Nat) : Int)) 46 3 ((min (S.hs.length + 1) 10 : Nat) : Int)) (-1) 0 := by rw [hsm _ _ (by omega) (by omega), g2 _ _ (by omega)]; exact Int.le_refl _
    have hrow : ∀ (b : Int) (o : Option LB), rowO σ b o → (b + 2 < 46 ∨ (46 < b ∧ b + 2 < 78) ∨ 78 < b) → (b + 2 < 48 + 3 * (n : Int) ∨ 48 + 3 * (n : Int) + 2 < b) → rowO (up (up (up σ1 78 n s) 46 2 (((n + 1) % 10 : Nat) : Int)) 46 3 ((min (S.hs.length + 1) 10 : Nat) : Int)) b o := fun b o hr h1 h2 => rowO_same hr hns (fun a j q1 q2 => by rw [hsm _ _ (by omega) (by omega), g2 _ _ (by omega)])
    refine ⟨hrow _ _ hc.s0 (by omega) (by omega), hrow _ _ hc.s1 (by omega) (by omega), hrow _ _ hc.s2 (by omega) (by omega), ⟨(n + 1) % 10, by omega, ?_, fun i s' o hi => ?_⟩, ?_, ?_, byR_same hc.tp (fun j => by rw [hsm _ _ (by omega) (by omega), g2 _ _ (by omega)]) (fun j => by rw [hsm _ _ (by omega) (by omega), g2 _ _ (by omega)]), ?_, ?_, byR_same hc.ot (fun j => by rw [hsm _ _ (by omega) (by omega), g2 _ _ (by omega)]) (fun j => by rw [hsm _ _ (by omega) (by omega), g2 _ _ (by omega)])⟩
    · rw [up_n2 _ _ _ _ (by omega), up_s]
    · have hi10 : i < 10 := by
        rcases Nat.lt_or_ge i 10 with z | z
        · exact z
        · rw [List.getElem?_eq_none (by simp only [AS.hs, mkA, List.length_take]; omega)] at hi
          cases hi
      rw [List.getElem?_take_of_lt hi10] at hi
      match i, hi with
      | 0, hi =>
        have hi : some (s, S.sl s) = some (s', o) := hi
        cases hi
        have e : (((n + 1) % 10 + 9 - 0) % 10 : Nat) = n := by omega
        rw [e]
        refine ⟨hs, ?_, ?_⟩
        · rw [up_n1 _ _ _ _ (by omega), up_n1 _ _ _ _ (by omega), up_s]
        · refine ⟨L, blr_same g3 ?_ (fun a j q1 q2 => hsm a j (by omega) (by omega)), r2, ?_, r4⟩
          · rw [hsm _ _ (by omega) (by omega)]; exact Int.le_refl _
          · rw [hsm _ _ (by omega) (by omega), g4]; exact r3
      | i + 1, hi =>
        have hi : S.hs[i]? = some (s', o) := by simpa using hi
        obtain ⟨k1, k2, k3⟩ := n3 i s' o hi
        have e : (((n + 1) % 10 + 9 - (i + 1)) % 10 : Nat) = (n + 9 - i) % 10 := by omega
        have e2 : (n + 9 - i) % 10 ≠ n := by omega
        have e3 : (n + 9 - i) % 10 < 10 := by omega
        rw [e]
        refine ⟨k1, ?_, ?_⟩
        · rw [up_n1 _ _ _ _ (by omega), up_n1 _ _ _ _ (by omega), up_n2 _ _ _ _ (by omega), g2 _ _ (by omega)]
          exact k2
        · exact hrow _ _ k3 (by omega) (by omega)
    · rw [up_s]
      simp only [AS.hs, mkA, List.length_take, List.length_cons]
      omega
    · simp only [AS.hs, mkA, List.length_take, List.length_cons]
      omega
    · rw [hsm _ _ (by omega) (by omega), g2 _ _ (by omega)]; exact hc.fk
    · rw [hsm _ _ (by omega) (by omega), g2 _ _ (by omega)]; exact hc.fp
/-- a slot's row becomes another -/
theorem CR.set {σ σ' : HP} {S : AS} (hc : CR σ S) {s : Nat} (hs : s < 3) {o : Option LB} (ha : ag3 σ σ' (34 + 3 * (s : Int))) (hr : rowO σ' (34 + 3 * (s : Int)) o) : CR σ' (mkA (setS S.sl s o) S.hs S.tp S.fk S.fp S.ot) := by
  have h0 : σ (-1) 0 ≤ σ' (-1) 0 := by rw [ha _ _ (by omega)]; exact Int.le_refl _
  obtain ⟨n, n1, n2, n3⟩ := hc.nx
  have hsl : ∀ t : Nat, t < 3 → rowO σ' (34 + 3 * (t : Int)) (setS S.sl s o t) := by
    intro t ht
    unfold setS
    by_cases z : t = s
    · rw [if_pos z, z]; exact hr
    · rw [if_neg z]
      exact rowO_same (hc.slot t ht) h0 (fun a j q1 q2 => ha _ _ (by omega))
  refine ⟨hsl 0 (by omega), hsl 1 (by omega), hsl 2 (by omega), ⟨n, n1, ?_, fun i s' o' hi => ?_⟩, ?_, hc.dl, byR_same hc.tp (fun j => ha _ _ (by omega)) (fun j => ha _ _ (by omega)), ?_, ?_, byR_same hc.ot (fun j => ha _ _ (by omega)) (fun j => ha _ _ (by omega))⟩
  · rw [ha _ _ (by omega)]; exact n2
  · obtain ⟨k1, k2, k3⟩ := n3 i s' o' hi
    refine ⟨k1, ?_, rowO_same k3 h0 (fun a j q1 q2 => ha _ _ (by omega))⟩
    rw [ha _ _ (by omega)]; exact k2
  · rw [ha _ _ (by omega)]; exact hc.dp
  · rw [ha _ _ (by omega)]; exact hc.fk
  · rw [ha _ _ (by omega)]; exact hc.fp
/-- settle -/
theorem s32 {d : Nat} (h : 9 ≤ d) {σ : HP} {S : AS} (hy : Lay σ) (hc : CR σ S) {s : Nat} (hs : s < 3) {M : LB} (hm : blr σ 43 M) (hx : σ 43 2 = 1) (hw : wfL M) : ∃ σ', clR PG0 MX d 32 [vR 32, vI s] σ = some ((((lT M).length : Nat) : Int), σ') ∧ FC σ σ' ∧ CR σ' (setl S s (some M)) ∧ blr σ' (34 + 3 * (s : Int)) M ∧ blr σ' 43 M := by
  obtain ⟨d, rfl⟩ := ob1 (show 1 ≤ d by omega)
  have y1 := hy.1
  have a1 := y32_m1 hy
  have a2 := y32_0 hy
  have a3 := y32_1 hy
  have a4 := y32_2 hy
  have a5 := y33_m1 hy
  have a6 := y33_m2 hy
  have e33 := y33_s hy hs
  obtain ⟨L, r1, r2, r3, r4⟩ := hc.slot s hs
  obtain ⟨⟨x1, x2, x3, x4, x5⟩, x6⟩ := id r1
  obtain ⟨⟨v1, v2, v3, v4, v5⟩, v6⟩ := id hm
  have k1 := s33 (d := d) (by omega) (σ := σ) (b := 34 + 3 * (s : Int)) (c := 43) r1 r2 hm hw.1 (x := (S.sl s).isSome) (y := true) r3 (by rw [hx]; rfl)
  by_cases z : S.sl s = some M
  · have e1 := (r4 M z).1
    have e2 : (decide ((S.sl s).isSome = true) && decide (L = M)) = true := by rw [z, ← e1]; simp
    rw [e2] at k1
    have e3 : setl S s (some M) = S := by unfold setl; rw [if_pos z]
    rw [e3]
    subst e1
    refine ⟨σ, ?_, FC.rf hy, hc, r1, hm⟩
    rw [ce_32, sg_32_0]
    (try simp (disch := omega) only [a2, a3, e33, wr_id2])
    repeat (first | refine step_t trivial ?_ | refine step_t (by omega) ?_ | refine step_f (by omega) ?_)
    refine step_c (k1) ?_
    try dsimp only
    (try simp (disch := omega) only [wr_b2i, wr_id2])
    refine step_t (show b2i true ≠ 0 by decide) ?_
    repeat (first | refine step_t trivial ?_ | refine step_t (by omega) ?_ | refine step_f (by omega) ?_)
    rw [r1.2.2.2.2.1]
  · have e2 : (decide ((S.sl s).isSome = true) && decide (L = M)) = false := by
      cases hq : S.sl s with
      | none => rfl
      | some M' =>
        have := (r4 M' hq).1
        subst this
        rw [hq] at z
        rw [decide_eq_false (show ¬ M' = M from fun e => z (by rw [e])), Bool.and_false]
    rw [e2] at k1
    obtain ⟨σ1, g1, g2, g3, g4⟩ := s34 (d := d) (by omega) hy hc hs
    have hm1 : blr σ1 43 M := blr_same hm (by rw [g2 _ _ (by omega)]; exact Int.le_refl _) (fun a j q1 q2 => g2 a j (by omega))
    have hx1 : σ1 43 2 = 1 := by rw [g2 _ _ (by omega)]; exact hx
    obtain ⟨σ2, j1, j2, j3, j4⟩ := s35 (d := d) (by omega) (σ := σ1) (b := 34 + 3 * (s : Int)) (c := 43) (yb_s g3 hs) hm1 hw.1 (by omega) (by omega)
    have hy2 := g3.ag3 j2 j3.1 (okB_s s hs)
    have hc2 := g4.set hs (o := some M) j2 ⟨M, j3, hw.1, by rw [j4, hx1]; rfl, fun M' e => by cases e; exact ⟨rfl, hw⟩⟩
    have e3 : setl S s (some M) = actS S s (some M) := by unfold setl; rw [if_neg z]
    rw [e3]
    have b1 := g3.1
    have b2 := y32_m1 g3
    have b3 := y32_1 g3
    have b4 := y46_m1 hy
    have b5 := hy2.1
    obtain ⟨p1, p2, p3, p4, -⟩ := yb_s g3 hs
    obtain ⟨⟨t1, t2, t3, t4⟩, t5, t6, t7, t8, -⟩ := id j3
    refine ⟨σ2, ?_, ⟨fun a j q => ?_, hy2⟩, hc2, j3, ?_⟩
    · rw [ce_32, sg_32_0]
      (try simp (disch := omega) only [a2, a3, e33, wr_id2])
      repeat (first | refine step_t trivial ?_ | refine step_t (by omega) ?_ | refine step_f (by omega) ?_)
      refine step_c (k1) ?_
      try dsimp only
      (try simp (disch := omega) only [wr_b2i, wr_id2])
      refine step_f (show ¬ (b2i false ≠ 0) by decide) ?_
      (try simp (disch := omega) only [a4, wr_id2])
      repeat (first | refine step_t trivial ?_ | refine step_t (by omega) ?_ | refine step_f (by omega) ?_)
      refine step_c (g1) ?_
      try dsimp only
      (try simp (disch := omega) only [b3, wr_id2])
      repeat (first | refine step_t trivial ?_ | refine step_t (by omega) ?_ | refine step_f (by omega) ?_)
      refine step_c (j1) ?_
      try dsimp only
      repeat (first | refine step_t trivial ?_ | refine step_t (by omega) ?_ | refine step_f (by omega) ?_)
      rw [t8]
    · rw [j2 _ _ (by omega), g2 _ _ (by omega)]
    · exact blr_same hm1 (by rw [j2 _ _ (by omega)]; exact Int.le_refl _) (fun a j q1 q2 => j2 a j (by omega))
