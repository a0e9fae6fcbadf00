/-! THE CONSTRUCTORS -/
abbrev TB : Type := List (Int × Int × Int)
def lkT : TB → Int → Int → Int
  | [], _, _ => 0
  | t :: l, p, k => if p = t.1 ∧ k = t.2.1 then t.2.2 else lkT l p k
theorem lk_s (a j v : Int) (l : TB) : lkT ((a, j, v) :: l) a j = v := if_pos ⟨rfl, rfl⟩
theorem lk_n {a j v p k : Int} {l : TB} (h : ¬ (p = a ∧ k = j)) : lkT ((a, j, v) :: l) p k = lkT l p k := if_neg h
def TR (σ0 σ : HP) (n m : Int) (T : TB) : Prop := σ (-1) 0 = n ∧ σ (-1) 1 = m ∧ 32 ≤ n ∧ (∀ a j, 0 < a → a < 32 → σ a j = σ0 a j) ∧ (∀ a j, 32 ≤ a → a < n → σ a j = lkT T a j) ∧ ∀ a j, n ≤ a → lkT T a j = 0
theorem TR.at {σ0 σ : HP} {n m : Int} {T : TB} (h : TR σ0 σ n m T) {a j v : Int} (h1 : 32 ≤ a) (h2 : a < n) (e : lkT T a j = v) : σ a j = v := (h.2.2.2.2.1 a j h1 h2).trans e
theorem TR.nO {σ0 σ : HP} {n m : Int} {T : TB} (h : TR σ0 σ n m T) (ci k : Int) {n' m' : Int} (e1 : n' = n + 1) (e2 : m' = m + k) : TR σ0 (newO σ ci k) n' m' ((n, -1, ci) :: T) := by
  obtain ⟨h1, h2, h3, h4, h5, h6⟩ := h
  subst e1; subst e2
  refine ⟨?_, ?_, by omega, fun a j q1 q2 => ?_, fun a j q1 q2 => ?_, fun a j q => by rw [lk_n (by omega)]; exact h6 a j (by omega)⟩
  · show (if (-1 : Int) = σ (-1) 0 then _ else if (-1 : Int) = -1 then (if (0 : Int) = 0 then σ (-1) 0 + 1 else _) else _) = _
    rw [if_neg (by omega), if_pos rfl, if_pos rfl, h1]
  · show (if (-1 : Int) = σ (-1) 0 then _ else if (-1 : Int) = -1 then (if (1 : Int) = 0 then _ else if (1 : Int) = 1 then σ (-1) 1 + k else _) else _) = _
    rw [if_neg (by omega), if_pos rfl, if_neg (by omega), if_pos rfl, h2]
  · show (if a = σ (-1) 0 then _ else if a = -1 then _ else σ a j) = _
    rw [if_neg (by omega), if_neg (by omega)]
    exact h4 a j q1 q2
  · show (if a = σ (-1) 0 then (if j = -1 then ci else 0) else if a = -1 then _ else σ a j) = _
    by_cases z : a = n
    · rw [if_pos (by omega)]
      by_cases z2 : j = -1
      · rw [if_pos z2, z, z2, lk_s]
      · rw [if_neg z2, lk_n (by omega), h6 a j (by omega)]
    · rw [if_neg (by omega), if_neg (by omega), lk_n (by omega)]
      exact h5 a j q1 (by omega)
theorem TR.nA {σ0 σ : HP} {n m : Int} {T : TB} (h : TR σ0 σ n m T) (kd k : Int) {n' m' : Int} (e1 : n' = n + 1) (e2 : m' = m + k) : TR σ0 (newA σ kd k) n' m' ((n, -1, kd) :: (n, -2, k) :: T) := by
  obtain ⟨h1, h2, h3, h4, h5, h6⟩ := h
  subst e1; subst e2
  refine ⟨?_, ?_, by omega, fun a j q1 q2 => ?_, fun a j q1 q2 => ?_, fun a j q => by rw [lk_n (by omega), lk_n (by omega)]; exact h6 a j (by omega)⟩
  · show (if (-1 : Int) = σ (-1) 0 then _ else if (-1 : Int) = -1 then (if (0 : Int) = 0 then σ (-1) 0 + 1 else _) else _) = _
    rw [if_neg (by omega), if_pos rfl, if_pos rfl, h1]
  · show (if (-1 : Int) = σ (-1) 0 then _ else if (-1 : Int) = -1 then (if (1 : Int) = 0 then _ else if (1 : Int) = 1 then σ (-1) 1 + k else _) else _) = _
    rw [if_neg (by omega), if_pos rfl, if_neg (by omega), if_pos rfl, h2]
  · show (if a = σ (-1) 0 then _ else if a = -1 then _ else σ a j) = _
    rw [if_neg (by omega), if_neg (by omega)]
    exact h4 a j q1 q2
  · show (if a = σ (-1) 0 then (if j = -1 then kd else if j = -2 then k else 0) else if a = -1 then _ else σ a j) = _
    by_cases z : a = n
    · rw [if_pos (by omega)]
      by_cases z2 : j = -1
      · rw [if_pos z2, z, z2, lk_s]
      · rw [if_neg z2, lk_n (by omega)]
        by_cases z3 : j = -2
        · rw [if_pos z3, z, z3, lk_s]
        · rw [if_neg z3, lk_n (by omega), h6 a j (by omega)]
    · rw [if_neg (by omega), if_neg (by omega), lk_n (by omega), lk_n (by omega)]
      exact h5 a j q1 (by omega)
theorem TR.up {σ0 σ : HP} {n m : Int} {T : TB} (h : TR σ0 σ n m T) {a : Int} (j v : Int) (h1 : 32 ≤ a) (h2 : a < n) : TR σ0 (up σ a j v) n m ((a, j, v) :: T) := by
  obtain ⟨g1, g2, g3, g4, g5, g6⟩ := h
  refine ⟨by rw [up_n1 _ _ _ _ (by omega)]; exact g1, by rw [up_n1 _ _ _ _ (by omega)]; exact g2, g3, fun p k q1 q2 => by rw [up_n1 _ _ _ _ (by omega)]; exact g4 p k q1 q2, fun p k q1 q2 => ?_, fun p k q => by rw [lk_n (by omega)]; exact g6 p k q⟩
  by_cases z : p = a
  · subst z
    by_cases z2 : k = j
    · subst z2
      rw [up_s, lk_s]
    · rw [up_n2 _ _ _ _ z2, lk_n (by omega)]
      exact g5 p k q1 q2
  · rw [up_n1 _ _ _ _ z, lk_n (by omega)]
    exact g5 p k q1 q2

def cT1 (n : Int) (T : TB) : TB := (n, 2, 0) :: (n, 1, n + 2) :: (n + 2, -1, 20) :: (n + 2, -2, 257) :: (n, 0, n + 1) :: (n + 1, -1, 20) :: (n + 1, -2, 256) :: T
theorem s1 {d : Nat} (h : 7 ≤ d) {σ0 σ : HP} {n m : Int} {T : TB} (hT : TR σ0 σ (n + 1) m T) (hn : 32 ≤ n) (hc : lkT T n (-1) = 0) : ∃ σ', clR PG0 MX d 1 [vR n] σ = some (0, σ') ∧ TR σ0 σ' (n + 3) (m + 513) (cT1 n T) := by
  obtain ⟨d, rfl⟩ := ob1 (show 1 ≤ d by omega)
  have A1 := hT.nA 20 256 (n' := n + 2) (m' := m + 256) (by omega) (by omega)
  have a1 := A1.at (a := n) (j := -1) (v := 0) (by omega) (by omega) (by (repeat rw [lk_n (by omega)]); exact hc)
  have A2 := A1.up (a := n) 0 (n + 1) (by omega) (by omega)
  have a2 := A2.at (a := n) (j := -1) (v := 0) (by omega) (by omega) (by (repeat rw [lk_n (by omega)]); exact hc)
  have A3 := A2.nA 20 257 (n' := n + 3) (m' := m + 513) (by omega) (by omega)
  have a3 := A3.at (a := n) (j := -1) (v := 0) (by omega) (by omega) (by (repeat rw [lk_n (by omega)]); exact hc)
  have A4 := A3.up (a := n) 1 (n + 2) (by omega) (by omega)
  have a4 := A4.at (a := n) (j := -1) (v := 0) (by omega) (by omega) (by (repeat rw [lk_n (by omega)]); exact hc)
  have A5 := A4.up (a := n) 2 (0) (by omega) (by omega)
  have a5 := A5.at (a := n) (j := -1) (v := 0) (by omega) (by omega) (by (repeat rw [lk_n (by omega)]); exact hc)
  have a0 := hT.at (a := n) (j := -1) (v := 0) (by omega) (by omega) hc
  refine ⟨_, ?_, A5⟩
  rw [ce_1, sg_1_0]
  repeat (first | ((with_reducible refine step_t ?_ ?_); with_reducible exact True.intro) | ((with_reducible refine step_t ?_ ?_); omega) | ((with_reducible refine step_f ?_ ?_); omega))
  refine step_c (p_obj (by omega) σ _) ?_
  try dsimp only
  (try simp (disch := omega) only [and_true, hT.1, A1.1, a1, A2.1, a2, A3.1, a3, A4.1, a4, A5.1, a5, a0, wr_id2])
  repeat (first | ((with_reducible refine step_t ?_ ?_); with_reducible exact True.intro) | ((with_reducible refine step_t ?_ ?_); omega) | ((with_reducible refine step_f ?_ ?_); omega))
  rw [sg_1_22]
  (try simp (disch := omega) only [and_true, hT.1, A1.1, a1, A2.1, a2, A3.1, a3, A4.1, a4, A5.1, a5, a0, wr_id2])
  repeat (first | ((with_reducible refine step_t ?_ ?_); with_reducible exact True.intro) | ((with_reducible refine step_t ?_ ?_); omega) | ((with_reducible refine step_f ?_ ?_); omega))
  rfl
def cT6 (T : TB) : TB := (84, 4, 89) :: (89, -1, 20) :: (89, -2, 9) :: (84, 3, 88) :: (88, -1, 20) :: (88, -2, 256) :: (84, 2, 87) :: (87, -1, 20) :: (87, -2, 256) :: (84, 1, 86) :: (86, -1, 20) :: (86, -2, 256) :: (84, 0, 85) :: (85, -1, 20) :: (85, -2, 256) :: T
theorem s6 {d : Nat} (h : 7 ≤ d) {σ0 σ : HP} {m : Int} {T : TB} (hT : TR σ0 σ (85) m T) (hc : lkT T 84 (-1) = 7) : ∃ σ', clR PG0 MX d 6 [vR 84] σ = some (0, σ') ∧ TR σ0 σ' (90) (m + 1033) (cT6 T) := by
  obtain ⟨d, rfl⟩ := ob1 (show 1 ≤ d by omega)
  have A1 := hT.nA 20 256 (n' := 86) (m' := m + 256) (by omega) (by omega)
  have a1 := A1.at (a := 84) (j := -1) (v := 7) (by omega) (by omega) (by (repeat rw [lk_n (by omega)]); exact hc)
  have A2 := A1.up (a := 84) 0 (85) (by omega) (by omega)
  have a2 := A2.at (a := 84) (j := -1) (v := 7) (by omega) (by omega) (by (repeat rw [lk_n (by omega)]); exact hc)
  have A3 := A2.nA 20 256 (n' := 87) (m' := m + 512) (by omega) (by omega)
  have a3 := A3.at (a := 84) (j := -1) (v := 7) (by omega) (by omega) (by (repeat rw [lk_n (by omega)]); exact hc)
  have A4 := A3.up (a := 84) 1 (86) (by omega) (by omega)
  have a4 := A4.at (a := 84) (j := -1) (v := 7) (by omega) (by omega) (by (repeat rw [lk_n (by omega)]); exact hc)
  have A5 := A4.nA 20 256 (n' := 88) (m' := m + 768) (by omega) (by omega)
  have a5 := A5.at (a := 84) (j := -1) (v := 7) (by omega) (by omega) (by (repeat rw [lk_n (by omega)]); exact hc)
  have A6 := A5.up (a := 84) 2 (87) (by omega) (by omega)
  have a6 := A6.at (a := 84) (j := -1) (v := 7) (by omega) (by omega) (by (repeat rw [lk_n (by omega)]); exact hc)
  have A7 := A6.nA 20 256 (n' := 89) (m' := m + 1024) (by omega) (by omega)
  have a7 := A7.at (a := 84) (j := -1) (v := 7) (by omega) (by omega) (by (repeat rw [lk_n (by omega)]); exact hc)
  have A8 := A7.up (a := 84) 3 (88) (by omega) (by omega)
  have a8 := A8.at (a := 84) (j := -1) (v := 7) (by omega) (by omega) (by (repeat rw [lk_n (by omega)]); exact hc)
  have A9 := A8.nA 20 9 (n' := 90) (m' := m + 1033) (by omega) (by omega)
  have a9 := A9.at (a := 84) (j := -1) (v := 7) (by omega) (by omega) (by (repeat rw [lk_n (by omega)]); exact hc)
  have A10 := A9.up (a := 84) 4 (89) (by omega) (by omega)
  have a10 := A10.at (a := 84) (j := -1) (v := 7) (by omega) (by omega) (by (repeat rw [lk_n (by omega)]); exact hc)
  have a0 := hT.at (a := 84) (j := -1) (v := 7) (by omega) (by omega) hc
  refine ⟨_, ?_, A10⟩
  rw [ce_6, sg_6_0]
  repeat (first | ((with_reducible refine step_t ?_ ?_); with_reducible exact True.intro) | ((with_reducible refine step_t ?_ ?_); omega) | ((with_reducible refine step_f ?_ ?_); omega))
  refine step_c (p_obj (by omega) σ _) ?_
  try dsimp only
  (try simp (disch := omega) only [and_true, hT.1, A1.1, a1, A2.1, a2, A3.1, a3, A4.1, a4, A5.1, a5, A6.1, a6, A7.1, a7, A8.1, a8, A9.1, a9, A10.1, a10, a0, wr_id2])
  repeat (first | ((with_reducible refine step_t ?_ ?_); with_reducible exact True.intro) | ((with_reducible refine step_t ?_ ?_); omega) | ((with_reducible refine step_f ?_ ?_); omega))
  rw [sg_6_22]
  (try simp (disch := omega) only [and_true, hT.1, A1.1, a1, A2.1, a2, A3.1, a3, A4.1, a4, A5.1, a5, A6.1, a6, A7.1, a7, A8.1, a8, A9.1, a9, A10.1, a10, a0, wr_id2])
  repeat (first | ((with_reducible refine step_t ?_ ?_); with_reducible exact True.intro) | ((with_reducible refine step_t ?_ ?_); omega) | ((with_reducible refine step_f ?_ ?_); omega))
  rw [sg_6_40]
  (try simp (disch := omega) only [and_true, hT.1, A1.1, a1, A2.1, a2, A3.1, a3, A4.1, a4, A5.1, a5, A6.1, a6, A7.1, a7, A8.1, a8, A9.1, a9, A10.1, a10, a0, wr_id2])
  repeat (first | ((with_reducible refine step_t ?_ ?_); with_reducible exact True.intro) | ((with_reducible refine step_t ?_ ?_); omega) | ((with_reducible refine step_f ?_ ?_); omega))
  rfl
def cT7 (T : TB) : TB := (90, 2, 93) :: (93, -1, 20) :: (93, -2, 257) :: (90, 1, 92) :: (92, -1, 20) :: (92, -2, 257) :: (90, 0, 91) :: (91, -1, 20) :: (91, -2, 256) :: T
theorem s7 {d : Nat} (h : 7 ≤ d) {σ0 σ : HP} {m : Int} {T : TB} (hT : TR σ0 σ (91) m T) (hc : lkT T 90 (-1) = 6) : ∃ σ', clR PG0 MX d 7 [vR 90] σ = some (0, σ') ∧ TR σ0 σ' (94) (m + 770) (cT7 T) := by
  obtain ⟨d, rfl⟩ := ob1 (show 1 ≤ d by omega)
  have A1 := hT.nA 20 256 (n' := 92) (m' := m + 256) (by omega) (by omega)
  have a1 := A1.at (a := 90) (j := -1) (v := 6) (by omega) (by omega) (by (repeat rw [lk_n (by omega)]); exact hc)
  have A2 := A1.up (a := 90) 0 (91) (by omega) (by omega)
  have a2 := A2.at (a := 90) (j := -1) (v := 6) (by omega) (by omega) (by (repeat rw [lk_n (by omega)]); exact hc)
  have A3 := A2.nA 20 257 (n' := 93) (m' := m + 513) (by omega) (by omega)
  have a3 := A3.at (a := 90) (j := -1) (v := 6) (by omega) (by omega) (by (repeat rw [lk_n (by omega)]); exact hc)
  have A4 := A3.up (a := 90) 1 (92) (by omega) (by omega)
  have a4 := A4.at (a := 90) (j := -1) (v := 6) (by omega) (by omega) (by (repeat rw [lk_n (by omega)]); exact hc)
  have A5 := A4.nA 20 257 (n' := 94) (m' := m + 770) (by omega) (by omega)
  have a5 := A5.at (a := 90) (j := -1) (v := 6) (by omega) (by omega) (by (repeat rw [lk_n (by omega)]); exact hc)
  have A6 := A5.up (a := 90) 2 (93) (by omega) (by omega)
  have a6 := A6.at (a := 90) (j := -1) (v := 6) (by omega) (by omega) (by (repeat rw [lk_n (by omega)]); exact hc)
  have a0 := hT.at (a := 90) (j := -1) (v := 6) (by omega) (by omega) hc
  refine ⟨_, ?_, A6⟩
  rw [ce_7, sg_7_0]
  repeat (first | ((with_reducible refine step_t ?_ ?_); with_reducible exact True.intro) | ((with_reducible refine step_t ?_ ?_); omega) | ((with_reducible refine step_f ?_ ?_); omega))
  refine step_c (p_obj (by omega) σ _) ?_
  try dsimp only
  (try simp (disch := omega) only [and_true, hT.1, A1.1, a1, A2.1, a2, A3.1, a3, A4.1, a4, A5.1, a5, A6.1, a6, a0, wr_id2])
  repeat (first | ((with_reducible refine step_t ?_ ?_); with_reducible exact True.intro) | ((with_reducible refine step_t ?_ ?_); omega) | ((with_reducible refine step_f ?_ ?_); omega))
  rw [sg_7_22]
  (try simp (disch := omega) only [and_true, hT.1, A1.1, a1, A2.1, a2, A3.1, a3, A4.1, a4, A5.1, a5, A6.1, a6, a0, wr_id2])
  repeat (first | ((with_reducible refine step_t ?_ ?_); with_reducible exact True.intro) | ((with_reducible refine step_t ?_ ?_); omega) | ((with_reducible refine step_f ?_ ?_); omega))
  rfl
def cT8 (T : TB) : TB := (94, 1, 96) :: (96, -1, 20) :: (96, -2, 8) :: (94, 0, 95) :: (95, -1, 20) :: (95, -2, 8) :: T
theorem s8 {d : Nat} (h : 7 ≤ d) {σ0 σ : HP} {m : Int} {T : TB} (hT : TR σ0 σ (95) m T) (hc : lkT T 94 (-1) = 4) : ∃ σ', clR PG0 MX d 8 [vR 94] σ = some (0, σ') ∧ TR σ0 σ' (97) (m + 16) (cT8 T) := by
  obtain ⟨d, rfl⟩ := ob1 (show 1 ≤ d by omega)
  have A1 := hT.nA 20 8 (n' := 96) (m' := m + 8) (by omega) (by omega)
  have a1 := A1.at (a := 94) (j := -1) (v := 4) (by omega) (by omega) (by (repeat rw [lk_n (by omega)]); exact hc)
  have A2 := A1.up (a := 94) 0 (95) (by omega) (by omega)
  have a2 := A2.at (a := 94) (j := -1) (v := 4) (by omega) (by omega) (by (repeat rw [lk_n (by omega)]); exact hc)
  have A3 := A2.nA 20 8 (n' := 97) (m' := m + 16) (by omega) (by omega)
  have a3 := A3.at (a := 94) (j := -1) (v := 4) (by omega) (by omega) (by (repeat rw [lk_n (by omega)]); exact hc)
  have A4 := A3.up (a := 94) 1 (96) (by omega) (by omega)
  have a4 := A4.at (a := 94) (j := -1) (v := 4) (by omega) (by omega) (by (repeat rw [lk_n (by omega)]); exact hc)
  have a0 := hT.at (a := 94) (j := -1) (v := 4) (by omega) (by omega) hc
  refine ⟨_, ?_, A4⟩
  rw [ce_8, sg_8_0]
  repeat (first | ((with_reducible refine step_t ?_ ?_); with_reducible exact True.intro) | ((with_reducible refine step_t ?_ ?_); omega) | ((with_reducible refine step_f ?_ ?_); omega))
  refine step_c (p_obj (by omega) σ _) ?_
  try dsimp only
  (try simp (disch := omega) only [and_true, hT.1, A1.1, a1, A2.1, a2, A3.1, a3, A4.1, a4, a0, wr_id2])
  repeat (first | ((with_reducible refine step_t ?_ ?_); with_reducible exact True.intro) | ((with_reducible refine step_t ?_ ?_); omega) | ((with_reducible refine step_f ?_ ?_); omega))
  rfl
def cT9 (T : TB) : TB := (97, 4, 0) :: (97, 3, 0) :: (97, 2, 100) :: (100, -1, 20) :: (100, -2, 8) :: (97, 1, 99) :: (99, -1, 20) :: (99, -2, 8) :: (97, 0, 98) :: (98, -1, 20) :: (98, -2, 8) :: T
theorem s9 {d : Nat} (h : 7 ≤ d) {σ0 σ : HP} {m : Int} {T : TB} (hT : TR σ0 σ (98) m T) (hc : lkT T 97 (-1) = 2) : ∃ σ', clR PG0 MX d 9 [vR 97] σ = some (0, σ') ∧ TR σ0 σ' (101) (m + 24) (cT9 T) := by
  obtain ⟨d, rfl⟩ := ob1 (show 1 ≤ d by omega)
  have A1 := hT.nA 20 8 (n' := 99) (m' := m + 8) (by omega) (by omega)
  have a1 := A1.at (a := 97) (j := -1) (v := 2) (by omega) (by omega) (by (repeat rw [lk_n (by omega)]); exact hc)
  have A2 := A1.up (a := 97) 0 (98) (by omega) (by omega)
  have a2 := A2.at (a := 97) (j := -1) (v := 2) (by omega) (by omega) (by (repeat rw [lk_n (by omega)]); exact hc)
  have A3 := A2.nA 20 8 (n' := 100) (m' := m + 16) (by omega) (by omega)
  have a3 := A3.at (a := 97) (j := -1) (v := 2) (by omega) (by omega) (by (repeat rw [lk_n (by omega)]); exact hc)
  have A4 := A3.up (a := 97) 1 (99) (by omega) (by omega)
  have a4 := A4.at (a := 97) (j := -1) (v := 2) (by omega) (by omega) (by (repeat rw [lk_n (by omega)]); exact hc)
  have A5 := A4.nA 20 8 (n' := 101) (m' := m + 24) (by omega) (by omega)
  have a5 := A5.at (a := 97) (j := -1) (v := 2) (by omega) (by omega) (by (repeat rw [lk_n (by omega)]); exact hc)
  have A6 := A5.up (a := 97) 2 (100) (by omega) (by omega)
  have a6 := A6.at (a := 97) (j := -1) (v := 2) (by omega) (by omega) (by (repeat rw [lk_n (by omega)]); exact hc)
  have A7 := A6.up (a := 97) 3 (0) (by omega) (by omega)
  have a7 := A7.at (a := 97) (j := -1) (v := 2) (by omega) (by omega) (by (repeat rw [lk_n (by omega)]); exact hc)
  have A8 := A7.up (a := 97) 4 (0) (by omega) (by omega)
  have a8 := A8.at (a := 97) (j := -1) (v := 2) (by omega) (by omega) (by (repeat rw [lk_n (by omega)]); exact hc)
  have a0 := hT.at (a := 97) (j := -1) (v := 2) (by omega) (by omega) hc
  refine ⟨_, ?_, A8⟩
  rw [ce_9, sg_9_0]
  repeat (first | ((with_reducible refine step_t ?_ ?_); with_reducible exact True.intro) | ((with_reducible refine step_t ?_ ?_); omega) | ((with_reducible refine step_f ?_ ?_); omega))
  refine step_c (p_obj (by omega) σ _) ?_
  try dsimp only
  (try simp (disch := omega) only [and_true, hT.1, A1.1, a1, A2.1, a2, A3.1, a3, A4.1, a4, A5.1, a5, A6.1, a6, A7.1, a7, A8.1, a8, a0, wr_id2])
  repeat (first | ((with_reducible refine step_t ?_ ?_); with_reducible exact True.intro) | ((with_reducible refine step_t ?_ ?_); omega) | ((with_reducible refine step_f ?_ ?_); omega))
  rw [sg_9_20]
  (try simp (disch := omega) only [and_true, hT.1, A1.1, a1, A2.1, a2, A3.1, a3, A4.1, a4, A5.1, a5, A6.1, a6, A7.1, a7, A8.1, a8, a0, wr_id2])
  repeat (first | ((with_reducible refine step_t ?_ ?_); with_reducible exact True.intro) | ((with_reducible refine step_t ?_ ?_); omega) | ((with_reducible refine step_f ?_ ?_); omega))
  rfl
def cT175 (T : TB) : TB := (101, 27, 114) :: (114, -1, 20) :: (114, -2, 2400) :: (101, 26, 113) :: (113, -1, 20) :: (113, -2, 8) :: (101, 25, 112) :: (112, -1, 20) :: (112, -2, 8) :: (101, 24, 111) :: (111, -1, 20) :: (111, -2, 256) :: (101, 20, 110) :: (110, -1, 20) :: (110, -2, 257) :: (101, 19, 109) :: (109, -1, 22) :: (109, -2, 256) :: (101, 16, 108) :: (108, -1, 20) :: (108, -2, 256) :: (101, 15, 107) :: (107, -1, 20) :: (107, -2, 257) :: (101, 9, -1) :: (101, 6, 106) :: (106, -1, 20) :: (106, -2, 400) :: (101, 4, 105) :: (105, -1, 20) :: (105, -2, 600) :: (101, 2, 104) :: (104, -1, 20) :: (104, -2, 7830) :: (101, 1, 103) :: (103, -1, 20) :: (103, -2, 783) :: (101, 0, 102) :: (102, -1, 20) :: (102, -2, 783) :: T
theorem s175 {d : Nat} (h : 7 ≤ d) {σ0 σ : HP} {m : Int} {T : TB} (hT : TR σ0 σ (102) m T) (hc : lkT T 101 (-1) = 9) : ∃ σ', clR PG0 MX d 175 [vR 101] σ = some (0, σ') ∧ TR σ0 σ' (115) (m + 14094) (cT175 T) := by
  obtain ⟨d, rfl⟩ := ob1 (show 1 ≤ d by omega)
  have A1 := hT.nA 20 783 (n' := 103) (m' := m + 783) (by omega) (by omega)
  have a1 := A1.at (a := 101) (j := -1) (v := 9) (by omega) (by omega) (by (repeat rw [lk_n (by omega)]); exact hc)
  have A2 := A1.up (a := 101) 0 (102) (by omega) (by omega)
  have a2 := A2.at (a := 101) (j := -1) (v := 9) (by omega) (by omega) (by (repeat rw [lk_n (by omega)]); exact hc)
  have A3 := A2.nA 20 783 (n' := 104) (m' := m + 1566) (by omega) (by omega)
  have a3 := A3.at (a := 101) (j := -1) (v := 9) (by omega) (by omega) (by (repeat rw [lk_n (by omega)]); exact hc)
  have A4 := A3.up (a := 101) 1 (103) (by omega) (by omega)
  have a4 := A4.at (a := 101) (j := -1) (v := 9) (by omega) (by omega) (by (repeat rw [lk_n (by omega)]); exact hc)
  have A5 := A4.nA 20 7830 (n' := 105) (m' := m + 9396) (by omega) (by omega)
  have a5 := A5.at (a := 101) (j := -1) (v := 9) (by omega) (by omega) (by (repeat rw [lk_n (by omega)]); exact hc)
  have A6 := A5.up (a := 101) 2 (104) (by omega) (by omega)
  have a6 := A6.at (a := 101) (j := -1) (v := 9) (by omega) (by omega) (by (repeat rw [lk_n (by omega)]); exact hc)
  have A7 := A6.nA 20 600 (n' := 106) (m' := m + 9996) (by omega) (by omega)
  have a7 := A7.at (a := 101) (j := -1) (v := 9) (by omega) (by omega) (by (repeat rw [lk_n (by omega)]); exact hc)
  have A8 := A7.up (a := 101) 4 (105) (by omega) (by omega)
  have a8 := A8.at (a := 101) (j := -1) (v := 9) (by omega) (by omega) (by (repeat rw [lk_n (by omega)]); exact hc)
  have A9 := A8.nA 20 400 (n' := 107) (m' := m + 10396) (by omega) (by omega)
  have a9 := A9.at (a := 101) (j := -1) (v := 9) (by omega) (by omega) (by (repeat rw [lk_n (by omega)]); exact hc)
  have A10 := A9.up (a := 101) 6 (106) (by omega) (by omega)
  have a10 := A10.at (a := 101) (j := -1) (v := 9) (by omega) (by omega) (by (repeat rw [lk_n (by omega)]); exact hc)
  have A11 := A10.up (a := 101) 9 (-1) (by omega) (by omega)
  have a11 := A11.at (a := 101) (j := -1) (v := 9) (by omega) (by omega) (by (repeat rw [lk_n (by omega)]); exact hc)
  have A12 := A11.nA 20 257 (n' := 108) (m' := m + 10653) (by omega) (by omega)
  have a12 := A12.at (a := 101) (j := -1) (v := 9) (by omega) (by omega) (by (repeat rw [lk_n (by omega)]); exact hc)
  have A13 := A12.up (a := 101) 15 (107) (by omega) (by omega)
  have a13 := A13.at (a := 101) (j := -1) (v := 9) (by omega) (by omega) (by (repeat rw [lk_n (by omega)]); exact hc)
  have A14 := A13.nA 20 256 (n' := 109) (m' := m + 10909) (by omega) (by omega)
  have a14 := A14.at (a := 101) (j := -1) (v := 9) (by omega) (by omega) (by (repeat rw [lk_n (by omega)]); exact hc)
  have A15 := A14.up (a := 101) 16 (108) (by omega) (by omega)
  have a15 := A15.at (a := 101) (j := -1) (v := 9) (by omega) (by omega) (by (repeat rw [lk_n (by omega)]); exact hc)
  have A16 := A15.nA 22 256 (n' := 110) (m' := m + 11165) (by omega) (by omega)
  have a16 := A16.at (a := 101) (j := -1) (v := 9) (by omega) (by omega) (by (repeat rw [lk_n (by omega)]); exact hc)
  have A17 := A16.up (a := 101) 19 (109) (by omega) (by omega)
  have a17 := A17.at (a := 101) (j := -1) (v := 9) (by omega) (by omega) (by (repeat rw [lk_n (by omega)]); exact hc)
  have A18 := A17.nA 20 257 (n' := 111) (m' := m + 11422) (by omega) (by omega)
  have a18 := A18.at (a := 101) (j := -1) (v := 9) (by omega) (by omega) (by (repeat rw [lk_n (by omega)]); exact hc)
  have A19 := A18.up (a := 101) 20 (110) (by omega) (by omega)
  have a19 := A19.at (a := 101) (j := -1) (v := 9) (by omega) (by omega) (by (repeat rw [lk_n (by omega)]); exact hc)
  have A20 := A19.nA 20 256 (n' := 112) (m' := m + 11678) (by omega) (by omega)
  have a20 := A20.at (a := 101) (j := -1) (v := 9) (by omega) (by omega) (by (repeat rw [lk_n (by omega)]); exact hc)
  have A21 := A20.up (a := 101) 24 (111) (by omega) (by omega)
  have a21 := A21.at (a := 101) (j := -1) (v := 9) (by omega) (by omega) (by (repeat rw [lk_n (by omega)]); exact hc)
  have A22 := A21.nA 20 8 (n' := 113) (m' := m + 11686) (by omega) (by omega)
  have a22 := A22.at (a := 101) (j := -1) (v := 9) (by omega) (by omega) (by (repeat rw [lk_n (by omega)]); exact hc)
  have A23 := A22.up (a := 101) 25 (112) (by omega) (by omega)
  have a23 := A23.at (a := 101) (j := -1) (v := 9) (by omega) (by omega) (by (repeat rw [lk_n (by omega)]); exact hc)
  have A24 := A23.nA 20 8 (n' := 114) (m' := m + 11694) (by omega) (by omega)
  have a24 := A24.at (a := 101) (j := -1) (v := 9) (by omega) (by omega) (by (repeat rw [lk_n (by omega)]); exact hc)
  have A25 := A24.up (a := 101) 26 (113) (by omega) (by omega)
  have a25 := A25.at (a := 101) (j := -1) (v := 9) (by omega) (by omega) (by (repeat rw [lk_n (by omega)]); exact hc)
  have A26 := A25.nA 20 2400 (n' := 115) (m' := m + 14094) (by omega) (by omega)
  have a26 := A26.at (a := 101) (j := -1) (v := 9) (by omega) (by omega) (by (repeat rw [lk_n (by omega)]); exact hc)
  have A27 := A26.up (a := 101) 27 (114) (by omega) (by omega)
  have a27 := A27.at (a := 101) (j := -1) (v := 9) (by omega) (by omega) (by (repeat rw [lk_n (by omega)]); exact hc)
  have a0 := hT.at (a := 101) (j := -1) (v := 9) (by omega) (by omega) hc
  refine ⟨_, ?_, A27⟩
  rw [ce_175, sg_175_0]
  repeat (first | ((with_reducible refine step_t ?_ ?_); with_reducible exact True.intro) | ((with_reducible refine step_t ?_ ?_); omega) | ((with_reducible refine step_f ?_ ?_); omega))
  refine step_c (p_obj (by omega) σ _) ?_
  try dsimp only
  (try simp (disch := omega) only [and_true, hT.1, A1.1, a1, A2.1, a2, A3.1, a3, A4.1, a4, A5.1, a5, A6.1, a6, A7.1, a7, A8.1, a8, A9.1, a9, A10.1, a10, A11.1, a11, A12.1, a12, A13.1, a13, A14.1, a14, A15.1, a15, A16.1, a16, A17.1, a17, A18.1, a18, A19.1, a19, A20.1, a20, A21.1, a21, A22.1, a22, A23.1, a23, A24.1, a24, A25.1, a25, A26.1, a26, A27.1, a27, a0, wr_id2])
  repeat (first | ((with_reducible refine step_t ?_ ?_); with_reducible exact True.intro) | ((with_reducible refine step_t ?_ ?_); omega) | ((with_reducible refine step_f ?_ ?_); omega))
  rw [sg_175_4]
  (try simp (disch := omega) only [and_true, hT.1, A1.1, a1, A2.1, a2, A3.1, a3, A4.1, a4, A5.1, a5, A6.1, a6, A7.1, a7, A8.1, a8, A9.1, a9, A10.1, a10, A11.1, a11, A12.1, a12, A13.1, a13, A14.1, a14, A15.1, a15, A16.1, a16, A17.1, a17, A18.1, a18, A19.1, a19, A20.1, a20, A21.1, a21, A22.1, a22, A23.1, a23, A24.1, a24, A25.1, a25, A26.1, a26, A27.1, a27, a0, wr_id2])
  repeat (first | ((with_reducible refine step_t ?_ ?_); with_reducible exact True.intro) | ((with_reducible refine step_t ?_ ?_); omega) | ((with_reducible refine step_f ?_ ?_); omega))
  rw [sg_175_13]
  (try simp (disch := omega) only [and_true, hT.1, A1.1, a1, A2.1, a2, A3.1, a3, A4.1, a4, A5.1, a5, A6.1, a6, A7.1, a7, A8.1, a8, A9.1, a9, A10.1, a10, A11.1, a11, A12.1, a12, A13.1, a13, A14.1, a14, A15.1, a15, A16.1, a16, A17.1, a17, A18.1, a18, A19.1, a19, A20.1, a20, A21.1, a21, A22.1, a22, A23.1, a23, A24.1, a24, A25.1, a25, A26.1, a26, A27.1, a27, a0, wr_id2])
  repeat (first | ((with_reducible refine step_t ?_ ?_); with_reducible exact True.intro) | ((with_reducible refine step_t ?_ ?_); omega) | ((with_reducible refine step_f ?_ ?_); omega))
  rw [sg_175_22]
  (try simp (disch := omega) only [and_true, hT.1, A1.1, a1, A2.1, a2, A3.1, a3, A4.1, a4, A5.1, a5, A6.1, a6, A7.1, a7, A8.1, a8, A9.1, a9, A10.1, a10, A11.1, a11, A12.1, a12, A13.1, a13, A14.1, a14, A15.1, a15, A16.1, a16, A17.1, a17, A18.1, a18, A19.1, a19, A20.1, a20, A21.1, a21, A22.1, a22, A23.1, a23, A24.1, a24, A25.1, a25, A26.1, a26, A27.1, a27, a0, wr_id2])
  repeat (first | ((with_reducible refine step_t ?_ ?_); with_reducible exact True.intro) | ((with_reducible refine step_t ?_ ?_); omega) | ((with_reducible refine step_f ?_ ?_); omega))
  rw [sg_175_31]
  (try simp (disch := omega) only [and_true, hT.1, A1.1, a1, A2.1, a2, A3.1, a3, A4.1, a4, A5.1, a5, A6.1, a6, A7.1, a7, A8.1, a8, A9.1, a9, A10.1, a10, A11.1, a11, A12.1, a12, A13.1, a13, A14.1, a14, A15.1, a15, A16.1, a16, A17.1, a17, A18.1, a18, A19.1, a19, A20.1, a20, A21.1, a21, A22.1, a22, A23.1, a23, A24.1, a24, A25.1, a25, A26.1, a26, A27.1, a27, a0, wr_id2])
  repeat (first | ((with_reducible refine step_t ?_ ?_); with_reducible exact True.intro) | ((with_reducible refine step_t ?_ ?_); omega) | ((with_reducible refine step_f ?_ ?_); omega))
  rw [sg_175_40]
  (try simp (disch := omega) only [and_true, hT.1, A1.1, a1, A2.1, a2, A3.1, a3, A4.1, a4, A5.1, a5, A6.1, a6, A7.1, a7, A8.1, a8, A9.1, a9, A10.1, a10, A11.1, a11, A12.1, a12, A13.1, a13, A14.1, a14, A15.1, a15, A16.1, a16, A17.1, a17, A18.1, a18, A19.1, a19, A20.1, a20, A21.1, a21, A22.1, a22, A23.1, a23, A24.1, a24, A25.1, a25, A26.1, a26, A27.1, a27, a0, wr_id2])
  repeat (first | ((with_reducible refine step_t ?_ ?_); with_reducible exact True.intro) | ((with_reducible refine step_t ?_ ?_); omega) | ((with_reducible refine step_f ?_ ?_); omega))
  rw [sg_175_49]
  (try simp (disch := omega) only [and_true, hT.1, A1.1, a1, A2.1, a2, A3.1, a3, A4.1, a4, A5.1, a5, A6.1, a6, A7.1, a7, A8.1, a8, A9.1, a9, A10.1, a10, A11.1, a11, A12.1, a12, A13.1, a13, A14.1, a14, A15.1, a15, A16.1, a16, A17.1, a17, A18.1, a18, A19.1, a19, A20.1, a20, A21.1, a21, A22.1, a22, A23.1, a23, A24.1, a24, A25.1, a25, A26.1, a26, A27.1, a27, a0, wr_id2])
  repeat (first | ((with_reducible refine step_t ?_ ?_); with_reducible exact True.intro) | ((with_reducible refine step_t ?_ ?_); omega) | ((with_reducible refine step_f ?_ ?_); omega))
  rw [sg_175_54]
  (try simp (disch := omega) only [and_true, hT.1, A1.1, a1, A2.1, a2, A3.1, a3, A4.1, a4, A5.1, a5, A6.1, a6, A7.1, a7, A8.1, a8, A9.1, a9, A10.1, a10, A11.1, a11, A12.1, a12, A13.1, a13, A14.1, a14, A15.1, a15, A16.1, a16, A17.1, a17, A18.1, a18, A19.1, a19, A20.1, a20, A21.1, a21, A22.1, a22, A23.1, a23, A24.1, a24, A25.1, a25, A26.1, a26, A27.1, a27, a0, wr_id2])
  repeat (first | ((with_reducible refine step_t ?_ ?_); with_reducible exact True.intro) | ((with_reducible refine step_t ?_ ?_); omega) | ((with_reducible refine step_f ?_ ?_); omega))
  rw [sg_175_63]
  (try simp (disch := omega) only [and_true, hT.1, A1.1, a1, A2.1, a2, A3.1, a3, A4.1, a4, A5.1, a5, A6.1, a6, A7.1, a7, A8.1, a8, A9.1, a9, A10.1, a10, A11.1, a11, A12.1, a12, A13.1, a13, A14.1, a14, A15.1, a15, A16.1, a16, A17.1, a17, A18.1, a18, A19.1, a19, A20.1, a20, A21.1, a21, A22.1, a22, A23.1, a23, A24.1, a24, A25.1, a25, A26.1, a26, A27.1, a27, a0, wr_id2])
  repeat (first | ((with_reducible refine step_t ?_ ?_); with_reducible exact True.intro) | ((with_reducible refine step_t ?_ ?_); omega) | ((with_reducible refine step_f ?_ ?_); omega))
  rw [sg_175_72]
  (try simp (disch := omega) only [and_true, hT.1, A1.1, a1, A2.1, a2, A3.1, a3, A4.1, a4, A5.1, a5, A6.1, a6, A7.1, a7, A8.1, a8, A9.1, a9, A10.1, a10, A11.1, a11, A12.1, a12, A13.1, a13, A14.1, a14, A15.1, a15, A16.1, a16, A17.1, a17, A18.1, a18, A19.1, a19, A20.1, a20, A21.1, a21, A22.1, a22, A23.1, a23, A24.1, a24, A25.1, a25, A26.1, a26, A27.1, a27, a0, wr_id2])
  repeat (first | ((with_reducible refine step_t ?_ ?_); with_reducible exact True.intro) | ((with_reducible refine step_t ?_ ?_); omega) | ((with_reducible refine step_f ?_ ?_); omega))
  rw [sg_175_81]
  (try simp (disch := omega) only [and_true, hT.1, A1.1, a1, A2.1, a2, A3.1, a3, A4.1, a4, A5.1, a5, A6.1, a6, A7.1, a7, A8.1, a8, A9.1, a9, A10.1, a10, A11.1, a11, A12.1, a12, A13.1, a13, A14.1, a14, A15.1, a15, A16.1, a16, A17.1, a17, A18.1, a18, A19.1, a19, A20.1, a20, A21.1, a21, A22.1, a22, A23.1, a23, A24.1, a24, A25.1, a25, A26.1, a26, A27.1, a27, a0, wr_id2])
  repeat (first | ((with_reducible refine step_t ?_ ?_); with_reducible exact True.intro) | ((with_reducible refine step_t ?_ ?_); omega) | ((with_reducible refine step_f ?_ ?_); omega))
  rw [sg_175_90]
  (try simp (disch := omega) only [and_true, hT.1, A1.1, a1, A2.1, a2, A3.1, a3, A4.1, a4, A5.1, a5, A6.1, a6, A7.1, a7, A8.1, a8, A9.1, a9, A10.1, a10, A11.1, a11, A12.1, a12, A13.1, a13, A14.1, a14, A15.1, a15, A16.1, a16, A17.1, a17, A18.1, a18, A19.1, a19, A20.1, a20, A21.1, a21, A22.1, a22, A23.1, a23, A24.1, a24, A25.1, a25, A26.1, a26, A27.1, a27, a0, wr_id2])
  repeat (first | ((with_reducible refine step_t ?_ ?_); with_reducible exact True.intro) | ((with_reducible refine step_t ?_ ?_); omega) | ((with_reducible refine step_f ?_ ?_); omega))
  rw [sg_175_99]
  (try simp (disch := omega) only [and_true, hT.1, A1.1, a1, A2.1, a2, A3.1, a3, A4.1, a4, A5.1, a5, A6.1, a6, A7.1, a7, A8.1, a8, A9.1, a9, A10.1, a10, A11.1, a11, A12.1, a12, A13.1, a13, A14.1, a14, A15.1, a15, A16.1, a16, A17.1, a17, A18.1, a18, A19.1, a19, A20.1, a20, A21.1, a21, A22.1, a22, A23.1, a23, A24.1, a24, A25.1, a25, A26.1, a26, A27.1, a27, a0, wr_id2])
  repeat (first | ((with_reducible refine step_t ?_ ?_); with_reducible exact True.intro) | ((with_reducible refine step_t ?_ ?_); omega) | ((with_reducible refine step_f ?_ ?_); omega))
  rw [sg_175_107]
  (try simp (disch := omega) only [and_true, hT.1, A1.1, a1, A2.1, a2, A3.1, a3, A4.1, a4, A5.1, a5, A6.1, a6, A7.1, a7, A8.1, a8, A9.1, a9, A10.1, a10, A11.1, a11, A12.1, a12, A13.1, a13, A14.1, a14, A15.1, a15, A16.1, a16, A17.1, a17, A18.1, a18, A19.1, a19, A20.1, a20, A21.1, a21, A22.1, a22, A23.1, a23, A24.1, a24, A25.1, a25, A26.1, a26, A27.1, a27, a0, wr_id2])
  repeat (first | ((with_reducible refine step_t ?_ ?_); with_reducible exact True.intro) | ((with_reducible refine step_t ?_ ?_); omega) | ((with_reducible refine step_f ?_ ?_); omega))
  rw [sg_175_115]
  (try simp (disch := omega) only [and_true, hT.1, A1.1, a1, A2.1, a2, A3.1, a3, A4.1, a4, A5.1, a5, A6.1, a6, A7.1, a7, A8.1, a8, A9.1, a9, A10.1, a10, A11.1, a11, A12.1, a12, A13.1, a13, A14.1, a14, A15.1, a15, A16.1, a16, A17.1, a17, A18.1, a18, A19.1, a19, A20.1, a20, A21.1, a21, A22.1, a22, A23.1, a23, A24.1, a24, A25.1, a25, A26.1, a26, A27.1, a27, a0, wr_id2])
  repeat (first | ((with_reducible refine step_t ?_ ?_); with_reducible exact True.intro) | ((with_reducible refine step_t ?_ ?_); omega) | ((with_reducible refine step_f ?_ ?_); omega))
  rfl
