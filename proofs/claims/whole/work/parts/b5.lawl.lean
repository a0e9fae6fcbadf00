/-! THE LAW: its loop -/
def GR (d n : Nat) (xs : Nat → Int) (i : Nat) (r : RS) : Prop := ∃ σ' S', r = rsP PG0 MX d 286 18 [vR 1, vR 32, vR 101, vI ((i : Int) + 6)] [] σ' ∧ LQI σ' S' n xs (i + 6)
theorem gr_i {d n : Nat} {xs : Nat → Int} {i : Nat} {p : Prop} [Decidable p] {a b : RS} (h1 : p → GR d n xs i a) (h2 : ¬ p → GR d n xs i b) : GR d n xs i (cnd p a b) := by
  by_cases z : p
  · rw [show cnd p a b = a from step_t z rfl]; exact h1 z
  · rw [show cnd p a b = b from step_f z rfl]; exact h2 z
theorem gr_t {d n : Nat} {xs : Nat → Int} {i : Nat} {p : Prop} [Decidable p] {a b : RS} (z : p) (h : GR d n xs i a) : GR d n xs i (cnd p a b) := by
  rw [show cnd p a b = a from step_t z rfl]; exact h
theorem gr_f {d n : Nat} {xs : Nat → Int} {i : Nat} {p : Prop} [Decidable p] {a b : RS} (z : ¬ p) (h : GR d n xs i b) : GR d n xs i (cnd p a b) := by
  rw [show cnd p a b = b from step_f z rfl]; exact h
theorem law_step {d : Nat} (hd : 1000 ≤ d) {σ : HP} {S : AS} {n i : Nat} {xs : Nat → Int} (h : LQI σ S n xs i) (hi : i + 6 ≤ n) : GR d n xs i (rsP PG0 MX d 286 18 [vR 1, vR 32, vR 101, vI i] [] σ) := by
  obtain ⟨y1, a1, s1, s2, hn, g⟩ := h.gd
  rw [sg_286_18, s2]
  refine gr_t (by omega) ?_
  refine gr_f (by rw [wr_id2 (by omega), wr_id2 (by omega)]; omega) ?_
  refine gr_t (by rw [wr_id2 (by omega)]; omega) ?_
  refine gr_i (fun _ => lw_244 hd h hi) (fun _ => ?_)
  refine gr_i (fun _ => lw_307 hd h hi) (fun _ => ?_)
  refine gr_i (fun _ => lw_330 hd h hi) (fun _ => ?_)
  refine gr_i (fun _ => lw_353 hd h hi) (fun _ => ?_)
  refine gr_i (fun _ => lw_376 hd h hi) (fun _ => ?_)
  refine gr_i (fun _ => lw_399 hd h hi) (fun _ => ?_)
  refine gr_i (fun _ => lw_432 hd h hi) (fun _ => ?_)
  refine gr_i (fun _ => lw_465 hd h hi) (fun _ => ?_)
  refine gr_i (fun _ => lw_498 hd h hi) (fun _ => ?_)
  refine gr_i (fun _ => lw_531 hd h hi) (fun _ => ?_)
  refine gr_i (fun _ => lw_574 hd h hi) (fun _ => ?_)
  refine gr_i (fun _ => lw_607 hd h hi) (fun _ => ?_)
  refine gr_i (fun _ => lw_640 hd h hi) (fun _ => ?_)
  refine gr_i (fun _ => lw_673 hd h hi) (fun _ => ?_)
  refine gr_i (fun _ => lw_696 hd h hi) (fun _ => ?_)
  refine gr_i (fun _ => lw_729 hd h hi) (fun _ => ?_)
  refine gr_i (fun _ => lw_772 hd h hi) (fun _ => ?_)
  refine gr_i (fun _ => lw_815 hd h hi) (fun _ => ?_)
  refine gr_i (fun _ => lw_858 hd h hi) (fun _ => ?_)
  refine gr_i (fun _ => lw_891 hd h hi) (fun _ => ?_)
  refine gr_i (fun _ => lw_924 hd h hi) (fun _ => ?_)
  refine gr_i (fun _ => lw_967 hd h hi) (fun _ => ?_)
  refine gr_i (fun _ => lw_990 hd h hi) (fun _ => ?_)
  refine gr_i (fun _ => lw_1033 hd h hi) (fun _ => ?_)
  refine gr_i (fun _ => lw_1056 hd h hi) (fun _ => ?_)
  refine gr_i (fun _ => lw_1079 hd h hi) (fun _ => ?_)
  refine gr_i (fun _ => lw_1102 hd h hi) (fun _ => ?_)
  refine gr_i (fun _ => lw_1135 hd h hi) (fun _ => ?_)
  refine gr_i (fun _ => lw_1178 hd h hi) (fun _ => ?_)
  refine gr_i (fun _ => lw_1241 hd h hi) (fun _ => ?_)
  refine gr_i (fun _ => lw_1264 hd h hi) (fun _ => ?_)
  refine gr_i (fun _ => lw_1307 hd h hi) (fun _ => ?_)
  refine gr_i (fun _ => lw_1341 hd h hi) (fun _ => ?_)
  refine gr_i (fun _ => lw_1394 hd h hi) (fun _ => ?_)
  refine gr_i (fun _ => lw_1437 hd h hi) (fun _ => ?_)
  refine gr_i (fun _ => lw_1480 hd h hi) (fun _ => ?_)
  refine gr_i (fun _ => lw_1503 hd h hi) (fun _ => ?_)
  refine gr_i (fun _ => lw_1546 hd h hi) (fun _ => ?_)
  refine gr_i (fun _ => lw_1569 hd h hi) (fun _ => ?_)
  refine gr_i (fun _ => lw_1602 hd h hi) (fun _ => ?_)
  refine gr_i (fun _ => lw_1645 hd h hi) (fun _ => ?_)
  refine gr_i (fun _ => lw_1668 hd h hi) (fun _ => ?_)
  refine gr_i (fun _ => lw_1701 hd h hi) (fun _ => ?_)
  refine gr_i (fun _ => lw_1734 hd h hi) (fun _ => ?_)
  refine gr_i (fun _ => lw_1767 hd h hi) (fun _ => ?_)
  refine gr_i (fun _ => lw_1800 hd h hi) (fun _ => ?_)
  refine gr_i (fun _ => lw_1823 hd h hi) (fun _ => ?_)
  refine gr_i (fun _ => lw_1836 hd h hi) (fun _ => ?_)
  refine gr_i (fun _ => lw_1869 hd h hi) (fun _ => ?_)
  exact ⟨σ, S, rfl, h.up6⟩
theorem law_loop {d : Nat} (hd : 1000 ≤ d) {n : Nat} {xs : Nat → Int} : ∀ (m i : Nat) (σ : HP) (S : AS), n ≤ i + m → i ≤ n → LQI σ S n xs i → ∃ σ' S', rsP PG0 MX d 286 18 [vR 1, vR 32, vR 101, vI i] [] σ = some (1, σ') ∧ LQI σ' S' n xs n := by
  have fin : ∀ (i : Nat) (σ : HP) (S : AS), i ≤ n → ¬ i + 6 ≤ n → LQI σ S n xs i → ∃ σ' S', rsP PG0 MX d 286 18 [vR 1, vR 32, vR 101, vI i] [] σ = some (1, σ') ∧ LQI σ' S' n xs n := fun i σ S h1 h2 h => by
    obtain ⟨y1, a1, s1, s2, hn, g⟩ := h.gd
    refine ⟨σ, S, ?_, h.1, h.2.1, h.2.2.1, h.2.2.2.1, h.2.2.2.2.1, by have := h.2.2.2.2.2.1; omega, by have := h.2.2.2.2.2.2.1; omega, h.2.2.2.2.2.2.2⟩
    rw [sg_286_18, s2]
    refine step_t (by omega) ?_
    refine step_t (by rw [wr_id2 (by omega), wr_id2 (by omega)]; omega) ?_
    rfl
  intro m
  induction m with
  | zero =>
    intro i σ S hm hi h
    exact fin i σ S hi (by omega) h
  | succ m ih =>
    intro i σ S hm hi h
    by_cases z : i + 6 ≤ n
    · obtain ⟨σ1, S1, k1, L1⟩ := law_step hd h z
      obtain ⟨σ2, S2, k2, L2⟩ := ih (i + 6) σ1 S1 (by omega) z L1
      exact ⟨σ2, S2, k1.trans k2, L2⟩
    · exact fin i σ S hi z h
