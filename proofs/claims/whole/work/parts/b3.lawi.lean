/-! THE LAW: what holds at its loop's head -/
theorem l_cmp_self (x : Int) : l_cmp x x = 0 := by
  unfold l_cmp lg_cmp
  rw [if_neg (fun q => Int64.lt_irrefl q), if_pos rfl]
  rfl
theorem MM.fc {σ σ' : HP} {S : AS} (h : FC σ σ') (hm : MM σ S) : MM σ' S := by
  have e : ∀ a j, 100 < a → σ' a j = σ a j := fun a j q => h.1 a j (Or.inr q)
  obtain ⟨h1, h2, h3, h4, h5, h6, h7, h8, h9, h10⟩ := hm
  refine ⟨fun k hk => ?_, h2, ?_, h4, fun i hi k hk => ?_, h6, ⟨?_, h7.2.1, fun i x q => ?_⟩, ?_, ?_, ⟨?_, h10.2.1, fun i x q => ?_⟩⟩
  · rw [e _ _ (by omega)]; exact h1 k hk
  · rw [e _ _ (by omega)]; exact h3
  · rw [e _ _ (by omega)]; exact h5 i hi k hk
  · rw [e _ _ (by omega)]; exact h7.1
  · rw [e _ _ (by omega)]; exact h7.2.2 i x q
  · rw [e _ _ (by omega)]; exact h8
  · rw [e _ _ (by omega)]; exact h9
  · rw [e _ _ (by omega)]; exact h10.1
  · rw [e _ _ (by omega)]; exact h10.2.2 i x q
theorem txC_10 {i : Nat} {t : List Nat} (h : txC[i]? = some t) : i < 10 := (List.getElem?_eq_some_iff.mp h).1
theorem Txt.same {σ σ' : HP} (h : Txt σ) (e : ∀ a j, 2 ≤ a → a < 12 → σ' a j = σ a j) : Txt σ' := fun i t ht => by
  have hi := txC_10 ht
  obtain ⟨h1, h2, h3⟩ := h i t ht
  exact ⟨by rw [e _ _ (by omega) (by omega)]; exact h1, by rw [e _ _ (by omega) (by omega)]; exact h2, fun j x q => by rw [e _ _ (by omega) (by omega)]; exact h3 j x q⟩
def LQI (σ : HP) (S : AS) (n : Nat) (xs : Nat → Int) (i : Nat) : Prop := Lay σ ∧ Txt σ ∧ CR σ S ∧ MM σ S ∧ (σ 1 (-1) = 40 ∧ σ 1 (-2) = (n : Int) ∧ n ≤ 3072 ∧ ∀ j : Nat, j < n → σ 1 j = xs j ∧ i32 (xs j)) ∧ σ (-1) 0 ≤ 115 + i ∧ σ (-1) 1 ≤ 100000 + 5 * i ∧ 0 ≤ σ (-1) 1
theorem LQI.gd {σ : HP} {S : AS} {n : Nat} {xs : Nat → Int} {i : Nat} (h : LQI σ S n xs i) : 115 ≤ σ (-1) 0 ∧ σ 32 (-1) = 8 ∧ σ 1 (-1) = 40 ∧ σ 1 (-2) = (n : Int) ∧ n ≤ 3072 ∧ ∀ j : Nat, j < n → σ 1 j = xs j ∧ i32 (xs j) := ⟨h.1.1, y32_m1 h.1, h.2.2.2.2.1⟩
theorem law_op {kc km : Nat} {as : List MV} {S : AS} {q : Int × AS} (hc : cOp kc as S q) (hm : mOp km as S q) {d : Nat} (hd : 1000 ≤ d) {σ : HP} {n : Nat} {xs : Nat → Int} {i : Nat} (h : LQI σ S n xs i) : ∃ σ1 σ2, clR PG0 MX d kc (vR 32 :: as) σ = some (q.1, σ1) ∧ clR PG0 MX d km (vR 101 :: as) σ1 = some (q.1, σ2) ∧ (115 ≤ σ1 (-1) 0 ∧ σ1 101 (-1) = 9 ∧ σ1 1 (-1) = 40 ∧ σ1 1 (-2) = (n : Int) ∧ ∀ j : Nat, j < n → σ1 1 j = xs j) ∧ LQI σ2 q.2 n xs (i + 6) := by
  obtain ⟨hy, ht, hcr, hmm, ⟨s1, s2, s3, s4⟩, b1, b2, b3⟩ := h
  obtain ⟨σ1, k1, F1, C1⟩ := hc d σ hd hy ht hcr
  have e1 : ∀ a j, a < 34 → σ1 a j = σ a j := fun a j w => F1.1 a j (Or.inl w)
  have ht1 : Txt σ1 := ht.same (fun a j _ w => e1 a j (by omega))
  obtain ⟨σ2, k2, F2, M2⟩ := hm d σ1 hd F1.2 ht1 (hmm.fc F1)
  obtain ⟨f1, f2, f3, f4, f5, f6⟩ := F2
  have n0 := e1 (-1) 0 (by omega)
  have n1 := e1 (-1) 1 (by omega)
  refine ⟨σ1, σ2, k1, k2, ⟨F1.2.1, y101_m1 F1.2, by rw [e1 _ _ (by omega)]; exact s1, by rw [e1 _ _ (by omega)]; exact s2, fun j hj => by rw [e1 _ _ (by omega)]; exact (s4 j hj).1⟩, f2, ht1.same (fun a j w1 w2 => f1 a j (by omega) (by omega)), C1.same f3 (fun a j w => f1 a j (by omega) (by omega)), M2, ⟨by rw [f1 _ _ (by omega) (by omega), e1 _ _ (by omega)]; exact s1, by rw [f1 _ _ (by omega) (by omega), e1 _ _ (by omega)]; exact s2, s3, fun j hj => ⟨by rw [f1 _ _ (by omega) (by omega), e1 _ _ (by omega)]; exact (s4 j hj).1, (s4 j hj).2⟩⟩, by omega, by omega, by omega⟩
theorem LQI.up6 {σ : HP} {S : AS} {n : Nat} {xs : Nat → Int} {i : Nat} (h : LQI σ S n xs i) : LQI σ S n xs (i + 6) := ⟨h.1, h.2.1, h.2.2.1, h.2.2.2.1, h.2.2.2.2.1, by have := h.2.2.2.2.2.1; omega, by have := h.2.2.2.2.2.2.1; omega, h.2.2.2.2.2.2.2⟩
