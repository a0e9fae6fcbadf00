/-! THE LAW, WHOLE, IN THE SMALL MACHINE -/
theorem lk_0 {a : Int} : ∀ {T : TB}, T.all (fun t => !(decide (t.1 = a) && decide (0 ≤ t.2.1))) = true → ∀ j, 0 ≤ j → lkT T a j = 0 := by
  intro T
  induction T with
  | nil => intro _ j _; rfl
  | cons t l ih =>
    intro h j hj
    rw [List.all_cons, Bool.and_eq_true] at h
    show (if a = t.1 ∧ j = t.2.1 then t.2.2 else lkT l a j) = 0
    rw [if_neg (fun q => by
      have h1 := h.1
      rw [decide_eq_true q.1.symm, decide_eq_true (show 0 ≤ t.2.1 by omega)] at h1
      cases h1)]
    exact ih h.2 j hj
def tT9 : TB := cT175 ((101, -1, 9) :: tT8)
theorem tT9_lay : layT.all (fun t => decide (32 ≤ t.1) && decide (t.1 < 115) && decide (lkT tT9 t.1 t.2.1 = t.2.2)) = true := by decide +kernel
theorem tT9_102 : tT9.all (fun t => !(decide (t.1 = 102) && decide (0 ≤ t.2.1))) = true := by decide +kernel
def S00 : AS := mkA (fun _ => none) [] [] 0 (-1) []
theorem nil_g {α : Type} {i : Nat} {x : α} {P : Prop} (q : ([] : List α)[i]? = some x) : P := by
  rw [List.getElem?_nil] at q
  cases q
theorem wf_00 : wf0 (0, 0, 0, 0, []) := ⟨Nat.zero_le _, Nat.zero_le _, Nat.zero_le _, by decide, Nat.zero_le _, fun b hb => by cases hb⟩
theorem row_ini {σ0 σ : HP} {m : Int} (hT : TR σ0 σ 115 m tT9) {b : Int} (h1 : 32 ≤ b) (h2 : b + 2 < 115) (e : lkT tT9 b (-1) = 0 ∧ lkT tT9 b 0 = b + 1 ∧ lkT tT9 b 1 = b + 2 ∧ lkT tT9 (b + 1) (-1) = 20 ∧ lkT tT9 (b + 1) (-2) = 256 ∧ lkT tT9 (b + 2) (-1) = 20 ∧ lkT tT9 (b + 2) (-2) = 257 ∧ lkT tT9 b 3 = 0 ∧ lkT tT9 b 4 = 0 ∧ lkT tT9 b 5 = 0 ∧ lkT tT9 b 6 = 0 ∧ lkT tT9 b 2 = 0 ∧ lkT tT9 (b + 2) 0 = 0) : rowO σ b none := by
  obtain ⟨e1, e2, e3, e4, e5, e6, e7, e8, e9, e10, e11, e12, e13⟩ := e
  have n0 := hT.1
  refine ⟨(0, 0, 0, 0, []), ⟨⟨h1, by omega, hT.at h1 (by omega) e1, hT.at h1 (by omega) e2, hT.at h1 (by omega) e3, hT.at (by omega) (by omega) e4, hT.at (by omega) (by omega) e5, hT.at (by omega) (by omega) e6, hT.at (by omega) (by omega) e7⟩, hT.at h1 (by omega) e8, hT.at h1 (by omega) e9, hT.at h1 (by omega) e10, hT.at h1 (by omega) e11, fun i x q => nil_g q, fun i hi => ?_⟩, wf_00, hT.at h1 (by omega) e12, fun M q => (by cases q)⟩
  have hi : i ≤ 0 := hi
  have hi : i = 0 := by omega
  subst hi
  exact hT.at (by omega) (by omega) e13
theorem law_ini {σ0 σ : HP} {m : Int} (hT : TR σ0 σ 115 m tT9) (hm : 0 ≤ m ∧ m ≤ 100000) (ht : Txt σ0) {n : Nat} {xs : Nat → Int} (hs : σ0 1 (-1) = 40 ∧ σ0 1 (-2) = (n : Int) ∧ n ≤ 3072 ∧ ∀ j : Nat, j < n → σ0 1 j = xs j ∧ i32 (xs j)) : LQI σ S00 n xs 0 := by
  have n0 := hT.1
  have n1 := hT.2.1
  have old := hT.2.2.2.1
  refine ⟨⟨by omega, fun t htm => ?_⟩, ht.same (fun a j q1 q2 => old a j (by omega) (by omega)), ?_, ?_, ⟨by rw [old _ _ (by omega) (by omega)]; exact hs.1, by rw [old _ _ (by omega) (by omega)]; exact hs.2.1, hs.2.2.1, fun j hj => ⟨by rw [old _ _ (by omega) (by omega)]; exact (hs.2.2.2 j hj).1, (hs.2.2.2 j hj).2⟩⟩, by omega, by omega, by omega⟩
  · have q := List.all_eq_true.mp tT9_lay t htm
    rw [Bool.and_eq_true, Bool.and_eq_true] at q
    exact hT.at (of_decide_eq_true q.1.1) (of_decide_eq_true q.1.2) (of_decide_eq_true q.2)
  · refine ⟨row_ini hT (by omega) (by omega) (by decide +kernel), row_ini hT (by omega) (by omega) (by decide +kernel), row_ini hT (by omega) (by omega) (by decide +kernel), ⟨0, by omega, hT.at (by omega) (by omega) (by decide +kernel), fun i s o q => nil_g (α := Nat × Option LB) q⟩, hT.at (by omega) (by omega) (by decide +kernel), Nat.zero_le _, ⟨hT.at (by omega) (by omega) (by decide +kernel), by show (0 : Int) ≤ 400; omega, fun i x q => nil_g (α := Nat) q⟩, hT.at (by omega) (by omega) (by decide +kernel), hT.at (by omega) (by omega) (by decide +kernel), ⟨hT.at (by omega) (by omega) (by decide +kernel), by show (0 : Int) ≤ 2400; omega, fun i x q => nil_g (α := Nat) q⟩⟩
  · refine ⟨fun k hk => ?_, fun s L hs q => (by cases q), hT.at (by omega) (by omega) (by decide +kernel), Nat.zero_le _, fun i hi => absurd hi (Nat.not_lt_zero _), fun i s o q => nil_g (α := Nat × Option LB) q, ⟨hT.at (by omega) (by omega) (by decide +kernel), by show (0 : Int) ≤ 400; omega, fun i x q => nil_g (α := Nat) q⟩, hT.at (by omega) (by omega) (by decide +kernel), hT.at (by omega) (by omega) (by decide +kernel), ⟨hT.at (by omega) (by omega) (by decide +kernel), by show (0 : Int) ≤ 2400; omega, fun i x q => nil_g (α := Nat) q⟩⟩
    rw [hT.at (v := 0) (by omega) (by omega) (lk_0 tT9_102 k (by omega))]
    rfl
theorem law_all {d : Nat} (hd : 1000 ≤ d) {σ : HP} (h0 : σ (-1) 0 = 32) (h1 : σ (-1) 1 = 0) (ht : Txt σ) {n : Nat} {xs : Nat → Int} (hs : σ 1 (-1) = 40 ∧ σ 1 (-2) = (n : Int) ∧ n ≤ 3072 ∧ ∀ j : Nat, j < n → σ 1 j = xs j ∧ i32 (xs j)) : ∃ σ', rsP PG0 MX d 286 0 [vR 1, vU, vU, vU] [] σ = some (1, σ') ∧ 32 ≤ σ' (-1) 0 ∧ σ' (-1) 0 ≤ 4000 ∧ 0 ≤ σ' (-1) 1 ∧ σ' (-1) 1 ≤ 120000 := by
  have T0 : TR σ σ 32 0 [] := ⟨h0, h1, by omega, fun _ _ _ _ => rfl, fun a j q1 q2 => by omega, fun _ _ _ => rfl⟩
  have T1 := T0.nO 8 9 (n' := 33) (m' := 9) (by omega) (by omega)
  obtain ⟨σ1, m1, k1, T2, b1, b2⟩ := s0 (d := d) (by omega) T1
  have T3 := T2.nO 9 29 (n' := 102) (m' := m1 + 29) (by omega) rfl
  obtain ⟨σ2, k2, T4⟩ := s175 (d := d) (by omega) T3 (lk_s _ _ _ _)
  obtain ⟨σ3, S3, k3, L3⟩ := law_loop (d := d) hd n 0 σ2 S00 (by omega) (Nat.zero_le _) (law_ini T4 (by omega) ht hs)
  have e1 := T2.1
  have c0 := L3.1.1
  have c1 := L3.2.2.2.2.2.1
  have c2 := L3.2.2.2.2.2.2.1
  have c3 := L3.2.2.2.2.2.2.2
  have hn := hs.2.2.1
  refine ⟨σ3, ?_, by omega, by omega, by omega, by omega⟩
  rw [sg_286_0]
  (try simp (disch := omega) only [h0, wr_id2])
  repeat (first | ((with_reducible refine step_t ?_ ?_); with_reducible exact True.intro) | ((with_reducible refine step_t ?_ ?_); omega) | ((with_reducible refine step_f ?_ ?_); omega))
  refine step_c (k1) ?_
  try dsimp only
  rw [sg_286_8]
  (try simp (disch := omega) only [e1, wr_id2])
  repeat (first | ((with_reducible refine step_t ?_ ?_); with_reducible exact True.intro) | ((with_reducible refine step_t ?_ ?_); omega) | ((with_reducible refine step_f ?_ ?_); omega))
  refine step_c (k2) ?_
  try dsimp only
  exact k3
