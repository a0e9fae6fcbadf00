/-! FINDS: the class -/
theorem popo {x : Nat} (hx : x < 256) (h : pop x = 1) : 0 < x ∧ x = 2 ^ lowN 31 x := by
  have key : ∀ y : Nat, y < 256 → pop y = 1 → 0 < y ∧ y = 2 ^ lowN 31 y := by decide +kernel
  exact key x hx h
theorem low_N {x N : Nat} (hN : N ≤ 8) (hx : x < 2 ^ N) (h : pop x = 1) : lowN 31 x < N := by
  have h8 := pow8 hN
  obtain ⟨h1, h2⟩ := popo (by omega) h
  exact low_lt h1 hx hN
theorem s111 {d : Nat} (h : 9 ≤ d) {σ0 σ : HP} {L : LB} {l : List Nat} {br : Nat → Bool} {k : Nat} (hS : SR σ0 σ (pth L l) br k) (hl : l.length < 256) {law : Int} (hlaw : 0 ≤ law ∧ law ≤ 3) : ∃ σ', clR PG0 MX d 111 [vR 43, vI law] σ = some (b2i (enF L law l).isSome, σ') ∧ (∀ l', enF L law l = some l' → DW σ0 σ' (pth L l')) ∧ (enF L law l = none → SR σ0 σ' (pth L l) br k) := by
  obtain ⟨d, rfl⟩ := ob1 (show 1 ≤ d by omega)
  obtain ⟨hD, h1, h2, h3, h4⟩ := id hS
  have hw := hD.wf
  have hb := hD.bl
  have h9 : lN0 L ≤ 8 := hw.1
  have hp8 := pow8 h9
  obtain ⟨⟨m1, m2, m3, m4, m5, m6, m7, m8, m9⟩, f3, f4, f5, f6, fs, fw⟩ := id hb
  unfold enF
  by_cases z0 : law = 1 ∨ law = 3
  · have q1 : wd (pth L l) l.length < 2 ^ lN0 L := wd_lt hw l.length
    have q2 : lS L < 2 ^ lN0 L := hw.2.2.2.1
    have q3 := Nat.xor_lt_two_pow q1 q2
    have e1 : clR PG0 MX d 112 [vR 43] σ = some (((wd (pth L l) l.length : Nat) : Int), σ) := s112 (d := d) (by omega) hb hw
    have e0 : σ 45 0 = (lS L : Nat) := by
      have := fw 0 (Nat.zero_le _)
      rw [wd_0] at this
      exact this
    have ex : i_xor ((wd (pth L l) l.length : Nat) : Int) ((lS L : Nat) : Int) = ((wd (pth L l) l.length ^^^ lS L : Nat) : Int) := i_xor_n (by omega) (by omega)
    have start : ∀ X, rsP PG0 MX d 111 12 [vR 43, vI law, vU] [] σ = X → clR PG0 MX (d + 1) 111 [vR 43, vI law] σ = X := fun X hX => by
      rw [ce_111, sg_111_0]
      by_cases z : law = 1
      · (try simp (disch := omega) only [wr_id2])
        repeat (first | ((with_reducible refine step_t ?_ ?_); with_reducible exact True.intro) | ((with_reducible refine step_t ?_ ?_); omega) | ((with_reducible refine step_f ?_ ?_); omega))
        exact hX
      · (try simp (disch := omega) only [wr_id2])
        repeat (first | ((with_reducible refine step_t ?_ ?_); with_reducible exact True.intro) | ((with_reducible refine step_t ?_ ?_); omega) | ((with_reducible refine step_f ?_ ?_); omega))
        exact hX
    rw [if_pos z0]
    generalize wd (pth L l) l.length ^^^ lS L = x at *
    have e50 := s50 (d := d) (by omega) σ (n := x) (by omega)
    have mm : σ 43 1 = 45 := m5
    have m8' : σ 45 (-1) = 20 := m8
    have m9' : σ 45 (-2) = 257 := m9
    by_cases z1 : pop x = 1
    · rw [if_pos z1]
      obtain ⟨x0, x1⟩ := popo (by omega) z1
      have xl := low_N h9 q3 z1
      have e101 := s101 (d := d) (by omega) σ x0 (by omega)
      obtain ⟨σ1, k1, k2, k3, k4⟩ := s31 (d := d) (by omega) hb hw (x := lowN 31 x) xl hl
      have D2 : DW σ0 σ1 (pth L (l ++ [lowN 31 x])) := ⟨hD.fs.ag3 k2 k3.1, k3, wf_push hw xl hl, by rw [k4]; exact hD.ex⟩
      have m43 := k3.1.2.2.1
      have m44 := k3.1.2.1
      have pre : ∀ X, rsP PG0 MX d 111 42 [vR 43, vI law, vI (x : Int)] [] σ1 = X → clR PG0 MX (d + 1) 111 [vR 43, vI law] σ = X := fun X hX => by
        refine start X ?_
        rw [sg_111_12]
        repeat (first | ((with_reducible refine step_t ?_ ?_); with_reducible exact True.intro) | ((with_reducible refine step_t ?_ ?_); omega) | ((with_reducible refine step_f ?_ ?_); omega))
        refine step_c (e1) ?_
        try dsimp only
        (try simp (disch := omega) only [mm, e0, ex, wr_id2])
        repeat (first | ((with_reducible refine step_t ?_ ?_); with_reducible exact True.intro) | ((with_reducible refine step_t ?_ ?_); omega) | ((with_reducible refine step_f ?_ ?_); omega))
        refine step_c (e50) ?_
        try dsimp only
        rw [z1]
        refine step_t rfl ?_
        refine step_c (e101) ?_
        try dsimp only
        repeat (first | ((with_reducible refine step_t ?_ ?_); with_reducible exact True.intro) | ((with_reducible refine step_t ?_ ?_); omega) | ((with_reducible refine step_f ?_ ?_); omega))
        refine step_c (k1) ?_
        try dsimp only
        exact hX
      by_cases z2 : law = 3 ∧ oppB (pth L (l ++ [lowN 31 x])) = false
      · rw [if_pos z2]
        obtain ⟨σ2, j1, j2, j3, j4⟩ := s113 (d := d) (by omega) D2.bl D2.wf
        have eP : popL (pth L (l ++ [lowN 31 x])) = pth L l := by
          show (lN0 L, lA L, lB L, lS L, (l ++ [lowN 31 x]).dropLast) = _
          rw [List.dropLast_concat]
        rw [eP] at j3
        have e60 := s60 (d := d) (by omega) D2.bl D2.wf
        rw [z2.2] at e60
        have ag := ag3_tr k2 j2
        refine ⟨σ2, pre _ ?_, fun l' q => (by cases q), fun _ => ⟨⟨D2.fs.ag3 j2 j3.1, j3, hw, by rw [j4]; exact D2.ex⟩, fun w hw2 => ?_, ?_, fun i y hy => ?_, fun i hi => ?_⟩⟩
        · rw [sg_111_42]
          (try simp (disch := omega) only [wr_id2])
          repeat (first | ((with_reducible refine step_t ?_ ?_); with_reducible exact True.intro) | ((with_reducible refine step_t ?_ ?_); omega) | ((with_reducible refine step_f ?_ ?_); omega))
          refine step_c (e60) ?_
          try dsimp only
          rw [wr_b2i]
          refine step_f (show ¬ (b2i false ≠ 0) by decide) ?_
          repeat (first | ((with_reducible refine step_t ?_ ?_); with_reducible exact True.intro) | ((with_reducible refine step_t ?_ ?_); omega) | ((with_reducible refine step_f ?_ ?_); omega))
          refine step_c (j1) ?_
          try dsimp only
          rfl
        · rw [ag _ _ (by omega)]; exact h1 w hw2
        · rw [ag _ _ (by omega)]; exact h2
        · rw [ag _ _ (by omega)]; exact h3 i y hy
        · rw [ag _ _ (by omega)]; exact h4 i hi
      · rw [if_neg z2]
        refine ⟨σ1, pre _ ?_, fun l' q => (by cases q; exact D2), fun q => (by cases q)⟩
        rw [sg_111_42]
        by_cases z3 : law = 3
        · have e60 := s60 (d := d) (by omega) D2.bl D2.wf
          rw [show oppB (pth L (l ++ [lowN 31 x])) = true by
            cases q : oppB (pth L (l ++ [lowN 31 x])) with
            | true => rfl
            | false => exact absurd ⟨z3, q⟩ z2] at e60
          (try simp (disch := omega) only [wr_id2])
          repeat (first | ((with_reducible refine step_t ?_ ?_); with_reducible exact True.intro) | ((with_reducible refine step_t ?_ ?_); omega) | ((with_reducible refine step_f ?_ ?_); omega))
          refine step_c (e60) ?_
          try dsimp only
          rw [wr_b2i]
          refine step_t (show b2i true ≠ 0 by decide) ?_
          rfl
        · (try simp (disch := omega) only [wr_id2])
          repeat (first | ((with_reducible refine step_t ?_ ?_); with_reducible exact True.intro) | ((with_reducible refine step_t ?_ ?_); omega) | ((with_reducible refine step_f ?_ ?_); omega))
          rfl
    · rw [if_neg z1]
      refine ⟨σ, start _ ?_, fun l' q => (by cases q), fun _ => hS⟩
      have p8 := pop_le x (by omega)
      rw [sg_111_12]
      repeat (first | ((with_reducible refine step_t ?_ ?_); with_reducible exact True.intro) | ((with_reducible refine step_t ?_ ?_); omega) | ((with_reducible refine step_f ?_ ?_); omega))
      refine step_c (e1) ?_
      try dsimp only
      (try simp (disch := omega) only [mm, e0, ex, wr_id2])
      repeat (first | ((with_reducible refine step_t ?_ ?_); with_reducible exact True.intro) | ((with_reducible refine step_t ?_ ?_); omega) | ((with_reducible refine step_f ?_ ?_); omega))
      refine step_c (e50) ?_
      try dsimp only
      (try simp (disch := omega) only [wr_id2])
      repeat (first | ((with_reducible refine step_t ?_ ?_); with_reducible exact True.intro) | ((with_reducible refine step_t ?_ ?_); omega) | ((with_reducible refine step_f ?_ ?_); omega))
      rfl
  · rw [if_neg z0]
    refine ⟨σ, ?_, fun l' q => (by cases q; exact hD), fun q => (by cases q)⟩
    rw [ce_111, sg_111_0]
    (try simp (disch := omega) only [wr_id2])
    repeat (first | ((with_reducible refine step_t ?_ ?_); with_reducible exact True.intro) | ((with_reducible refine step_t ?_ ?_); omega) | ((with_reducible refine step_f ?_ ?_); omega))
    rfl
def FC9 (d : Nat) (σ0 : HP) (L : LB) (law : Int) (T W : Nat) (l : List Nat) (t : Nat) (X : Option (Int × HP)) (R : SQ) : Prop :=
  (R.1 = 1 ∧ ∃ σ', X = some (((R.2.1.length : Nat) : Int), σ') ∧ DW σ0 σ' (pth L R.2.1)) ∨ (R.1 = -3 ∧ ∃ σ', X = some (-3, σ') ∧ FS σ0 σ') ∨ (R.1 = 0 ∧ t ≤ R.2.2 ∧ R.2.2 ≤ T ∧ ((l = [] ∧ ∃ σ', X = some (-1, σ') ∧ FS σ0 σ') ∨ ∃ l0 x σ', l = l0 ++ [x] ∧ X = rsP PG0 MX d 109 68 [vR 90, vU, vI law, vI T, vR 43, vU, vI W, vI (R.2.2 : Nat), vI (2 * ((R.2.2 : Nat) : Int) - (l0.length : Nat)), vU] [] σ' ∧ SR σ0 σ' (pth L l0) (brF L l0) (x + 1)))
theorem s109z {d : Nat} (h : 20 ≤ d) {σ0 σ : HP} {L : LB} {law : Int} (hlaw : 0 ≤ law ∧ law ≤ 3) {T W : Nat} (hT : T ≤ 50000) {l : List Nat} {k t : Nat} (hk : k ≤ lN0 L) (hS : SR σ0 σ (pth L l) (brF L l) k) (hV : VP L l) (ht : l.length ≤ t) (ht2 : t ≤ T) (hn : nxI (frF L law l) (lN0 L - k) k = -1) (u1 u5 u9 : MV) : FC9 d σ0 L law T W l t (rsP PG0 MX d 109 100 [vR 90, u1, vI law, vI T, vR 43, u5, vI W, vI t, vI (2 * (t : Int) - (l.length : Nat)), u9] [] σ) (0, [], t) := by
  have hD := hS.1
  have hw := hD.wf
  have hb := hD.bl
  have hl : l.length ≤ 256 := wf_len hw
  have hp8 : 2 ^ lN0 L ≤ 256 := pow8 hw.1
  obtain ⟨⟨m1, m2, m3, m4, m5, m6, m7, m8, m9⟩, f3, f4, f5, f6, fs, fw⟩ := id hb
  have g6 : σ 43 6 = (l.length : Nat) := f6
  clear f6
  have hy := hD.fs.2
  have y1 := hy.1
  have a1 := y90_m1 hy
  have a2 := y90_0 hy
  have b1 := y91_m1 hy
  have b2 := y91_m2 hy
  have e114 : clR PG0 MX d 114 [vR 90, vR 43, vI law] σ = some (nxI (frF L law l) (lN0 L - k) k, σ) := s114 (d := d) (by omega) hS hk hlaw
  rw [hn] at e114
  refine Or.inr (Or.inr ⟨rfl, Nat.le_refl _, ht2, ?_⟩)
  rcases List.eq_nil_or_concat l with z | ⟨l0, x, z⟩
  · subst z
    have f6 : σ 43 6 = 0 := g6
    refine Or.inl ⟨rfl, σ, ?_, hD.fs⟩
    rw [sg_109_100]
    repeat (first | ((with_reducible refine step_t ?_ ?_); with_reducible exact True.intro) | ((with_reducible refine step_t ?_ ?_); omega) | ((with_reducible refine step_f ?_ ?_); omega))
    refine step_c (e114) ?_
    try dsimp only
    (try simp (disch := omega) only [f6, wr_id2])
    repeat (first | ((with_reducible refine step_t ?_ ?_); with_reducible exact True.intro) | ((with_reducible refine step_t ?_ ?_); omega) | ((with_reducible refine step_f ?_ ?_); omega))
    rfl
  · rw [List.concat_eq_append] at z
    subst z
    rw [len_a] at g6 hl ht ⊢
    have e112 : clR PG0 MX d 112 [vR 43] σ = some (((wd (pth L (l0 ++ [x])) (l0 ++ [x]).length : Nat) : Int), σ) := s112 (d := d) (by omega) hb hw
    have wl := wd_lt hw (l0 ++ [x]).length
    rw [len_a, wd_e] at e112 wl
    have wl : wd (pth L l0) l0.length ^^^ 2 ^ x < 2 ^ lN0 L := wl
    have S1 := hS.bar (w := wd (pth L l0) l0.length ^^^ 2 ^ x) (b := false) (br' := brF L l0) wl (fun v hv => brF_b hV v) (v := 0) rfl
    obtain ⟨σ2, k1, S2⟩ := s113r (d := d) (by omega) (P := pth L l0) S1
    refine Or.inr ⟨l0, x, σ2, rfl, ?_, S2⟩
    rw [sg_109_100]
    repeat (first | ((with_reducible refine step_t ?_ ?_); with_reducible exact True.intro) | ((with_reducible refine step_t ?_ ?_); omega) | ((with_reducible refine step_f ?_ ?_); omega))
    refine step_c (e114) ?_
    try dsimp only
    (try simp (disch := omega) only [g6, wr_id2])
    repeat (first | ((with_reducible refine step_t ?_ ?_); with_reducible exact True.intro) | ((with_reducible refine step_t ?_ ?_); omega) | ((with_reducible refine step_f ?_ ?_); omega))
    refine step_c (e112) ?_
    try dsimp only
    (try simp (disch := omega) only [a2, wr_id2])
    repeat (first | ((with_reducible refine step_t ?_ ?_); with_reducible exact True.intro) | ((with_reducible refine step_t ?_ ?_); omega) | ((with_reducible refine step_f ?_ ?_); omega))
    (try simp (disch := omega) only [up_n1, wr_id2])
    repeat (first | ((with_reducible refine step_t ?_ ?_); with_reducible exact True.intro) | ((with_reducible refine step_t ?_ ?_); omega) | ((with_reducible refine step_f ?_ ?_); omega))
    refine step_c (k1) ?_
    try dsimp only
    rw [show 2 * (t : Int) - ((l0.length + 1 : Nat) : Int) + 1 = 2 * (t : Int) - (l0.length : Nat) by omega]
