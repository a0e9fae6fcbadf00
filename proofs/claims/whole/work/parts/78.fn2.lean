/-! FINDS: the class's loop -/
def scA (fr : List Nat → Nat → Bool) (en : List Nat → Option (List Nat)) (N T : Nat) (m : Nat) (l : List Nat) (k t : Nat) : SQ := match m with
  | 0 => sch fr en N T 0 l t
  | m + 1 => scB fr (sch fr en N T m) T l (N - k) k t
theorem scA_0 {fr : List Nat → Nat → Bool} {en : List Nat → Option (List Nat)} {N T : Nat} (m : Nat) (l : List Nat) (t : Nat) : scA fr en N T m l 0 t = sch fr en N T m l t := by
  cases m with
  | zero => rfl
  | succ m => rfl
theorem app_inj {l l0 : List Nat} {k x : Nat} (h : l ++ [k] = l0 ++ [x]) : l = l0 ∧ k = x := by
  have := List.append_inj' h rfl
  exact ⟨this.1, by have := this.2; cases this; rfl⟩
theorem s109c {d : Nat} (h : 20 ≤ d) {σ0 : HP} {L : LB} {law : Int} (hlaw : 0 ≤ law ∧ law ≤ 3) {T W : Nat} (hT : T ≤ 50000) (hW : W < 256) (hc : W + 1 = cntB (inSc L) (2 ^ lN0 L)) : ∀ (m : Nat) (l : List Nat) (k t : Nat) (σ : HP) (u1 u5 u9 : MV), m + l.length = W → k ≤ lN0 L → SR σ0 σ (pth L l) (brF L l) k → VP L l → l.length ≤ t → t ≤ T → FC9 d σ0 L law T W l t (rsP PG0 MX d 109 68 [vR 90, u1, vI law, vI T, vR 43, u5, vI W, vI t, vI (2 * (t : Int) - (l.length : Nat)), u9] [] σ) (scA (frF L law) (enF L law) (lN0 L) T m l k t) := by
  intro m
  induction m with
  | zero =>
    intro l k t σ u1 u5 u9 hm hk hS hV ht ht2
    have hD := hS.1
    have hw := hD.wf
    have hb := hD.bl
    obtain ⟨⟨m1, m2, m3, m4, m5, m6, m7, m8, m9⟩, f3, f4, f5, f6, fs, fw⟩ := id hb
    have g6 : σ 43 6 = (l.length : Nat) := f6
    clear f6
    obtain ⟨σ1, k1, k2, k3⟩ := s111 (d := d) (by omega) hS (by omega) hlaw
    show FC9 d σ0 L law T W l t _ (match enF L law l with | some l' => (1, l', t) | none => (0, [], t))
    cases en : enF L law l with
    | some l' =>
      rw [en] at k1
      have D1 := k2 l' en
      have hb1 := D1.bl
      obtain ⟨⟨n1, n2, n3, -⟩, -, -, -, n6, -⟩ := id hb1
      have n6 : σ1 43 6 = (l'.length : Nat) := n6
      refine Or.inl ⟨rfl, σ1, ?_, D1⟩
      rw [sg_109_68]
      (try simp (disch := omega) only [g6, wr_id2])
      repeat (first | ((with_reducible refine step_t ?_ ?_); with_reducible exact True.intro) | ((with_reducible refine step_t ?_ ?_); omega) | ((with_reducible refine step_f ?_ ?_); omega))
      refine step_c (k1) ?_
      try dsimp only
      rw [wr_b2i]
      refine step_f (show ¬ (b2i (some l').isSome = 0) from fun q => by cases q) ?_
      (try simp (disch := omega) only [n6, wr_id2])
      repeat (first | ((with_reducible refine step_t ?_ ?_); with_reducible exact True.intro) | ((with_reducible refine step_t ?_ ?_); omega) | ((with_reducible refine step_f ?_ ?_); omega))
      rfl
    | none =>
      rw [en] at k1
      have S1 := k3 en
      have q := s109z (d := d) h hlaw (W := W) hT hk S1 hV ht ht2 (nxI_n _ _ (fun j h1 h2 => hV.end hw (by omega) (by omega) (by omega))) vU vU vU
      have e : rsP PG0 MX d 109 68 [vR 90, u1, vI law, vI T, vR 43, u5, vI W, vI t, vI (2 * (t : Int) - (l.length : Nat)), u9] [] σ = rsP PG0 MX d 109 100 [vR 90, vU, vI law, vI T, vR 43, vU, vI W, vI t, vI (2 * (t : Int) - (l.length : Nat)), vU] [] σ1 := by
        rw [sg_109_68]
        (try simp (disch := omega) only [g6, wr_id2])
        repeat (first | ((with_reducible refine step_t ?_ ?_); with_reducible exact True.intro) | ((with_reducible refine step_t ?_ ?_); omega) | ((with_reducible refine step_f ?_ ?_); omega))
        refine step_c (k1) ?_
        try dsimp only
        rw [wr_b2i]
        refine step_t (show b2i (none : Option (List Nat)).isSome = 0 from rfl) ?_
        rfl
      rw [e]
      exact q
  | succ m ih =>
    have inner : ∀ (q : Nat) (l : List Nat) (k t : Nat) (σ : HP) (u1 u5 u9 : MV), lN0 L - k ≤ q → m + 1 + l.length = W → k ≤ lN0 L → SR σ0 σ (pth L l) (brF L l) k → VP L l → l.length ≤ t → t ≤ T → FC9 d σ0 L law T W l t (rsP PG0 MX d 109 68 [vR 90, u1, vI law, vI T, vR 43, u5, vI W, vI t, vI (2 * (t : Int) - (l.length : Nat)), u9] [] σ) (scB (frF L law) (sch (frF L law) (enF L law) (lN0 L) T m) T l (lN0 L - k) k t) := by
      intro q
      induction q with
      | zero =>
        intro l k t σ u1 u5 u9 hq hm hk hS hV ht ht2
        have hb := hS.1.bl
        obtain ⟨⟨m1, m2, m3, m4, m5, m6, m7, m8, m9⟩, f3, f4, f5, f6, fs, fw⟩ := id hb
        have g6 : σ 43 6 = (l.length : Nat) := f6
        clear f6
        have e0 : lN0 L - k = 0 := by omega
        have hn : nxI (frF L law l) (lN0 L - k) k = -1 := by rw [e0]; rfl
        have q := s109z (d := d) h hlaw (W := W) hT hk hS hV ht ht2 hn vU vU vU
        rw [scB_n _ _ hn]
        have e : rsP PG0 MX d 109 68 [vR 90, u1, vI law, vI T, vR 43, u5, vI W, vI t, vI (2 * (t : Int) - (l.length : Nat)), u9] [] σ = rsP PG0 MX d 109 100 [vR 90, vU, vI law, vI T, vR 43, vU, vI W, vI t, vI (2 * (t : Int) - (l.length : Nat)), vU] [] σ := by
          rw [sg_109_68]
          (try simp (disch := omega) only [g6, wr_id2])
          repeat (first | ((with_reducible refine step_t ?_ ?_); with_reducible exact True.intro) | ((with_reducible refine step_t ?_ ?_); omega) | ((with_reducible refine step_f ?_ ?_); omega))
          rfl
        rw [e]
        exact q
      | succ q ihq =>
        intro l k t σ u1 u5 u9 hq hm hk hS hV ht ht2
        have hw := hS.1.wf
        have hb := hS.1.bl
        have hp8 : 2 ^ lN0 L ≤ 256 := pow8 hw.1
        obtain ⟨⟨m1, m2, m3, m4, m5, m6, m7, m8, m9⟩, f3, f4, f5, f6, fs, fw⟩ := id hb
        have g6 : σ 43 6 = (l.length : Nat) := f6
        clear f6
        have e : rsP PG0 MX d 109 68 [vR 90, u1, vI law, vI T, vR 43, u5, vI W, vI t, vI (2 * (t : Int) - (l.length : Nat)), u9] [] σ = rsP PG0 MX d 109 100 [vR 90, vU, vI law, vI T, vR 43, vU, vI W, vI t, vI (2 * (t : Int) - (l.length : Nat)), vU] [] σ := by
          rw [sg_109_68]
          (try simp (disch := omega) only [g6, wr_id2])
          repeat (first | ((with_reducible refine step_t ?_ ?_); with_reducible exact True.intro) | ((with_reducible refine step_t ?_ ?_); omega) | ((with_reducible refine step_f ?_ ?_); omega))
          rfl
        rw [e]
        rcases nxI_c (f := frF L law l) (lN0 L - k) k with hn | ⟨j, j1, j2, j3, j4⟩
        · rw [scB_n _ _ hn]
          exact s109z (d := d) h hlaw hT hk hS hV ht ht2 hn vU vU vU
        · rw [scB_s _ _ _ j1]
          have hjN : j < lN0 L := by omega
          have hN8 : lN0 L ≤ 8 := hw.1
          have hy := hS.1.fs.2
          have y1 := hy.1
          have a1 := y90_m1 hy
          have e114 : clR PG0 MX d 114 [vR 90, vR 43, vI law] σ = some (nxI (frF L law l) (lN0 L - k) k, σ) := s114 (d := d) (by omega) hS hk hlaw
          rw [j1] at e114
          by_cases zT : t = T
          · rw [if_pos zT]
            refine Or.inr (Or.inl ⟨rfl, σ, ?_, hS.1.fs⟩)
            rw [sg_109_100]
            repeat (first | ((with_reducible refine step_t ?_ ?_); with_reducible exact True.intro) | ((with_reducible refine step_t ?_ ?_); omega) | ((with_reducible refine step_f ?_ ?_); omega))
            refine step_c (e114) ?_
            try dsimp only
            (try simp (disch := omega) only [wr_id2])
            repeat (first | ((with_reducible refine step_t ?_ ?_); with_reducible exact True.intro) | ((with_reducible refine step_t ?_ ?_); omega) | ((with_reducible refine step_f ?_ ?_); omega))
            rfl
          · rw [if_neg zT]
            obtain ⟨σ1, k1, S1⟩ := s116 (d := d) (by omega) hS hjN (show l.length < 256 by omega)
            have S1 : SR σ0 σ1 (pth L (l ++ [j])) (brF L l) 0 := S1
            have hw1 := S1.1.wf
            have e112 : clR PG0 MX d 112 [vR 43] σ1 = some (((wd (pth L (l ++ [j])) (l ++ [j]).length : Nat) : Int), σ1) := s112 (d := d) (by omega) S1.1.bl hw1
            have wl := wd_lt hw1 (l ++ [j]).length
            rw [len_a, wd_e] at e112 wl
            have wl : wd (pth L l) l.length ^^^ 2 ^ j < 2 ^ lN0 L := wl
            have S2 := S1.bar (w := wd (pth L l) l.length ^^^ 2 ^ j) (b := true) (br' := brF L (l ++ [j])) wl (fun v _ => brF_a v) (v := 1) rfl
            have r := ih (l ++ [j]) 0 (t + 1) _ vU vU vU (by rw [len_a]; omega) (Nat.zero_le _) S2 (hV.push j4) (by rw [len_a]; omega) (by omega)
            rw [scA_0] at r
            have hb1 := S1.1.bl
            obtain ⟨⟨n1, n2, n3, -⟩, -⟩ := id hb1
            have hy1 := S1.1.fs.2
            have y11 := hy1.1
            have a11 := y90_m1 hy1
            have a21 := y90_0 hy1
            have b11 := y91_m1 hy1
            have b21 := y91_m2 hy1
            have e2 : rsP PG0 MX d 109 100 [vR 90, vU, vI law, vI T, vR 43, vU, vI W, vI t, vI (2 * (t : Int) - (l.length : Nat)), vU] [] σ = rsP PG0 MX d 109 68 [vR 90, vU, vI law, vI T, vR 43, vU, vI W, vI ((t + 1 : Nat) : Int), vI (2 * ((t + 1 : Nat) : Int) - ((l ++ [j]).length : Nat)), vU] [] (up σ1 91 ((wd (pth L l) l.length ^^^ 2 ^ j : Nat) : Int) 1) := by
              rw [sg_109_100]
              repeat (first | ((with_reducible refine step_t ?_ ?_); with_reducible exact True.intro) | ((with_reducible refine step_t ?_ ?_); omega) | ((with_reducible refine step_f ?_ ?_); omega))
              refine step_c (e114) ?_
              try dsimp only
              (try simp (disch := omega) only [wr_id2])
              repeat (first | ((with_reducible refine step_t ?_ ?_); with_reducible exact True.intro) | ((with_reducible refine step_t ?_ ?_); omega) | ((with_reducible refine step_f ?_ ?_); omega))
              refine step_c (k1) ?_
              try dsimp only
              repeat (first | ((with_reducible refine step_t ?_ ?_); with_reducible exact True.intro) | ((with_reducible refine step_t ?_ ?_); omega) | ((with_reducible refine step_f ?_ ?_); omega))
              refine step_c (e112) ?_
              try dsimp only
              (try simp (disch := omega) only [a21, wr_id2])
              repeat (first | ((with_reducible refine step_t ?_ ?_); with_reducible exact True.intro) | ((with_reducible refine step_t ?_ ?_); omega) | ((with_reducible refine step_f ?_ ?_); omega))
              rw [len_a, show 2 * ((t + 1 : Nat) : Int) - ((l.length + 1 : Nat) : Int) = 2 * (t : Int) - (l.length : Nat) + 1 by omega]
              rfl
            rw [e2]
            generalize sch (frF L law) (enF L law) (lN0 L) T m (l ++ [j]) (t + 1) = R at *
            rcases r with ⟨r1, r2⟩ | ⟨r1, r2⟩ | ⟨r1, r2, r3, r4⟩
            · rw [if_neg (by omega)]
              exact Or.inl ⟨r1, r2⟩
            · rw [if_neg (by omega)]
              exact Or.inr (Or.inl ⟨r1, r2⟩)
            · rw [if_pos r1]
              rcases r4 with ⟨r5, -⟩ | ⟨l0, x, σ', r5, r6, r7⟩
              · have := congrArg List.length r5
                rw [len_a] at this
                cases this
              · obtain ⟨rfl, rfl⟩ := app_inj r5
                have fin := ihq l (j + 1) R.2.2 σ' vU vU vU (by omega) hm (by omega) r7 hV (by omega) r3
                rw [← r6, show lN0 L - (j + 1) = k + (lN0 L - k) - (j + 1) by omega] at fin
                rcases fin with q1 | q1 | ⟨q1, q2, q3⟩
                · exact Or.inl q1
                · exact Or.inr (Or.inl q1)
                · exact Or.inr (Or.inr ⟨q1, by omega, q3⟩)
    intro l k t σ u1 u5 u9 hm hk hS hV ht ht2
    exact inner (lN0 L - k) l k t σ u1 u5 u9 (Nat.le_refl _) hm hk hS hV ht ht2
/-- barOutsideScope -/
theorem s110l {d : Nat} (h : 2 ≤ d) {σ0 : HP} {b : Int} {L : LB} (hb0 : blr σ0 b L) (hb43 : b + 2 < 43) (hw : wf0 L) : ∀ (m i : Nat) (σ : HP), i + m = 2 ^ lN0 L → FS σ0 σ → (∀ w : Nat, w < i → σ 91 w = b2i (!inSc L w)) → ∃ σ', rsP PG0 MX d 110 2 [vR 90, vR b, vI i] [] σ = some (0, σ') ∧ FS σ0 σ' ∧ ∀ w : Nat, w < 2 ^ lN0 L → σ' 91 w = b2i (!inSc L w) := by
  have hp8 := pow8 hw.1
  intro m
  induction m with
  | zero =>
    intro i σ hi hF hr
    have hb := hF.blr hb0 (by omega) (by omega)
    obtain ⟨⟨m1, m2, m3, m4, m5, m6, m7, m8, m9⟩, f3, f4, f5, f6, fs, fw⟩ := id hb
    refine ⟨σ, ?_, hF, fun w hw2 => hr w (by omega)⟩
    rw [sg_110_2]
    repeat (first | ((with_reducible refine step_t ?_ ?_); with_reducible exact True.intro) | ((with_reducible refine step_t ?_ ?_); omega) | ((with_reducible refine step_f ?_ ?_); omega))
    refine step_c (s47 (by omega) hb hw) ?_
    try dsimp only
    (try simp (disch := omega) only [wr_id2])
    repeat (first | ((with_reducible refine step_t ?_ ?_); with_reducible exact True.intro) | ((with_reducible refine step_t ?_ ?_); omega) | ((with_reducible refine step_f ?_ ?_); omega))
    rfl
  | succ m ih =>
    intro i σ hi hF hr
    have hb := hF.blr hb0 (by omega) (by omega)
    obtain ⟨⟨m1, m2, m3, m4, m5, m6, m7, m8, m9⟩, f3, f4, f5, f6, fs, fw⟩ := id hb
    have hy := hF.2
    have y1 := hy.1
    have a1 := y90_m1 hy
    have a2 := y90_0 hy
    have b1 := y91_m1 hy
    have b2 := y91_m2 hy
    have e47 := s47 (d := d) (by omega) hb hw
    have e49 := s49 (d := d) (w := i) (by omega) hb hw (by omega)
    have nx : ∀ v : Int, v = b2i (!inSc L i) → ∃ σ', rsP PG0 MX d 110 2 [vR 90, vR b, vI ((i : Int) + 1)] [] (up σ 91 (i : Int) v) = some (0, σ') ∧ FS σ0 σ' ∧ ∀ w : Nat, w < 2 ^ lN0 L → σ' 91 w = b2i (!inSc L w) := fun v hv => ih (i + 1) _ (by omega) (hF.upd (by decide) (by decide +kernel) (by omega)) (fun w hw2 => by
      by_cases z : w = i
      · rw [z, up_s, hv]
      · rw [up_n2 _ _ _ _ (by omega)]; exact hr w (by omega))
    cases z : inSc L i with
    | true =>
      rw [z] at e49
      obtain ⟨σ', k1, k2⟩ := nx 0 (by rw [z]; rfl)
      refine ⟨σ', ?_, k2⟩
      rw [sg_110_2]
      repeat (first | ((with_reducible refine step_t ?_ ?_); with_reducible exact True.intro) | ((with_reducible refine step_t ?_ ?_); omega) | ((with_reducible refine step_f ?_ ?_); omega))
      refine step_c (e47) ?_
      try dsimp only
      (try simp (disch := omega) only [wr_id2])
      repeat (first | ((with_reducible refine step_t ?_ ?_); with_reducible exact True.intro) | ((with_reducible refine step_t ?_ ?_); omega) | ((with_reducible refine step_f ?_ ?_); omega))
      refine step_c (e49) ?_
      try dsimp only
      rw [wr_b2i]
      refine step_f (show ¬ (b2i true = 0) by decide) ?_
      (try simp (disch := omega) only [a2, wr_id2])
      repeat (first | ((with_reducible refine step_t ?_ ?_); with_reducible exact True.intro) | ((with_reducible refine step_t ?_ ?_); omega) | ((with_reducible refine step_f ?_ ?_); omega))
      exact k1
    | false =>
      rw [z] at e49
      obtain ⟨σ', k1, k2⟩ := nx 1 (by rw [z]; rfl)
      refine ⟨σ', ?_, k2⟩
      rw [sg_110_2]
      repeat (first | ((with_reducible refine step_t ?_ ?_); with_reducible exact True.intro) | ((with_reducible refine step_t ?_ ?_); omega) | ((with_reducible refine step_f ?_ ?_); omega))
      refine step_c (e47) ?_
      try dsimp only
      (try simp (disch := omega) only [wr_id2])
      repeat (first | ((with_reducible refine step_t ?_ ?_); with_reducible exact True.intro) | ((with_reducible refine step_t ?_ ?_); omega) | ((with_reducible refine step_f ?_ ?_); omega))
      refine step_c (e49) ?_
      try dsimp only
      rw [wr_b2i]
      refine step_t (show b2i false = 0 by decide) ?_
      (try simp (disch := omega) only [a2, wr_id2])
      repeat (first | ((with_reducible refine step_t ?_ ?_); with_reducible exact True.intro) | ((with_reducible refine step_t ?_ ?_); omega) | ((with_reducible refine step_f ?_ ?_); omega))
      exact k1
def fndL (L : LB) (law : Int) (T : Nat) : Int × Option LB := if inSc L (lS L) = true then (if (sch (frF L law) (enF L law) (lN0 L) T (cntB (inSc L) (2 ^ lN0 L) - 1) [] 0).1 = 1 then (((sch (frF L law) (enF L law) (lN0 L) T (cntB (inSc L) (2 ^ lN0 L) - 1) [] 0).2.1.length : Nat), some (pth L (sch (frF L law) (enF L law) (lN0 L) T (cntB (inSc L) (2 ^ lN0 L) - 1) [] 0).2.1)) else if (sch (frF L law) (enF L law) (lN0 L) T (cntB (inSc L) (2 ^ lN0 L) - 1) [] 0).1 = 0 then (-1, none) else (-3, none)) else (-1, none)
def fndQ (law T : Int) (L : LB) : Int × Option LB := if (0 ≤ law ∧ law ≤ 3) ∧ 1 ≤ T ∧ T ≤ 50000 then fndL L law T.toNat else (-2, none)
theorem s109 {d : Nat} (h : 30 ≤ d) {σ : HP} {b : Int} {L : LB} (hy : Lay σ) (hb : blr σ b L) (hw : wf0 L) (hb43 : b + 2 < 43) {law : Int} (hlaw : 0 ≤ law ∧ law ≤ 3) {T : Nat} (hT : T ≤ 50000) : ∃ σ', clR PG0 MX d 109 [vR 90, vR b, vI law, vI T, vR 43] σ = some ((fndL L law T).1, σ') ∧ FS σ σ' ∧ (((fndL L law T).2 = none ∧ -3 ≤ (fndL L law T).1 ∧ (fndL L law T).1 < 0) ∨ ∃ M, (fndL L law T).2 = some M ∧ DW σ σ' M ∧ (fndL L law T).1 = ((lT M).length : Nat) ∧ lN0 M = lN0 L ∧ lA M = lA L ∧ lB M = lB L) := by
  obtain ⟨d, rfl⟩ := ob1 (show 1 ≤ d by omega)
  have hp8 := pow8 hw.1
  have hcl := cntB_le (inSc L) (2 ^ lN0 L)
  have q2 : lS L < 2 ^ lN0 L := hw.2.2.2.1
  obtain ⟨⟨m1, m2, m3, m4, m5, m6, m7, m8, m9⟩, f3, f4, f5, f6, fs, fw⟩ := id hb
  have y1 := hy.1
  have a1 := y90_m1 hy
  have e0 : σ (b + 2) 0 = (lS L : Nat) := by
    have := fw 0 (Nat.zero_le _)
    rw [wd_0] at this
    exact this
  have e49 := s49 (d := d) (w := lS L) (by omega) hb hw (by omega)
  unfold fndL
  cases z : inSc L (lS L) with
  | false =>
    rw [z] at e49
    rw [if_neg (by decide)]
    refine ⟨σ, ?_, FS.rf hy, Or.inl ⟨rfl, by decide, by decide⟩⟩
    rw [ce_109, sg_109_0]
    (try simp (disch := omega) only [m5, e0, wr_id2])
    repeat (first | ((with_reducible refine step_t ?_ ?_); with_reducible exact True.intro) | ((with_reducible refine step_t ?_ ?_); omega) | ((with_reducible refine step_f ?_ ?_); omega))
    refine step_c (e49) ?_
    try dsimp only
    rw [wr_b2i]
    refine step_f (show ¬ (b2i false ≠ 0) by decide) ?_
    rfl
  | true =>
    rw [z] at e49
    rw [if_pos rfl]
    have hpos : 0 < cntB (inSc L) (2 ^ lN0 L) := (cntB_pos _).mp ⟨lS L, q2, z⟩
    have e110 : ∃ σ1, clR PG0 MX d 110 [vR 90, vR b] σ = some (0, σ1) ∧ FS σ σ1 ∧ ∀ w : Nat, w < 2 ^ lN0 L → σ1 91 w = b2i (!inSc L w) := by
      obtain ⟨d, rfl⟩ := ob1 (show 1 ≤ d by omega)
      obtain ⟨σ1, k1, k2⟩ := s110l (d := d) (by omega) hb hb43 hw (2 ^ lN0 L) 0 σ (by omega) (FS.rf hy) (fun w hw2 => by omega)
      exact ⟨σ1, by rw [ce_110, sg_110_0]; exact k1, k2⟩
    obtain ⟨σ1, k1, F1, r1⟩ := e110
    obtain ⟨σ2, k2, D2⟩ := dw_beg (d := d) (by omega) F1 (F1.blr hb (by omega) (by omega)) hw q2
    have D2 : DW σ σ2 (pth L []) := D2
    have ag : ∀ w : Nat, w < 2 ^ lN0 L → σ2 91 w = b2i (!inSc L w) := by
      obtain ⟨σ2', j1, j2, -⟩ := s104 (d := d) (by omega) (yb_43 F1.2) (F1.blr hb (by omega) (by omega)) (lS L)
      have : σ2' = σ2 := by
        rw [k2] at j1
        exact (congrArg (fun q => q.getD (0, σ)) j1 |> fun e => (congrArg Prod.snd e).symm)
      intro w hw2
      rw [← this, j2 _ _ (by omega)]
      exact r1 w hw2
    have hy1 := F1.2
    obtain ⟨z5, z6, z7, -⟩ := yb_43 hy1
    have y11 := hy1.1
    have hy2 := D2.fs.2
    have y12 := hy2.1
    have a12 := y90_m1 hy2
    have a22 := y90_0 hy2
    have a32 := y90_1 hy2
    have a42 := y90_2 hy2
    have b12 := y91_m1 hy2
    have b22 := y91_m2 hy2
    have c12 := y92_m1 hy2
    have c22 := y92_m2 hy2
    have d12 := y93_m1 hy2
    have d22 := y93_m2 hy2
    have F3 : FS σ (up (up (up σ2 91 (lS L : Nat) 1) 92 0 0) 93 0 0) := ((D2.fs.upd (by decide) (by decide +kernel) (by omega)).upd (by decide) (by decide +kernel) (by omega)).upd (by decide) (by decide +kernel) (by omega)
    have S3 : SR σ (up (up (up σ2 91 (lS L : Nat) 1) 92 0 0) 93 0 0) (pth L []) (brF L []) 0 := by
      refine ⟨⟨F3, blr_same D2.bl (by rw [up_n1 _ _ _ _ (by omega), up_n1 _ _ _ _ (by omega), up_n1 _ _ _ _ (by omega)]; exact Int.le_refl _) (fun a j g1 g2 => by rw [up_n1 _ _ _ _ (by omega), up_n1 _ _ _ _ (by omega), up_n1 _ _ _ _ (by omega)]), D2.wf, by rw [up_n1 _ _ _ _ (by omega), up_n1 _ _ _ _ (by omega), up_n1 _ _ _ _ (by omega)]; exact D2.ex⟩, fun w hw2 => ?_, ?_, fun i x hx => (by cases hx), fun i hi => ?_⟩
      · rw [up_n1 _ _ _ _ (by omega), up_n1 _ _ _ _ (by omega)]
        unfold brF
        rw [inP_0]
        by_cases zz : w = lS L
        · rw [if_pos zz, zz, up_s, Bool.or_true]; rfl
        · rw [if_neg zz, up_n2 _ _ _ _ (by omega), Bool.or_false]; exact ag w hw2
      · rw [up_n1 _ _ _ _ (by omega)]; exact up_s _ _ _ _
      · have hi : i ≤ 0 := hi
        have : i = 0 := by omega
        rw [this]; exact up_s _ _ _ _
    have hbz : blr (up (up (up σ2 91 (lS L : Nat) 1) 92 0 0) 93 0 0) b L := F3.blr hb (by omega) (by omega)
    obtain ⟨⟨n1, n2, n3, -⟩, -⟩ := id hbz
    have n3' : σ2 b (-1) = 0 := (D2.blr hb hb43).1.2.2.1
    have n2' := (D2.blr hb hb43).1.2.1
    have e48 := s48 (d := d) (by omega) hbz hw
    have r := s109c (d := d) (by omega) hlaw hT (W := cntB (inSc L) (2 ^ lN0 L) - 1) (by omega) (by omega) (cntB (inSc L) (2 ^ lN0 L) - 1) [] 0 0 _ (vR b) (vI (lS L : Nat)) vU (Nat.add_zero _) (Nat.zero_le _) S3 (VP.st z) (Nat.le_refl _) (Nat.zero_le _)
    rw [scA_0] at r
    have run : clR PG0 MX (d + 1) 109 [vR 90, vR b, vI law, vI T, vR 43] σ = rsP PG0 MX d 109 68 [vR 90, vR b, vI law, vI T, vR 43, vI (lS L : Nat), vI ((cntB (inSc L) (2 ^ lN0 L) - 1 : Nat) : Int), vI ((0 : Nat) : Int), vI (2 * ((0 : Nat) : Int) - (([] : List Nat).length : Nat)), vU] [] (up (up (up σ2 91 (lS L : Nat) 1) 92 0 0) 93 0 0) := by
      rw [ce_109, sg_109_0]
      (try simp (disch := omega) only [m5, e0, wr_id2])
      repeat (first | ((with_reducible refine step_t ?_ ?_); with_reducible exact True.intro) | ((with_reducible refine step_t ?_ ?_); omega) | ((with_reducible refine step_f ?_ ?_); omega))
      refine step_c (e49) ?_
      try dsimp only
      rw [wr_b2i]
      refine step_t (show b2i true ≠ 0 by decide) ?_
      repeat (first | ((with_reducible refine step_t ?_ ?_); with_reducible exact True.intro) | ((with_reducible refine step_t ?_ ?_); omega) | ((with_reducible refine step_f ?_ ?_); omega))
      refine step_c (k1) ?_
      try dsimp only
      repeat (first | ((with_reducible refine step_t ?_ ?_); with_reducible exact True.intro) | ((with_reducible refine step_t ?_ ?_); omega) | ((with_reducible refine step_f ?_ ?_); omega))
      refine step_c (k2) ?_
      try dsimp only
      (try simp (disch := omega) only [a22, a32, up_n1, wr_id2])
      repeat (first | ((with_reducible refine step_t ?_ ?_); with_reducible exact True.intro) | ((with_reducible refine step_t ?_ ?_); omega) | ((with_reducible refine step_f ?_ ?_); omega))
      rw [sg_109_47]
      (try simp (disch := omega) only [a42, up_n1, wr_id2])
      repeat (first | ((with_reducible refine step_t ?_ ?_); with_reducible exact True.intro) | ((with_reducible refine step_t ?_ ?_); omega) | ((with_reducible refine step_f ?_ ?_); omega))
      refine step_c (e48) ?_
      try dsimp only
      rw [show ((cntB (inSc L) (2 ^ lN0 L) - 1 : Nat) : Int) = (cntB (inSc L) (2 ^ lN0 L) : Nat) - 1 by omega]
      rfl
    rw [run]
    generalize sch (frF L law) (enF L law) (lN0 L) T (cntB (inSc L) (2 ^ lN0 L) - 1) [] 0 = R at *
    rcases r with ⟨r1, σ', r2, r3⟩ | ⟨r1, σ', r2, r3⟩ | ⟨r1, -, -, r4⟩
    · rw [if_pos r1]
      exact ⟨σ', r2, r3.fs, Or.inr ⟨_, rfl, r3, rfl, rfl, rfl, rfl⟩⟩
    · rw [if_neg (by omega), if_neg (by omega)]
      exact ⟨σ', r2, r3, Or.inl ⟨rfl, by decide, by decide⟩⟩
    · rw [if_neg (by omega), if_pos r1]
      rcases r4 with ⟨-, σ', r5, r6⟩ | ⟨l0, x, σ', r5, -⟩
      · exact ⟨σ', r5, r6, Or.inl ⟨rfl, by decide, by decide⟩⟩
      · have := congrArg List.length r5
        rw [len_a] at this
        cases this
theorem c108 (S : AS) {s law T : Int} (hs : i32 s) (hlw : i32 law) (hTT : i32 T) : cOp 108 [vI s, vI law, vI T] S (aA S s (fndQ law T)) := by
  intro d σ h hy ht hc
  obtain ⟨d, rfl⟩ := ob1 (show 1 ≤ d by omega)
  have y1 := hy.1
  have a1 := y32_m1 hy
  have a5 := y32_5 hy
  have b84 := y84_m1 hy
  have e41 := s41 (d := d) (by omega) hy hc hs
  have a43 := y32_1 hy
  obtain ⟨v1, v2, v3, -⟩ := yb_43 hy
  unfold aA
  cases e : gl S s with
  | none =>
    rw [lbA_n e] at e41
    refine ⟨σ, ?_, FC.rf hy, hc⟩
    rw [ce_108, sg_108_0]
    repeat (first | ((with_reducible refine step_t ?_ ?_); with_reducible exact True.intro) | ((with_reducible refine step_t ?_ ?_); omega) | ((with_reducible refine step_f ?_ ?_); omega))
    refine step_c (e41) ?_
    try dsimp only
    repeat (first | ((with_reducible refine step_t ?_ ?_); with_reducible exact True.intro) | ((with_reducible refine step_t ?_ ?_); omega) | ((with_reducible refine step_f ?_ ?_); omega))
    rfl
  | some L =>
    rw [lbA_s e] at e41
    obtain ⟨g1, g2, g3, g4, g5⟩ := hc.got e
    have hw := g4.1
    obtain ⟨⟨m1, m2, m3, m4, m5, m6, m7, m8, m9⟩, f3, f4, f5, f6, fs, fw⟩ := id g3
    have hl := wf_len hw
    have h9 := hw.1
    have hsh := shN_le L
    dsimp only
    have a6 := y32_6 hy
    have b90 := y90_m1 hy
    unfold fndQ
    obtain ⟨l1, l2⟩ := hlw
    obtain ⟨t1, t2⟩ := hTT
    by_cases z : (0 ≤ law ∧ law ≤ 3) ∧ 1 ≤ T ∧ T ≤ 50000
    · rw [if_pos z]
      obtain ⟨σ1, k1, k2, k3⟩ := s109 (d := d) (by omega) hy g3 hw (by omega) z.1 (T := T.toNat) (by omega)
      rw [show ((T.toNat : Nat) : Int) = T by omega] at k1
      have hy1 := k2.2
      have y11 := hy1.1
      have a11 := y32_m1 hy1
      generalize fndL L law T.toNat = q at *
      rcases k3 with ⟨k4, k5, k6⟩ | ⟨M, k4, k5, k6, k7, k8, k9⟩
      · rw [k4]
        refine ⟨σ1, ?_, k2.fc, k2.cr hc⟩
        rw [ce_108, sg_108_0]
        repeat (first | ((with_reducible refine step_t ?_ ?_); with_reducible exact True.intro) | ((with_reducible refine step_t ?_ ?_); omega) | ((with_reducible refine step_f ?_ ?_); omega))
        refine step_c (e41) ?_
        try dsimp only
        (try simp (disch := omega) only [a6, a43, wr_id2])
        repeat (first | ((with_reducible refine step_t ?_ ?_); with_reducible exact True.intro) | ((with_reducible refine step_t ?_ ?_); omega) | ((with_reducible refine step_f ?_ ?_); omega))
        refine step_c (k1) ?_
        try dsimp only
        (try simp (disch := omega) only [wr_id2])
        repeat (first | ((with_reducible refine step_t ?_ ?_); with_reducible exact True.intro) | ((with_reducible refine step_t ?_ ?_); omega) | ((with_reducible refine step_f ?_ ?_); omega))
        rfl
      · rw [k4]
        have hl2 := wf_len k5.wf
        obtain ⟨σ2, j1, j2, j3, -⟩ := dw_set (d := d) (by omega) hc k5 g1 g2 (by rw [k7]; exact g4.2.1) (by rw [k8, k9]; exact g4.2.2.1) (by rw [k9, k7]; exact g4.2.2.2)
        refine ⟨σ2, ?_, j2, j3⟩
        rw [ce_108, sg_108_0]
        repeat (first | ((with_reducible refine step_t ?_ ?_); with_reducible exact True.intro) | ((with_reducible refine step_t ?_ ?_); omega) | ((with_reducible refine step_f ?_ ?_); omega))
        refine step_c (e41) ?_
        try dsimp only
        (try simp (disch := omega) only [a6, a43, wr_id2])
        repeat (first | ((with_reducible refine step_t ?_ ?_); with_reducible exact True.intro) | ((with_reducible refine step_t ?_ ?_); omega) | ((with_reducible refine step_f ?_ ?_); omega))
        refine step_c (k1) ?_
        try dsimp only
        rw [k6]
        (try simp (disch := omega) only [wr_id2])
        repeat (first | ((with_reducible refine step_t ?_ ?_); with_reducible exact True.intro) | ((with_reducible refine step_t ?_ ?_); omega) | ((with_reducible refine step_f ?_ ?_); omega))
        refine step_c (j1) ?_
        try dsimp only
    · rw [if_neg z]
      refine ⟨σ, ?_, FC.rf hy, hc⟩
      rw [ce_108, sg_108_0]
      repeat (first | ((with_reducible refine step_t ?_ ?_); with_reducible exact True.intro) | ((with_reducible refine step_t ?_ ?_); omega) | ((with_reducible refine step_f ?_ ?_); omega))
      refine step_c (e41) ?_
      try dsimp only
      (try simp (disch := omega) only [wr_id2])
      by_cases z1 : law < 0
      · repeat (first | ((with_reducible refine step_t ?_ ?_); with_reducible exact True.intro) | ((with_reducible refine step_t ?_ ?_); omega) | ((with_reducible refine step_f ?_ ?_); omega))
        rfl
      · by_cases z2 : 3 < law
        · repeat (first | ((with_reducible refine step_t ?_ ?_); with_reducible exact True.intro) | ((with_reducible refine step_t ?_ ?_); omega) | ((with_reducible refine step_f ?_ ?_); omega))
          rfl
        · by_cases z3 : T < 1
          · repeat (first | ((with_reducible refine step_t ?_ ?_); with_reducible exact True.intro) | ((with_reducible refine step_t ?_ ?_); omega) | ((with_reducible refine step_f ?_ ?_); omega))
            rfl
          · repeat (first | ((with_reducible refine step_t ?_ ?_); with_reducible exact True.intro) | ((with_reducible refine step_t ?_ ?_); omega) | ((with_reducible refine step_f ?_ ?_); omega))
            rfl
