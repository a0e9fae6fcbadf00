/-! TRACKS: the class's search -/
def frT (L : LB) (g p : Nat) (l : List Nat) (k : Nat) : Bool := if l.length + 1 = p then decide (wd (pth L l) l.length ^^^ 2 ^ k = g) else !brT L l (wd (pth L l) l.length ^^^ 2 ^ k)
def FC10 (d : Nat) (σ0 : HP) (L : LB) (g p T : Nat) (l : List Nat) (t : Nat) (X : Option (Int × HP)) (R : SQ) : Prop :=
  (R.1 = 1 ∧ ∃ σ', X = some ((p : Int), σ') ∧ DW σ0 σ' (pth L R.2.1) ∧ R.2.1.length = p) ∨ (R.1 = -3 ∧ ∃ σ', X = some (-3, σ') ∧ FS σ0 σ') ∨ (R.1 = 0 ∧ t ≤ R.2.2 ∧ R.2.2 ≤ T ∧ ((l = [] ∧ ∃ σ', X = some (-1, σ') ∧ FS σ0 σ') ∨ ∃ l0 x σ', l = l0 ++ [x] ∧ X = rsP PG0 MX d 137 80 [vR 90, vU, vI p, vU, vI T, vR 43, vU, vI g, vI (R.2.2 : Nat), vI (2 * ((R.2.2 : Nat) : Int) - (l0.length : Nat)), vU, vU] [] σ' ∧ SR σ0 σ' (pth L l0) (brT L l0) (x + 1)))
theorem s137z {d : Nat} (h : 20 ≤ d) {σ0 σ : HP} {L : LB} {g p T : Nat} (hT : T ≤ 50000) {l : List Nat} {k t : Nat} (hS : SR σ0 σ (pth L l) (brT L l) k) (hV : VT L l) (ht : l.length ≤ t) (ht2 : t ≤ T) (u1 u3 u6 u11 : MV) (z : Int) : FC10 d σ0 L g p T l t (rsP PG0 MX d 137 127 [vR 90, u1, vI p, u3, vI T, vR 43, u6, vI g, vI t, vI (2 * (t : Int) - (l.length : Nat)), vI z, u11] [vI (-1)] σ) (0, [], t) := by
  have hD := hS.1
  have hw := hD.wf
  have hb := hD.bl
  have hl : l.length ≤ 256 := wf_len hw
  have hN : lN0 L ≤ 8 := hw.1
  have hp8 : 2 ^ lN0 L ≤ 256 := pow8 hw.1
  obtain ⟨⟨m1, m2, m3, m4, m5, m6, m7, m8, m9⟩, f3, f4, f5, f6, fs, fw⟩ := id hb
  have g6 : σ 43 6 = (l.length : Nat) := f6
  have g3 : σ 43 3 = (lN0 L : Nat) := f3
  clear f6 f3
  have hy := hD.fs.2
  have y1 := hy.1
  have a1 := y90_m1 hy
  refine Or.inr (Or.inr ⟨rfl, Nat.le_refl _, ht2, ?_⟩)
  rcases List.eq_nil_or_concat l with z | ⟨l0, x, z⟩
  · subst z
    have f6 : σ 43 6 = 0 := g6
    refine Or.inl ⟨rfl, σ, ?_, hD.fs⟩
    rw [sg_137_127]
    refine step_f (fun q => q rfl) ?_
    (try simp (disch := omega) only [f6, wr_id2])
    repeat (first | ((with_reducible refine step_t ?_ ?_); with_reducible exact True.intro) | ((with_reducible refine step_t ?_ ?_); omega) | ((with_reducible refine step_f ?_ ?_); omega))
    rfl
  · rw [List.concat_eq_append] at z
    subst z
    rw [len_a] at g6 hl ht ⊢
    have hx : x < lN0 L := hw.2.2.2.2.2 x (List.mem_append_right _ (List.mem_singleton.mpr rfl))
    have hw0 : wf0 (pth L l0) := ⟨hw.1, hw.2.1, hw.2.2.1, hw.2.2.2.1, by show l0.length ≤ 256; omega, fun b hb => hw.2.2.2.2.2 b (List.mem_append_left _ hb)⟩
    have e112 : clR PG0 MX d 112 [vR 43] σ = some (((wd (pth L (l0 ++ [x])) (l0 ++ [x]).length : Nat) : Int), σ) := s112 (d := d) (by omega) hb hw
    have wl := wd_lt hw (l0 ++ [x]).length
    rw [len_a, wd_e] at e112 wl
    have wl : wd (pth L l0) l0.length ^^^ 2 ^ x < 2 ^ lN0 L := wl
    obtain ⟨σ1, j1, S1⟩ := s140 (d := d) (by omega) hS (w := wd (pth L l0) l0.length ^^^ 2 ^ x) (b := false) (br' := brT L l0) wl (fun u => brT_b hw0 hx hV.last u) (v := 0) rfl
    have j1 : clR PG0 MX d 140 [vR 90, vI ((wd (pth L l0) l0.length ^^^ 2 ^ x : Nat) : Int), vI (lN0 L : Nat), vI 0] σ = some (0, σ1) := j1
    have hb1 := S1.1.bl
    obtain ⟨⟨n1, n2, n3, -⟩, -⟩ := id hb1
    obtain ⟨σ2, k1, S2⟩ := s113r (d := d) (by omega) (P := pth L l0) S1
    refine Or.inr ⟨l0, x, σ2, rfl, ?_, S2⟩
    rw [sg_137_127]
    refine step_f (fun q => q rfl) ?_
    (try simp (disch := omega) only [g6, wr_id2])
    repeat (first | ((with_reducible refine step_t ?_ ?_); with_reducible exact True.intro) | ((with_reducible refine step_t ?_ ?_); omega) | ((with_reducible refine step_f ?_ ?_); omega))
    refine step_c (e112) ?_
    try dsimp only
    (try simp (disch := omega) only [g3, wr_id2])
    repeat (first | ((with_reducible refine step_t ?_ ?_); with_reducible exact True.intro) | ((with_reducible refine step_t ?_ ?_); omega) | ((with_reducible refine step_f ?_ ?_); omega))
    refine step_c (j1) ?_
    try dsimp only
    repeat (first | ((with_reducible refine step_t ?_ ?_); with_reducible exact True.intro) | ((with_reducible refine step_t ?_ ?_); omega) | ((with_reducible refine step_f ?_ ?_); omega))
    refine step_c (k1) ?_
    try dsimp only
    rw [show 2 * (t : Int) - ((l0.length + 1 : Nat) : Int) + 1 = 2 * (t : Int) - (l0.length : Nat) by omega]
theorem frT_n {L : LB} {g p : Nat} {l : List Nat} {k : Nat} (h : l.length + 1 ≠ p) : frT L g p l k = frS (pth L l) (brT L l) 0 k := by
  unfold frT frS
  rw [if_neg h, decide_eq_true (show (0 : Int) ≠ 2 by decide), Bool.true_or, Bool.and_true]
theorem frT_l {L : LB} {g p : Nat} {l : List Nat} {k : Nat} (h : l.length + 1 = p) : frT L g p l k = decide (wd (pth L l) l.length ^^^ 2 ^ k = g) := by
  unfold frT
  rw [if_pos h]
theorem s137c {d : Nat} (h : 20 ≤ d) {σ0 : HP} {L : LB} {g p T : Nat} (hg : g < 2 ^ lN0 L) (hT : T ≤ 50000) (hp : p ≤ 256) : ∀ (m : Nat) (l : List Nat) (k t : Nat) (σ : HP) (u1 u3 u6 u10 u11 : MV), m + 1 + l.length = p → (m = 0 → k = 0) → k ≤ lN0 L → SR σ0 σ (pth L l) (brT L l) k → VT L l → l.length ≤ t → t ≤ T → FC10 d σ0 L g p T l t (rsP PG0 MX d 137 80 [vR 90, u1, vI p, u3, vI T, vR 43, u6, vI g, vI t, vI (2 * (t : Int) - (l.length : Nat)), u10, u11] [] σ) (scB (frT L g p) (sch (frT L g p) some (lN0 L) T m) T l (lN0 L - k) k t) := by
  intro m
  induction m with
  | zero =>
    intro l k t σ u1 u3 u6 u10 u11 hm hk0 hk hS hV ht ht2
    have hk0 := hk0 rfl
    subst hk0
    have hD := hS.1
    have hw := hD.wf
    have hb := hD.bl
    have hN : lN0 L ≤ 8 := hw.1
    obtain ⟨⟨m1, m2, m3, m4, m5, m6, m7, m8, m9⟩, f3, f4, f5, f6, fs, fw⟩ := id hb
    have g6 : σ 43 6 = (l.length : Nat) := f6
    clear f6
    have hy := hD.fs.2
    have y1 := hy.1
    have a1 := y90_m1 hy
    have e141 : clR PG0 MX d 141 [vR 43, vI g] σ = some (nxI (fun k => decide (wd (pth L l) l.length ^^^ 2 ^ k = g)) (lN0 L) 0, σ) := s141 (d := d) (by omega) hb hw hg
    rw [show nxI (fun k => decide (wd (pth L l) l.length ^^^ 2 ^ k = g)) (lN0 L) 0 = nxI (frT L g p l) (lN0 L) 0 from nxI_co _ _ (fun j _ _ => (frT_l (by omega)).symm)] at e141
    have e : rsP PG0 MX d 137 80 [vR 90, u1, vI p, u3, vI T, vR 43, u6, vI g, vI t, vI (2 * (t : Int) - (l.length : Nat)), u10, u11] [] σ = rsP PG0 MX d 137 127 [vR 90, vU, vI p, vU, vI T, vR 43, vU, vI g, vI t, vI (2 * (t : Int) - (l.length : Nat)), vI 1, vU] [vI (nxI (frT L g p l) (lN0 L) 0)] σ := by
      rw [sg_137_80]
      (try simp (disch := omega) only [g6, wr_id2])
      repeat (first | ((with_reducible refine step_t ?_ ?_); with_reducible exact True.intro) | ((with_reducible refine step_t ?_ ?_); omega) | ((with_reducible refine step_f ?_ ?_); omega))
      rw [sg_137_103]
      (try simp (disch := omega) only [wr_id2])
      repeat (first | ((with_reducible refine step_t ?_ ?_); with_reducible exact True.intro) | ((with_reducible refine step_t ?_ ?_); omega) | ((with_reducible refine step_f ?_ ?_); omega))
      refine step_c (e141) ?_
      try dsimp only
    rw [e, Nat.sub_zero]
    rcases nxI_c (f := frT L g p l) (lN0 L) 0 with hn | ⟨j, j1, j2, j3, j4⟩
    · rw [scB_n _ _ hn, hn]
      exact s137z (d := d) h hT hS hV ht ht2 vU vU vU vU 1
    · rw [scB_s _ _ _ j1, j1]
      by_cases zT : t = T
      · rw [if_pos zT]
        refine Or.inr (Or.inl ⟨rfl, σ, ?_, hD.fs⟩)
        rw [sg_137_127]
        (try simp (disch := omega) only [wr_id2])
        repeat (first | ((with_reducible refine step_t ?_ ?_); with_reducible exact True.intro) | ((with_reducible refine step_t ?_ ?_); omega) | ((with_reducible refine step_f ?_ ?_); omega))
        rfl
      · rw [if_neg zT]
        obtain ⟨σ1, k1, S1⟩ := s116 (d := d) (by omega) hS (show j < lN0 L by omega) (show l.length < 256 by omega)
        have S1 : SR σ0 σ1 (pth L (l ++ [j])) (brT L l) 0 := S1
        have hb1 := S1.1.bl
        obtain ⟨⟨n1, n2, n3, -⟩, -, -, -, n6, -⟩ := id hb1
        have n6 : σ1 43 6 = ((l ++ [j]).length : Nat) := n6
        rw [len_a, show l.length + 1 = p by omega] at n6
        show FC10 d σ0 L g p T l t _ (if (1 : Int) = 0 then _ else (1, l ++ [j], t + 1))
        rw [if_neg (by decide)]
        refine Or.inl ⟨rfl, σ1, ?_, S1.1, by show (l ++ [j]).length = p; rw [len_a]; omega⟩
        rw [sg_137_127]
        (try simp (disch := omega) only [wr_id2])
        repeat (first | ((with_reducible refine step_t ?_ ?_); with_reducible exact True.intro) | ((with_reducible refine step_t ?_ ?_); omega) | ((with_reducible refine step_f ?_ ?_); omega))
        refine step_c (k1) ?_
        try dsimp only
        (try simp (disch := omega) only [n6, wr_id2])
        repeat (first | ((with_reducible refine step_t ?_ ?_); with_reducible exact True.intro) | ((with_reducible refine step_t ?_ ?_); omega) | ((with_reducible refine step_f ?_ ?_); omega))
        rfl
  | succ m ih =>
    have inner : ∀ (q : Nat) (l : List Nat) (k t : Nat) (σ : HP) (u1 u3 u6 u10 u11 : MV), lN0 L - k ≤ q → m + 1 + 1 + l.length = p → k ≤ lN0 L → SR σ0 σ (pth L l) (brT L l) k → VT L l → l.length ≤ t → t ≤ T → FC10 d σ0 L g p T l t (rsP PG0 MX d 137 80 [vR 90, u1, vI p, u3, vI T, vR 43, u6, vI g, vI t, vI (2 * (t : Int) - (l.length : Nat)), u10, u11] [] σ) (scB (frT L g p) (sch (frT L g p) some (lN0 L) T (m + 1)) T l (lN0 L - k) k t) := by
      intro q
      induction q with
      | zero =>
        intro l k t σ u1 u3 u6 u10 u11 hq hm hk hS hV ht ht2
        have hb := hS.1.bl
        obtain ⟨⟨m1, m2, m3, m4, m5, m6, m7, m8, m9⟩, f3, f4, f5, f6, fs, fw⟩ := id hb
        have g6 : σ 43 6 = (l.length : Nat) := f6
        clear f6
        have hy := hS.1.fs.2
        have y1 := hy.1
        have a1 := y90_m1 hy
        have e0 : lN0 L - k = 0 := by omega
        have e114 : clR PG0 MX d 114 [vR 90, vR 43, vI 0] σ = some (nxI (frS (pth L l) (brT L l) 0) (lN0 L - k) k, σ) := s114 (d := d) (by omega) hS hk ⟨by decide, by decide⟩
        rw [e0] at e114
        rw [e0]
        have q := s137z (d := d) h (g := g) (p := p) hT hS hV ht ht2 vU vU vU vU 0
        have e : rsP PG0 MX d 137 80 [vR 90, u1, vI p, u3, vI T, vR 43, u6, vI g, vI t, vI (2 * (t : Int) - (l.length : Nat)), u10, u11] [] σ = rsP PG0 MX d 137 127 [vR 90, vU, vI p, vU, vI T, vR 43, vU, vI g, vI t, vI (2 * (t : Int) - (l.length : Nat)), vI 0, vU] [vI (-1)] σ := by
          rw [sg_137_80]
          (try simp (disch := omega) only [g6, wr_id2])
          repeat (first | ((with_reducible refine step_t ?_ ?_); with_reducible exact True.intro) | ((with_reducible refine step_t ?_ ?_); omega) | ((with_reducible refine step_f ?_ ?_); omega))
          rw [sg_137_103]
          (try simp (disch := omega) only [wr_id2])
          repeat (first | ((with_reducible refine step_t ?_ ?_); with_reducible exact True.intro) | ((with_reducible refine step_t ?_ ?_); omega) | ((with_reducible refine step_f ?_ ?_); omega))
          refine step_c (e114) ?_
          try dsimp only
          rfl
        rw [e]
        exact q
      | succ q ihq =>
        intro l k t σ u1 u3 u6 u10 u11 hq hm hk hS hV ht ht2
        have hw := hS.1.wf
        have hb := hS.1.bl
        have hN : lN0 L ≤ 8 := hw.1
        have hp8 : 2 ^ lN0 L ≤ 256 := pow8 hw.1
        obtain ⟨⟨m1, m2, m3, m4, m5, m6, m7, m8, m9⟩, f3, f4, f5, f6, fs, fw⟩ := id hb
        have g6 : σ 43 6 = (l.length : Nat) := f6
        clear f6
        have hy := hS.1.fs.2
        have y1 := hy.1
        have a1 := y90_m1 hy
        have e114 : clR PG0 MX d 114 [vR 90, vR 43, vI 0] σ = some (nxI (frS (pth L l) (brT L l) 0) (lN0 L - k) k, σ) := s114 (d := d) (by omega) hS hk ⟨by decide, by decide⟩
        rw [show nxI (frS (pth L l) (brT L l) 0) (lN0 L - k) k = nxI (frT L g p l) (lN0 L - k) k from nxI_co _ _ (fun j _ _ => (frT_n (by omega)).symm)] at e114
        have e : rsP PG0 MX d 137 80 [vR 90, u1, vI p, u3, vI T, vR 43, u6, vI g, vI t, vI (2 * (t : Int) - (l.length : Nat)), u10, u11] [] σ = rsP PG0 MX d 137 127 [vR 90, vU, vI p, vU, vI T, vR 43, vU, vI g, vI t, vI (2 * (t : Int) - (l.length : Nat)), vI 0, vU] [vI (nxI (frT L g p l) (lN0 L - k) k)] σ := by
          rw [sg_137_80]
          (try simp (disch := omega) only [g6, wr_id2])
          repeat (first | ((with_reducible refine step_t ?_ ?_); with_reducible exact True.intro) | ((with_reducible refine step_t ?_ ?_); omega) | ((with_reducible refine step_f ?_ ?_); omega))
          rw [sg_137_103]
          (try simp (disch := omega) only [wr_id2])
          repeat (first | ((with_reducible refine step_t ?_ ?_); with_reducible exact True.intro) | ((with_reducible refine step_t ?_ ?_); omega) | ((with_reducible refine step_f ?_ ?_); omega))
          refine step_c (e114) ?_
          try dsimp only
        rw [e]
        rcases nxI_c (f := frT L g p l) (lN0 L - k) k with hn | ⟨j, j1, j2, j3, j4⟩
        · rw [scB_n _ _ hn, hn]
          exact s137z (d := d) h hT hS hV ht ht2 vU vU vU vU 0
        · rw [scB_s _ _ _ j1, j1]
          have hjN : j < lN0 L := by omega
          by_cases zT : t = T
          · rw [if_pos zT]
            refine Or.inr (Or.inl ⟨rfl, σ, ?_, hS.1.fs⟩)
            rw [sg_137_127]
            (try simp (disch := omega) only [wr_id2])
            repeat (first | ((with_reducible refine step_t ?_ ?_); with_reducible exact True.intro) | ((with_reducible refine step_t ?_ ?_); omega) | ((with_reducible refine step_f ?_ ?_); omega))
            rfl
          · rw [if_neg zT]
            have jf : brT L l (wd (pth L l) l.length ^^^ 2 ^ j) = false := by
              unfold frT at j4
              rw [if_neg (by omega)] at j4
              cases qq : brT L l (wd (pth L l) l.length ^^^ 2 ^ j) with
              | false => rfl
              | true => rw [qq] at j4; cases j4
            obtain ⟨σ1, k1, S1⟩ := s116 (d := d) (by omega) hS hjN (show l.length < 256 by omega)
            have S1 : SR σ0 σ1 (pth L (l ++ [j])) (brT L l) 0 := S1
            have hw1 := S1.1.wf
            have hb1 := S1.1.bl
            obtain ⟨⟨n1, n2, n3, -⟩, n5, -⟩ := id hb1
            have n5 : σ1 43 3 = (lN0 L : Nat) := n5
            have e112 : clR PG0 MX d 112 [vR 43] σ1 = some (((wd (pth L (l ++ [j])) (l ++ [j]).length : Nat) : Int), σ1) := s112 (d := d) (by omega) hb1 hw1
            have wl := wd_lt hw1 (l ++ [j]).length
            rw [len_a, wd_e] at e112 wl
            have wl : wd (pth L l) l.length ^^^ 2 ^ j < 2 ^ lN0 L := wl
            obtain ⟨σ2, k2, S2⟩ := s140 (d := d) (by omega) S1 (w := wd (pth L l) l.length ^^^ 2 ^ j) (b := true) (br' := brT L (l ++ [j])) wl (fun u => brT_a u) (v := 1) rfl
            have k2 : clR PG0 MX d 140 [vR 90, vI ((wd (pth L l) l.length ^^^ 2 ^ j : Nat) : Int), vI (lN0 L : Nat), vI 1] σ1 = some (0, σ2) := k2
            have r := ih (l ++ [j]) 0 (t + 1) σ2 vU vU vU vU vU (by rw [len_a]; omega) (fun _ => rfl) (Nat.zero_le _) S2 (hV.push jf) (by rw [len_a]; omega) (by omega)
            have hy1 := S1.1.fs.2
            have y11 := hy1.1
            have a11 := y90_m1 hy1
            have e2 : rsP PG0 MX d 137 127 [vR 90, vU, vI p, vU, vI T, vR 43, vU, vI g, vI t, vI (2 * (t : Int) - (l.length : Nat)), vI 0, vU] [vI (j : Int)] σ = rsP PG0 MX d 137 80 [vR 90, vU, vI p, vU, vI T, vR 43, vU, vI g, vI ((t + 1 : Nat) : Int), vI (2 * ((t + 1 : Nat) : Int) - ((l ++ [j]).length : Nat)), vU, vU] [] σ2 := by
              rw [sg_137_127]
              (try simp (disch := omega) only [wr_id2])
              repeat (first | ((with_reducible refine step_t ?_ ?_); with_reducible exact True.intro) | ((with_reducible refine step_t ?_ ?_); omega) | ((with_reducible refine step_f ?_ ?_); omega))
              refine step_c (k1) ?_
              try dsimp only
              (try simp (disch := omega) only [wr_id2])
              repeat (first | ((with_reducible refine step_t ?_ ?_); with_reducible exact True.intro) | ((with_reducible refine step_t ?_ ?_); omega) | ((with_reducible refine step_f ?_ ?_); omega))
              refine step_c (e112) ?_
              try dsimp only
              (try simp (disch := omega) only [n5, wr_id2])
              repeat (first | ((with_reducible refine step_t ?_ ?_); with_reducible exact True.intro) | ((with_reducible refine step_t ?_ ?_); omega) | ((with_reducible refine step_f ?_ ?_); omega))
              refine step_c (k2) ?_
              try dsimp only
              rw [len_a, show 2 * ((t + 1 : Nat) : Int) - ((l.length + 1 : Nat) : Int) = 2 * (t : Int) - (l.length : Nat) + 1 by omega]
              rfl
            rw [e2]
            have r : FC10 d σ0 L g p T (l ++ [j]) (t + 1) _ (sch (frT L g p) some (lN0 L) T (m + 1) (l ++ [j]) (t + 1)) := r
            generalize sch (frT L g p) some (lN0 L) T (m + 1) (l ++ [j]) (t + 1) = R at *
            rcases r with ⟨r1, r2⟩ | ⟨r1, r2⟩ | ⟨r1, r2, r3, r4⟩
            · rw [if_neg (by omega)]
              exact Or.inl ⟨r1, r2⟩
            · rw [if_neg (by omega)]
              exact Or.inr (Or.inl ⟨r1, r2⟩)
            · rw [if_pos r1]
              rcases r4 with ⟨r5, -⟩ | ⟨l0, x, σ', r5, r6, r7⟩
              · have := congrArg List.length r5
                rw [len_a] at this
                cases this
              · obtain ⟨rfl, rfl⟩ := app_inj r5
                have fin := ihq l (j + 1) R.2.2 σ' vU vU vU vU vU (by omega) hm (by omega) r7 hV (by omega) r3
                rw [← r6, show lN0 L - (j + 1) = k + (lN0 L - k) - (j + 1) by omega] at fin
                rcases fin with q1 | q1 | ⟨q1, q2, q3⟩
                · exact Or.inl q1
                · exact Or.inr (Or.inl q1)
                · exact Or.inr (Or.inr ⟨q1, by omega, q3⟩)
    intro l k t σ u1 u3 u6 u10 u11 hm _ hk hS hV ht ht2
    exact inner (lN0 L - k) l k t σ u1 u3 u6 u10 u11 (Nat.le_refl _) hm hk hS hV ht ht2
