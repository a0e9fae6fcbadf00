/-- swaps -/
def swpS (L : LB) (a b : Nat) : Nat := if btN (lS L) a = btN (lS L) b then lS L else lS L ^^^ 2 ^ a ^^^ 2 ^ b
def swpT (a b x : Nat) : Nat := if x = a then b else if x = b then a else x
theorem swpT_lt {a b x N : Nat} (ha : a < N) (hb : b < N) (hx : x < N) : swpT a b x < N := by
  unfold swpT
  by_cases z : x = a
  · rw [if_pos z]; exact hb
  · rw [if_neg z]
    by_cases z2 : x = b
    · rw [if_pos z2]; exact ha
    · rw [if_neg z2]; exact hx
theorem swpS_lt {L : LB} (hw : wf0 L) {a b : Nat} (ha : a < lN0 L) (hb : b < lN0 L) : swpS L a b < 2 ^ lN0 L := by
  unfold swpS
  by_cases z : btN (lS L) a = btN (lS L) b
  · rw [if_pos z]; exact hw.2.2.2.1
  · rw [if_neg z]
    exact Nat.xor_lt_two_pow (Nat.xor_lt_two_pow hw.2.2.2.1 (Nat.pow_lt_pow_right (by omega) ha)) (Nat.pow_lt_pow_right (by omega) hb)
def swpF (a b : Int) (L : LB) : Int × Option LB := if (0 ≤ a ∧ a < lN0 L) ∧ (0 ≤ b ∧ b < lN0 L) then ((if a = b then 0 else ((tuN L a.toNat : Nat) : Int) + (tuN L b.toNat : Nat)), some (dlL L (swpS L a.toNat b.toNat) ((lT L).map (swpT a.toNat b.toNat)))) else (-2, none)
theorem s156b {d : Nat} (h : 2 ≤ d) {σ0 : HP} {b : Int} {L : LB} (hb0 : blr σ0 b L) (hb43 : b + 2 < 43) (hw : wfL L) {s p q : Nat} (hp : p < lN0 L) (hq : q < lN0 L) : ∀ (m i : Nat) (σ : HP) (l : List Nat) (u4 u6 : MV), i + m = (lT L).length → DW σ0 σ (dlL L s l) → l.length + m ≤ 256 → ∃ σ', rsP PG0 MX d 156 45 [vR b, vI p, vI q, vR 43, u4, vI i, u6] [] σ = some (0, σ') ∧ DW σ0 σ' (dlL L s (l ++ ((lT L).drop i).map (swpT p q))) := by
  have hl := wf_len hw.1
  have h9 := hw.1.1
  intro m
  induction m with
  | zero =>
    intro i σ l u4 u6 hi hD hlen
    have hb := hD.blr hb0 hb43
    obtain ⟨⟨m1, m2, m3, m4, m5, m6, m7, m8, m9⟩, f3, f4, f5, f6, fs, fw⟩ := id hb
    refine ⟨σ, ?_, by rw [List.drop_eq_nil_of_le (by omega), List.map_nil, List.append_nil]; exact hD⟩
    rw [sg_156_45]
    (try simp (disch := omega) only [f6, wr_id2])
    repeat (first | ((with_reducible refine step_t ?_ ?_); with_reducible exact True.intro) | ((with_reducible refine step_t ?_ ?_); omega) | ((with_reducible refine step_f ?_ ?_); omega))
    rfl
  | succ m ih =>
    intro i σ l u4 u6 hi hD hlen
    have hb := hD.blr hb0 hb43
    obtain ⟨⟨m1, m2, m3, m4, m5, m6, m7, m8, m9⟩, f3, f4, f5, f6, fs, fw⟩ := id hb
    obtain ⟨z5, z6, z7, -⟩ := yb_43 hD.fs.2
    obtain ⟨x, x1, x2⟩ := st_at hb (i := i) (by omega)
    have x3 := st_lt hw.1 x1
    obtain ⟨σ1, k1, D1⟩ := dw_push (d := d) (by omega) hD (x := swpT p q x) (swpT_lt hp hq x3) (by show l.length < 256; omega)
    obtain ⟨σ2, j1, D2⟩ := ih (i + 1) σ1 (l ++ [swpT p q x]) vU (vI x) (by omega) D1 (by rw [List.length_append]; show l.length + 1 + m ≤ 256; omega)
    have e2 : (lT L).drop i = x :: (lT L).drop (i + 1) := by
      rw [List.drop_eq_getElem_cons (by omega)]
      have := List.getElem?_eq_getElem (l := lT L) (i := i) (by omega)
      rw [x1] at this
      rw [Option.some.inj this]
    refine ⟨σ2, ?_, by rw [e2, List.map_cons, List.append_cons]; exact D2⟩
    rw [sg_156_45]
    (try simp (disch := omega) only [f6, m4, x2, wr_id2])
    repeat (first | ((with_reducible refine step_t ?_ ?_); with_reducible exact True.intro) | ((with_reducible refine step_t ?_ ?_); omega) | ((with_reducible refine step_f ?_ ?_); omega))
    unfold swpT at k1
    by_cases z : x = p
    · rw [if_pos z] at k1
      refine step_f (by omega) ?_
      repeat (first | ((with_reducible refine step_t ?_ ?_); with_reducible exact True.intro) | ((with_reducible refine step_t ?_ ?_); omega) | ((with_reducible refine step_f ?_ ?_); omega))
      refine step_c (k1) ?_
      try dsimp only
      exact j1
    · rw [if_neg z] at k1
      refine step_t (by omega) ?_
      repeat (first | ((with_reducible refine step_t ?_ ?_); with_reducible exact True.intro) | ((with_reducible refine step_t ?_ ?_); omega) | ((with_reducible refine step_f ?_ ?_); omega))
      by_cases z2 : x = q
      · rw [if_pos z2] at k1
        refine step_f (by omega) ?_
        repeat (first | ((with_reducible refine step_t ?_ ?_); with_reducible exact True.intro) | ((with_reducible refine step_t ?_ ?_); omega) | ((with_reducible refine step_f ?_ ?_); omega))
        refine step_c (k1) ?_
        try dsimp only
        exact j1
      · rw [if_neg z2] at k1
        refine step_t (by omega) ?_
        repeat (first | ((with_reducible refine step_t ?_ ?_); with_reducible exact True.intro) | ((with_reducible refine step_t ?_ ?_); omega) | ((with_reducible refine step_f ?_ ?_); omega))
        refine step_c (k1) ?_
        try dsimp only
        exact j1
theorem s156 {d : Nat} (h : 3 ≤ d) {σ : HP} {b : Int} {L : LB} (hy : Lay σ) (hb : blr σ b L) (hb43 : b + 2 < 43) (hw : wfL L) {p q : Nat} (hp : p < lN0 L) (hq : q < lN0 L) : ∃ σ', clR PG0 MX d 156 [vR b, vI p, vI q, vR 43] σ = some (0, σ') ∧ DW σ σ' (dlL L (swpS L p q) ((lT L).map (swpT p q))) := by
  obtain ⟨d, rfl⟩ := ob1 (show 1 ≤ d by omega)
  obtain ⟨⟨m1, m2, m3, m4, m5, m6, m7, m8, m9⟩, f3, f4, f5, f6, fs, fw⟩ := id hb
  obtain ⟨z5, z6, z7, -⟩ := yb_43 hy
  have h8 := pow8 hw.1.1
  have h9 := hw.1.1
  have hl := wf_len hw.1
  have hS := lS_256 hw.1
  have hw0 := fw 0 (Nat.zero_le _)
  rw [wd_0] at hw0
  have hw0 : σ (b + 2) 0 = (lS L : Nat) := hw0
  have q1 := s64 (d := d) (by omega) hb hw.1 (i := 0) (k := p) (Nat.zero_le _) (by omega)
  rw [wd_0] at q1
  have q1 : clR PG0 MX d 64 [vR b, vI 0, vI p] σ = some (((btN (lS L) p : Nat) : Int), σ) := q1
  have q2 := s64 (d := d) (by omega) hb hw.1 (i := 0) (k := q) (Nat.zero_le _) (by omega)
  rw [wd_0] at q2
  have q2 : clR PG0 MX d 64 [vR b, vI 0, vI q] σ = some (((btN (lS L) q : Nat) : Int), σ) := q2
  have b1 := btN_2 (lS L) p
  have b2 := btN_2 (lS L) q
  have pp := p256 (x := p) (by omega)
  have pq := p256 (x := q) (by omega)
  have x1 := xor_256 hS pp
  obtain ⟨σ1, k1, D1⟩ := dw_beg (d := d) (by omega) (FS.rf hy) hb hw.1 (x := swpS L p q) (swpS_lt hw.1 hp hq)
  obtain ⟨σ2, j1, D2⟩ := s156b (d := d) (by omega) hb hb43 hw hp hq (lT L).length 0 σ1 [] (vI (swpS L p q : Nat)) vU (by omega) D1 (by show 0 + _ ≤ _; omega)
  refine ⟨σ2, ?_, D2⟩
  have key : rsP PG0 MX d 156 35 [vR b, vI p, vI q, vR 43, vI (swpS L p q : Nat), vU, vU] [] σ = some (0, σ2) := by
    rw [sg_156_35]
    repeat (first | ((with_reducible refine step_t ?_ ?_); with_reducible exact True.intro) | ((with_reducible refine step_t ?_ ?_); omega) | ((with_reducible refine step_f ?_ ?_); omega))
    refine step_c (k1) ?_
    try dsimp only
    exact j1
  rw [ce_156, sg_156_0]
  (try simp (disch := omega) only [m5, hw0, wr_id2])
  repeat (first | ((with_reducible refine step_t ?_ ?_); with_reducible exact True.intro) | ((with_reducible refine step_t ?_ ?_); omega) | ((with_reducible refine step_f ?_ ?_); omega))
  refine step_c (q1) ?_
  try dsimp only
  repeat (first | ((with_reducible refine step_t ?_ ?_); with_reducible exact True.intro) | ((with_reducible refine step_t ?_ ?_); omega) | ((with_reducible refine step_f ?_ ?_); omega))
  refine step_c (q2) ?_
  try dsimp only
  (try simp (disch := omega) only [m5, hw0, wr_id2])
  repeat (first | ((with_reducible refine step_t ?_ ?_); with_reducible exact True.intro) | ((with_reducible refine step_t ?_ ?_); omega) | ((with_reducible refine step_f ?_ ?_); omega))
  unfold swpS at key
  by_cases z : btN (lS L) p = btN (lS L) q
  · rw [if_pos z] at key
    refine step_t (by omega) ?_
    exact key
  · rw [if_neg z] at key
    refine step_f (by omega) ?_
    (try simp (disch := omega) only [m5, hw0, shl1 (x := p) (by omega), shl1 (x := q) (by omega), i_xor_n (a := lS L) (b := 2 ^ p) (by omega) (by omega), i_xor_n (a := lS L ^^^ 2 ^ p) (b := 2 ^ q) (by omega) (by omega), wr_id2])
    repeat (first | ((with_reducible refine step_t ?_ ?_); with_reducible exact True.intro) | ((with_reducible refine step_t ?_ ?_); omega) | ((with_reducible refine step_f ?_ ?_); omega))
    exact key
theorem c155 (S : AS) {s a b : Int} (hs : i32 s) (hx : i32 a) (hv : i32 b) : cOp 155 [vI s, vI a, vI b] S (aA S s (swpF a b)) := by
  intro d σ h hy ht hc
  obtain ⟨d, rfl⟩ := ob1 (show 1 ≤ d by omega)
  have y1 := hy.1
  have a1 := y32_m1 hy
  have a5 := y32_5 hy
  have b84 := y84_m1 hy
  have e41 := s41 (d := d) (by omega) hy hc hs
  have a43 := y32_1 hy
  obtain ⟨v1, v2, v3, -⟩ := yb_43 hy
  unfold aA
  cases e : gl S s with
  | none =>
    rw [lbA_n e] at e41
    refine ⟨σ, ?_, FC.rf hy, hc⟩
    rw [ce_155, sg_155_0]
    repeat (first | ((with_reducible refine step_t ?_ ?_); with_reducible exact True.intro) | ((with_reducible refine step_t ?_ ?_); omega) | ((with_reducible refine step_f ?_ ?_); omega))
    refine step_c (e41) ?_
    try dsimp only
    repeat (first | ((with_reducible refine step_t ?_ ?_); with_reducible exact True.intro) | ((with_reducible refine step_t ?_ ?_); omega) | ((with_reducible refine step_f ?_ ?_); omega))
    rfl
  | some L =>
    rw [lbA_s e] at e41
    obtain ⟨g1, g2, g3, g4, g5⟩ := hc.got e
    have hw := g4.1
    obtain ⟨⟨m1, m2, m3, m4, m5, m6, m7, m8, m9⟩, f3, f4, f5, f6, fs, fw⟩ := id g3
    have hl := wf_len hw
    have h9 := hw.1
    have hsh := shN_le L
    dsimp only
    have x1 := hx.1
    have x2 := hx.2
    have v4 := hv.1
    have v5 := hv.2
    have e30 := s30' (d := d) (by omega) g3 hw hx
    have e31 := s30' (d := d) (by omega) g3 hw hv
    unfold swpF
    by_cases za : 0 ≤ a ∧ a < lN0 L
    · rw [decide_eq_true za] at e30
      by_cases zb : 0 ≤ b ∧ b < lN0 L
      · rw [decide_eq_true zb] at e31
        rw [if_pos ⟨za, zb⟩]
        dsimp only
        obtain ⟨σ1, k1, D1⟩ := s156 (d := d) (by omega) hy g3 (by omega) g4 (p := a.toNat) (q := b.toNat) (by omega) (by omega)
        obtain ⟨σ2, j1, F2, C2, B2, _⟩ := dw_set (d := d) (by omega) hc D1 g1 g2 g4.2.1 g4.2.2.1 g4.2.2.2
        have ea : ((a.toNat : Nat) : Int) = a := by omega
        have eb : ((b.toNat : Nat) : Int) = b := by omega
        rw [ea, eb] at k1
        have hy1 := D1.fs.2
        have t1 := hy1.1
        have t2 := y32_m1 hy1
        have e72 := s72 (d := d) (by omega) g3 hw (x := a.toNat) (by omega)
        have e73 := s72 (d := d) (by omega) g3 hw (x := b.toNat) (by omega)
        rw [ea] at e72
        rw [eb] at e73
        have key : ∀ y : Int, rsP PG0 MX d 155 55 [vR 32, vI s, vI a, vI b, vR (34 + 3 * s), vU] [vI y] σ = some (y, σ2) := by
          intro y
          rw [sg_155_55]
          (try simp (disch := omega) only [a43, wr_id2])
          repeat (first | ((with_reducible refine step_t ?_ ?_); with_reducible exact True.intro) | ((with_reducible refine step_t ?_ ?_); omega) | ((with_reducible refine step_f ?_ ?_); omega))
          refine step_c (k1) ?_
          try dsimp only
          repeat (first | ((with_reducible refine step_t ?_ ?_); with_reducible exact True.intro) | ((with_reducible refine step_t ?_ ?_); omega) | ((with_reducible refine step_f ?_ ?_); omega))
          refine step_c (j1) ?_
          try dsimp only
        refine ⟨σ2, ?_, F2, C2⟩
        rw [ce_155, sg_155_0]
        repeat (first | ((with_reducible refine step_t ?_ ?_); with_reducible exact True.intro) | ((with_reducible refine step_t ?_ ?_); omega) | ((with_reducible refine step_f ?_ ?_); omega))
        refine step_c (e41) ?_
        try dsimp only
        repeat (first | ((with_reducible refine step_t ?_ ?_); with_reducible exact True.intro) | ((with_reducible refine step_t ?_ ?_); omega) | ((with_reducible refine step_f ?_ ?_); omega))
        refine step_c (e30) ?_
        try dsimp only
        rw [wr_b2i]
        refine step_f (show ¬ (b2i true = 0) by decide) ?_
        repeat (first | ((with_reducible refine step_t ?_ ?_); with_reducible exact True.intro) | ((with_reducible refine step_t ?_ ?_); omega) | ((with_reducible refine step_f ?_ ?_); omega))
        refine step_c (e31) ?_
        try dsimp only
        rw [wr_b2i]
        refine step_t (show b2i true ≠ 0 by decide) ?_
        (try simp (disch := omega) only [wr_id2])
        by_cases z : a = b
        · rw [if_pos z]
          refine step_f (by omega) ?_
          exact key 0
        · rw [if_neg z]
          refine step_t (by omega) ?_
          repeat (first | ((with_reducible refine step_t ?_ ?_); with_reducible exact True.intro) | ((with_reducible refine step_t ?_ ?_); omega) | ((with_reducible refine step_f ?_ ?_); omega))
          refine step_c (e72) ?_
          try dsimp only
          repeat (first | ((with_reducible refine step_t ?_ ?_); with_reducible exact True.intro) | ((with_reducible refine step_t ?_ ?_); omega) | ((with_reducible refine step_f ?_ ?_); omega))
          refine step_c (e73) ?_
          try dsimp only
          exact key _
      · rw [decide_eq_false zb] at e31
        rw [if_neg (fun q => zb q.2)]
        dsimp only
        refine ⟨σ, ?_, FC.rf hy, hc⟩
        rw [ce_155, sg_155_0]
        repeat (first | ((with_reducible refine step_t ?_ ?_); with_reducible exact True.intro) | ((with_reducible refine step_t ?_ ?_); omega) | ((with_reducible refine step_f ?_ ?_); omega))
        refine step_c (e41) ?_
        try dsimp only
        repeat (first | ((with_reducible refine step_t ?_ ?_); with_reducible exact True.intro) | ((with_reducible refine step_t ?_ ?_); omega) | ((with_reducible refine step_f ?_ ?_); omega))
        refine step_c (e30) ?_
        try dsimp only
        rw [wr_b2i]
        refine step_f (show ¬ (b2i true = 0) by decide) ?_
        repeat (first | ((with_reducible refine step_t ?_ ?_); with_reducible exact True.intro) | ((with_reducible refine step_t ?_ ?_); omega) | ((with_reducible refine step_f ?_ ?_); omega))
        refine step_c (e31) ?_
        try dsimp only
        rw [wr_b2i]
        refine step_f (show ¬ (b2i false ≠ 0) by decide) ?_
        rfl
    · rw [decide_eq_false za] at e30
      rw [if_neg (fun q => za q.1)]
      dsimp only
      refine ⟨σ, ?_, FC.rf hy, hc⟩
      rw [ce_155, sg_155_0]
      repeat (first | ((with_reducible refine step_t ?_ ?_); with_reducible exact True.intro) | ((with_reducible refine step_t ?_ ?_); omega) | ((with_reducible refine step_f ?_ ?_); omega))
      refine step_c (e41) ?_
      try dsimp only
      repeat (first | ((with_reducible refine step_t ?_ ?_); with_reducible exact True.intro) | ((with_reducible refine step_t ?_ ?_); omega) | ((with_reducible refine step_f ?_ ?_); omega))
      refine step_c (e30) ?_
      try dsimp only
      rw [wr_b2i]
      refine step_t (show b2i false = 0 by decide) ?_
      rfl
/-- detour -/
def detF (i x : Int) (L : LB) : Int × Option LB := if (0 ≤ i ∧ i < (lT L).length) ∧ (0 ≤ x ∧ x < lN0 L) then (if (lT L).length + 2 ≤ 256 then ((((lT L).length + 2 : Nat) : Int), some (dlL L (lS L) (slc L 0 i.toNat ++ [x.toNat] ++ slc L i.toNat 1 ++ [x.toNat] ++ slc L (i.toNat + 1) ((lT L).length - (i.toNat + 1))))) else (-5, none)) else (-2, none)
theorem slc_len {L : LB} {i n : Nat} (h : i + n ≤ (lT L).length) : (slc L i n).length = n := by
  unfold slc
  rw [List.length_take, List.length_drop]
  omega
theorem s151 {d : Nat} (h : 8 ≤ d) {σ : HP} {b : Int} {L : LB} (hy : Lay σ) (hb : blr σ b L) (hb43 : b + 2 < 43) (hw : wfL L) {i x : Nat} (hi : i < (lT L).length) (hx : x < lN0 L) (h2 : (lT L).length + 2 ≤ 256) : ∃ σ', clR PG0 MX d 151 [vR b, vI i, vI x, vR 43] σ = some (0, σ') ∧ DW σ σ' (dlL L (lS L) (slc L 0 i ++ [x] ++ slc L i 1 ++ [x] ++ slc L (i + 1) ((lT L).length - (i + 1)))) := by
  obtain ⟨d, rfl⟩ := ob1 (show 1 ≤ d by omega)
  obtain ⟨⟨m1, m2, m3, m4, m5, m6, m7, m8, m9⟩, f3, f4, f5, f6, fs, fw⟩ := id hb
  obtain ⟨z5, z6, z7, -⟩ := yb_43 hy
  have hw0 := fw 0 (Nat.zero_le _)
  rw [wd_0] at hw0
  have hw0 : σ (b + 2) 0 = (lS L : Nat) := hw0
  have l1 := slc_len (L := L) (i := 0) (n := i) (by omega)
  have l2 := slc_len (L := L) (i := i) (n := 1) (by omega)
  obtain ⟨σ1, k1, D1⟩ := dw_beg (d := d) (by omega) (FS.rf hy) hb hw.1 (x := lS L) hw.1.2.2.2.1
  obtain ⟨σ2, k2, D2⟩ := dw_on0 (d := d) (by omega) D1 hb hb43 hw.1 (i := 0) (j := i) (by omega) (by omega) (by show 0 + _ ≤ _; omega) (Nat.le_refl _)
  rw [Nat.sub_zero] at D2
  have D2 : DW σ σ2 (dlL L (lS L) (slc L 0 i)) := D2
  obtain ⟨σ3, k3, D3⟩ := dw_push (d := d) (by omega) D2 (x := x) hx (by show (slc L 0 i).length < 256; omega)
  have D3 : DW σ σ3 (dlL L (lS L) (slc L 0 i ++ [x])) := D3
  obtain ⟨σ4, k4, D4⟩ := dw_on0 (d := d) (by omega) D3 hb hb43 hw.1 (i := i) (j := i + 1) (by omega) (by omega) (by show (slc L 0 i ++ [x]).length + _ ≤ _; rw [List.length_append, l1]; show i + 1 + _ ≤ _; omega) (Nat.le_refl _)
  rw [show i + 1 - i = 1 by omega] at D4
  have D4 : DW σ σ4 (dlL L (lS L) (slc L 0 i ++ [x] ++ slc L i 1)) := D4
  obtain ⟨σ5, k5, D5⟩ := dw_push (d := d) (by omega) D4 (x := x) hx (by show (slc L 0 i ++ [x] ++ slc L i 1).length < 256; rw [List.length_append, List.length_append, l1, l2]; show i + 1 + 1 < 256; omega)
  have D5 : DW σ σ5 (dlL L (lS L) (slc L 0 i ++ [x] ++ slc L i 1 ++ [x])) := D5
  obtain ⟨σ6, k6, D6⟩ := dw_on0 (d := d) (by omega) D5 hb hb43 hw.1 (i := i + 1) (j := (lT L).length) (by omega) (by omega) (by show (slc L 0 i ++ [x] ++ slc L i 1 ++ [x]).length + _ ≤ _; rw [List.length_append, List.length_append, List.length_append, l1, l2]; show i + 1 + 1 + 1 + _ ≤ 256; omega) (Nat.le_refl _)
  have hl := wf_len hw.1
  have hy1 := D1.fs.2
  obtain ⟨a1, a2, a3, -⟩ := yb_43 hy1
  have hy2 := D2.fs.2
  obtain ⟨b1, b2, b3, -⟩ := yb_43 hy2
  have hy3 := D3.fs.2
  obtain ⟨c1, c2, c3, -⟩ := yb_43 hy3
  have hy4 := D4.fs.2
  obtain ⟨d1, d2, d3, -⟩ := yb_43 hy4
  have hy5 := D5.fs.2
  obtain ⟨e1, e2, e3, -⟩ := yb_43 hy5
  obtain ⟨⟨p1, p2, p3, p4, -⟩, -, -, -, p6, -⟩ := D5.blr hb hb43
  rw [show ((i + 1 : Nat) : Int) = (i : Int) + 1 by omega] at k4 k6
  refine ⟨σ6, ?_, D6⟩
  rw [ce_151, sg_151_0]
  (try simp (disch := omega) only [m5, hw0, wr_id2])
  repeat (first | ((with_reducible refine step_t ?_ ?_); with_reducible exact True.intro) | ((with_reducible refine step_t ?_ ?_); omega) | ((with_reducible refine step_f ?_ ?_); omega))
  refine step_c (k1) ?_
  try dsimp only
  repeat (first | ((with_reducible refine step_t ?_ ?_); with_reducible exact True.intro) | ((with_reducible refine step_t ?_ ?_); omega) | ((with_reducible refine step_f ?_ ?_); omega))
  refine step_c (k2) ?_
  try dsimp only
  repeat (first | ((with_reducible refine step_t ?_ ?_); with_reducible exact True.intro) | ((with_reducible refine step_t ?_ ?_); omega) | ((with_reducible refine step_f ?_ ?_); omega))
  refine step_c (k3) ?_
  try dsimp only
  repeat (first | ((with_reducible refine step_t ?_ ?_); with_reducible exact True.intro) | ((with_reducible refine step_t ?_ ?_); omega) | ((with_reducible refine step_f ?_ ?_); omega))
  refine step_c (k4) ?_
  try dsimp only
  rw [sg_151_34]
  repeat (first | ((with_reducible refine step_t ?_ ?_); with_reducible exact True.intro) | ((with_reducible refine step_t ?_ ?_); omega) | ((with_reducible refine step_f ?_ ?_); omega))
  refine step_c (k5) ?_
  try dsimp only
  (try simp (disch := omega) only [p6, wr_id2])
  repeat (first | ((with_reducible refine step_t ?_ ?_); with_reducible exact True.intro) | ((with_reducible refine step_t ?_ ?_); omega) | ((with_reducible refine step_f ?_ ?_); omega))
  refine step_c (k6) ?_
  try dsimp only
theorem c150 (S : AS) {s i x : Int} (hs : i32 s) (hi : i32 i) (hx : i32 x) : cOp 150 [vI s, vI i, vI x] S (aA S s (detF i x)) := by
  intro d σ h hy ht hc
  obtain ⟨d, rfl⟩ := ob1 (show 1 ≤ d by omega)
  have y1 := hy.1
  have a1 := y32_m1 hy
  have a5 := y32_5 hy
  have b84 := y84_m1 hy
  have e41 := s41 (d := d) (by omega) hy hc hs
  have a43 := y32_1 hy
  obtain ⟨v1, v2, v3, -⟩ := yb_43 hy
  unfold aA
  cases e : gl S s with
  | none =>
    rw [lbA_n e] at e41
    refine ⟨σ, ?_, FC.rf hy, hc⟩
    rw [ce_150, sg_150_0]
    repeat (first | ((with_reducible refine step_t ?_ ?_); with_reducible exact True.intro) | ((with_reducible refine step_t ?_ ?_); omega) | ((with_reducible refine step_f ?_ ?_); omega))
    refine step_c (e41) ?_
    try dsimp only
    repeat (first | ((with_reducible refine step_t ?_ ?_); with_reducible exact True.intro) | ((with_reducible refine step_t ?_ ?_); omega) | ((with_reducible refine step_f ?_ ?_); omega))
    rfl
  | some L =>
    rw [lbA_s e] at e41
    obtain ⟨g1, g2, g3, g4, g5⟩ := hc.got e
    have hw := g4.1
    obtain ⟨⟨m1, m2, m3, m4, m5, m6, m7, m8, m9⟩, f3, f4, f5, f6, fs, fw⟩ := id g3
    have hl := wf_len hw
    have h9 := hw.1
    have hsh := shN_le L
    dsimp only
    have x1 := hi.1
    have x2 := hi.2
    have e30 := s30' (d := d) (by omega) g3 hw hx
    unfold detF
    by_cases za : 0 ≤ i ∧ i < (lT L).length
    · by_cases zb : 0 ≤ x ∧ x < lN0 L
      · rw [decide_eq_true zb] at e30
        rw [if_pos ⟨za, zb⟩]
        by_cases z2 : (lT L).length + 2 ≤ 256
        · rw [if_pos z2]
          dsimp only
          obtain ⟨σ1, k1, D1⟩ := s151 (d := d) (by omega) hy g3 (by omega) g4 (i := i.toNat) (x := x.toNat) (by omega) (by omega) z2
          obtain ⟨σ2, j1, F2, C2, B2, _⟩ := dw_set (d := d) (by omega) hc D1 g1 g2 g4.2.1 g4.2.2.1 g4.2.2.2
          have ea : ((i.toNat : Nat) : Int) = i := by omega
          have eb : ((x.toNat : Nat) : Int) = x := by omega
          rw [ea, eb] at k1
          have elen : (lT (dlL L (lS L) (slc L 0 i.toNat ++ [x.toNat] ++ slc L i.toNat 1 ++ [x.toNat] ++ slc L (i.toNat + 1) ((lT L).length - (i.toNat + 1))))).length = (lT L).length + 2 := by
            show (slc L 0 i.toNat ++ [x.toNat] ++ slc L i.toNat 1 ++ [x.toNat] ++ slc L (i.toNat + 1) ((lT L).length - (i.toNat + 1))).length = _
            rw [List.length_append, List.length_append, List.length_append, List.length_append, slc_len (by omega), slc_len (by omega), slc_len (by omega)]
            show i.toNat + 1 + 1 + 1 + _ = _
            omega
          rw [elen] at j1
          have hy1 := D1.fs.2
          have t1 := hy1.1
          have t2 := y32_m1 hy1
          refine ⟨σ2, ?_, F2, C2⟩
          rw [ce_150, sg_150_0]
          repeat (first | ((with_reducible refine step_t ?_ ?_); with_reducible exact True.intro) | ((with_reducible refine step_t ?_ ?_); omega) | ((with_reducible refine step_f ?_ ?_); omega))
          refine step_c (e41) ?_
          try dsimp only
          (try simp (disch := omega) only [f6, wr_id2])
          repeat (first | ((with_reducible refine step_t ?_ ?_); with_reducible exact True.intro) | ((with_reducible refine step_t ?_ ?_); omega) | ((with_reducible refine step_f ?_ ?_); omega))
          refine step_c (e30) ?_
          try dsimp only
          rw [wr_b2i]
          refine step_t (show b2i true ≠ 0 by decide) ?_
          (try simp (disch := omega) only [f6, a43, wr_id2])
          repeat (first | ((with_reducible refine step_t ?_ ?_); with_reducible exact True.intro) | ((with_reducible refine step_t ?_ ?_); omega) | ((with_reducible refine step_f ?_ ?_); omega))
          refine step_c (k1) ?_
          try dsimp only
          repeat (first | ((with_reducible refine step_t ?_ ?_); with_reducible exact True.intro) | ((with_reducible refine step_t ?_ ?_); omega) | ((with_reducible refine step_f ?_ ?_); omega))
          refine step_c (j1) ?_
          try dsimp only
        · rw [if_neg z2]
          dsimp only
          refine ⟨σ, ?_, FC.rf hy, hc⟩
          rw [ce_150, sg_150_0]
          repeat (first | ((with_reducible refine step_t ?_ ?_); with_reducible exact True.intro) | ((with_reducible refine step_t ?_ ?_); omega) | ((with_reducible refine step_f ?_ ?_); omega))
          refine step_c (e41) ?_
          try dsimp only
          (try simp (disch := omega) only [f6, wr_id2])
          repeat (first | ((with_reducible refine step_t ?_ ?_); with_reducible exact True.intro) | ((with_reducible refine step_t ?_ ?_); omega) | ((with_reducible refine step_f ?_ ?_); omega))
          refine step_c (e30) ?_
          try dsimp only
          rw [wr_b2i]
          refine step_t (show b2i true ≠ 0 by decide) ?_
          (try simp (disch := omega) only [f6, a43, wr_id2])
          repeat (first | ((with_reducible refine step_t ?_ ?_); with_reducible exact True.intro) | ((with_reducible refine step_t ?_ ?_); omega) | ((with_reducible refine step_f ?_ ?_); omega))
          rfl
      · rw [decide_eq_false zb] at e30
        rw [if_neg (fun q => zb q.2)]
        dsimp only
        refine ⟨σ, ?_, FC.rf hy, hc⟩
        rw [ce_150, sg_150_0]
        repeat (first | ((with_reducible refine step_t ?_ ?_); with_reducible exact True.intro) | ((with_reducible refine step_t ?_ ?_); omega) | ((with_reducible refine step_f ?_ ?_); omega))
        refine step_c (e41) ?_
        try dsimp only
        (try simp (disch := omega) only [f6, wr_id2])
        repeat (first | ((with_reducible refine step_t ?_ ?_); with_reducible exact True.intro) | ((with_reducible refine step_t ?_ ?_); omega) | ((with_reducible refine step_f ?_ ?_); omega))
        refine step_c (e30) ?_
        try dsimp only
        rw [wr_b2i]
        refine step_f (show ¬ (b2i false ≠ 0) by decide) ?_
        rfl
    · rw [if_neg (fun q => za q.1)]
      dsimp only
      refine ⟨σ, ?_, FC.rf hy, hc⟩
      rw [ce_150, sg_150_0]
      repeat (first | ((with_reducible refine step_t ?_ ?_); with_reducible exact True.intro) | ((with_reducible refine step_t ?_ ?_); omega) | ((with_reducible refine step_f ?_ ?_); omega))
      refine step_c (e41) ?_
      try dsimp only
      (try simp (disch := omega) only [f6, wr_id2])
      repeat (first | ((with_reducible refine step_t ?_ ?_); with_reducible exact True.intro) | ((with_reducible refine step_t ?_ ?_); omega) | ((with_reducible refine step_f ?_ ?_); omega))
      refine step_i (fun q => ?_) (fun q => ?_)
      · rfl
      · repeat (first | ((with_reducible refine step_t ?_ ?_); with_reducible exact True.intro) | ((with_reducible refine step_t ?_ ?_); omega) | ((with_reducible refine step_f ?_ ?_); omega))
        rfl
/-- twists -/
def twsL (L : LB) (i j : Nat) : List Nat := slc L 0 i ++ [lowN 31 (wd L i ^^^ wd L j)] ++ (slc L (i + 1) (j - (i + 1))).reverse ++ [lowN 31 (wd L (i + 1) ^^^ wd L (j + 1))] ++ slc L (j + 1) ((lT L).length - (j + 1))
def twsF (i j : Int) (L : LB) : Int × Option LB := if 0 ≤ i ∧ i < j ∧ j < (lT L).length then (if twB L i.toNat j.toNat = true then ((((lT L).length : Nat) : Int), some (dlL L (lS L) (twsL L i.toNat j.toNat))) else (-6, none)) else (-2, none)
theorem pop1_low {L : LB} (hw : wf0 L) {i j : Nat} (h : pop (wd L i ^^^ wd L j) = 1) : 0 < wd L i ^^^ wd L j ∧ lowN 31 (wd L i ^^^ wd L j) < lN0 L := by
  have h1 : wd L i ^^^ wd L j < 2 ^ lN0 L := Nat.xor_lt_two_pow (wd_lt hw i) (wd_lt hw j)
  have h0 : 0 < wd L i ^^^ wd L j := by
    rcases Nat.eq_zero_or_pos (wd L i ^^^ wd L j) with z | z
    · rw [z] at h; exact absurd h (by decide)
    · exact z
  exact ⟨h0, low_lt h0 h1 hw.1⟩
theorem twsL_len {L : LB} {i j : Nat} (hij : i < j) (hj : j < (lT L).length) : (twsL L i j).length = (lT L).length := by
  unfold twsL
  rw [List.length_append, List.length_append, List.length_append, List.length_append, List.length_reverse, slc_len (by omega), slc_len (by omega), slc_len (by omega)]
  show i + 1 + _ + 1 + _ = _
  omega
theorem s147 {d : Nat} (h : 8 ≤ d) {σ : HP} {b : Int} {L : LB} (hy : Lay σ) (hb : blr σ b L) (hb43 : b + 2 < 43) (hw : wfL L) {i j : Nat} (hij : i < j) (hj : j < (lT L).length) (ht : twB L i j = true) : ∃ σ', clR PG0 MX d 147 [vR b, vI i, vI j, vR 43] σ = some (0, σ') ∧ DW σ σ' (dlL L (lS L) (twsL L i j)) := by
  obtain ⟨d, rfl⟩ := ob1 (show 1 ≤ d by omega)
  obtain ⟨⟨m1, m2, m3, m4, m5, m6, m7, m8, m9⟩, f3, f4, f5, f6, fs, fw⟩ := id hb
  obtain ⟨z5, z6, z7, -⟩ := yb_43 hy
  have hl := wf_len hw.1
  unfold twB at ht
  rw [Bool.and_eq_true] at ht
  obtain ⟨u1, u2⟩ := pop1_low hw.1 (of_decide_eq_true ht.1)
  obtain ⟨v1, v2⟩ := pop1_low hw.1 (of_decide_eq_true ht.2)
  have w1 := wd_256 hw.1 i
  have w2 := wd_256 hw.1 j
  have w3 := wd_256 hw.1 (i + 1)
  have w4 := wd_256 hw.1 (j + 1)
  have w5 := xor_256 w1 w2
  have w6 := xor_256 w3 w4
  have hw0 := fw 0 (Nat.zero_le _)
  rw [wd_0] at hw0
  have hw0 : σ (b + 2) 0 = (lS L : Nat) := hw0
  have l1 := slc_len (L := L) (i := 0) (n := i) (by omega)
  have l2 := slc_len (L := L) (i := i + 1) (n := j - (i + 1)) (by omega)
  obtain ⟨σ1, k1, D1⟩ := dw_beg (d := d) (by omega) (FS.rf hy) hb hw.1 (x := lS L) hw.1.2.2.2.1
  obtain ⟨σ2, k2, D2⟩ := dw_on0 (d := d) (by omega) D1 hb hb43 hw.1 (i := 0) (j := i) (by omega) (by omega) (by show 0 + _ ≤ _; omega) (Nat.le_refl _)
  rw [Nat.sub_zero] at D2
  have D2 : DW σ σ2 (dlL L (lS L) (slc L 0 i)) := D2
  obtain ⟨σ3, k3, D3⟩ := dw_push (d := d) (by omega) D2 (x := lowN 31 (wd L i ^^^ wd L j)) u2 (by show (slc L 0 i).length < 256; omega)
  have D3 : DW σ σ3 (dlL L (lS L) (slc L 0 i ++ [lowN 31 (wd L i ^^^ wd L j)])) := D3
  obtain ⟨σ4, k4, D4⟩ := dw_bk (d := d) (by omega) D3 hb hb43 hw.1 (i := i + 1) (j := j) (by omega) (by omega) (by show (slc L 0 i ++ [lowN 31 (wd L i ^^^ wd L j)]).length + _ ≤ _; rw [List.length_append, l1]; show i + 1 + _ ≤ _; omega) (Nat.le_refl _)
  have D4 : DW σ σ4 (dlL L (lS L) (slc L 0 i ++ [lowN 31 (wd L i ^^^ wd L j)] ++ (slc L (i + 1) (j - (i + 1))).reverse)) := D4
  obtain ⟨σ5, k5, D5⟩ := dw_push (d := d) (by omega) D4 (x := lowN 31 (wd L (i + 1) ^^^ wd L (j + 1))) v2 (by show (slc L 0 i ++ [lowN 31 (wd L i ^^^ wd L j)] ++ (slc L (i + 1) (j - (i + 1))).reverse).length < 256; rw [List.length_append, List.length_append, List.length_reverse, l1, l2]; show i + 1 + _ < 256; omega)
  have D5 : DW σ σ5 (dlL L (lS L) (slc L 0 i ++ [lowN 31 (wd L i ^^^ wd L j)] ++ (slc L (i + 1) (j - (i + 1))).reverse ++ [lowN 31 (wd L (i + 1) ^^^ wd L (j + 1))])) := D5
  obtain ⟨σ6, k6, D6⟩ := dw_on0 (d := d) (by omega) D5 hb hb43 hw.1 (i := j + 1) (j := (lT L).length) (by omega) (by omega) (by show (slc L 0 i ++ [lowN 31 (wd L i ^^^ wd L j)] ++ (slc L (i + 1) (j - (i + 1))).reverse ++ [lowN 31 (wd L (i + 1) ^^^ wd L (j + 1))]).length + _ ≤ _; rw [List.length_append, List.length_append, List.length_append, List.length_reverse, l1, l2]; show i + 1 + _ + 1 + _ ≤ 256; omega) (Nat.le_refl _)
  have hy1 := D1.fs.2
  obtain ⟨a1, a2, a3, -⟩ := yb_43 hy1
  have hy2 := D2.fs.2
  obtain ⟨b1, b2, b3, -⟩ := yb_43 hy2
  have hy3 := D3.fs.2
  obtain ⟨c1, c2, c3, -⟩ := yb_43 hy3
  have hy4 := D4.fs.2
  obtain ⟨d1, d2, d3, -⟩ := yb_43 hy4
  have hy5 := D5.fs.2
  obtain ⟨e1, e2, e3, -⟩ := yb_43 hy5
  have B2 := D2.blr hb hb43
  obtain ⟨⟨n1, n2, n3, n4, n5, n6, n7, n8, n9⟩, -, -, -, -, -, nw⟩ := B2
  have B4 := D4.blr hb hb43
  obtain ⟨⟨o1, o2, o3, o4, o5, o6, o7, o8, o9⟩, -, -, -, -, -, ow⟩ := B4
  obtain ⟨⟨p1, p2, p3, p4, -⟩, -, -, -, p6, -⟩ := D5.blr hb hb43
  have g1 := nw i (by omega)
  have g2 := nw j (by omega)
  have g3 := ow (i + 1) (by omega)
  have g4 := ow (j + 1) (by omega)
  rw [show ((i + 1 : Nat) : Int) = (i : Int) + 1 by omega] at k4 g3
  rw [show ((j + 1 : Nat) : Int) = (j : Int) + 1 by omega] at k6 g4
  refine ⟨σ6, ?_, D6⟩
  rw [ce_147, sg_147_0]
  (try simp (disch := omega) only [m5, hw0, wr_id2])
  repeat (first | ((with_reducible refine step_t ?_ ?_); with_reducible exact True.intro) | ((with_reducible refine step_t ?_ ?_); omega) | ((with_reducible refine step_f ?_ ?_); omega))
  refine step_c (k1) ?_
  try dsimp only
  repeat (first | ((with_reducible refine step_t ?_ ?_); with_reducible exact True.intro) | ((with_reducible refine step_t ?_ ?_); omega) | ((with_reducible refine step_f ?_ ?_); omega))
  refine step_c (k2) ?_
  try dsimp only
  (try simp (disch := omega) only [n5, g1, g2, i_xor_n (a := wd L i) (b := wd L j) (by omega) (by omega), wr_id2])
  repeat (first | ((with_reducible refine step_t ?_ ?_); with_reducible exact True.intro) | ((with_reducible refine step_t ?_ ?_); omega) | ((with_reducible refine step_f ?_ ?_); omega))
  refine step_c (s101 (by omega) σ2 u1 (by omega)) ?_
  try dsimp only
  repeat (first | ((with_reducible refine step_t ?_ ?_); with_reducible exact True.intro) | ((with_reducible refine step_t ?_ ?_); omega) | ((with_reducible refine step_f ?_ ?_); omega))
  refine step_c (k3) ?_
  try dsimp only
  rw [sg_147_39]
  repeat (first | ((with_reducible refine step_t ?_ ?_); with_reducible exact True.intro) | ((with_reducible refine step_t ?_ ?_); omega) | ((with_reducible refine step_f ?_ ?_); omega))
  refine step_c (k4) ?_
  try dsimp only
  (try simp (disch := omega) only [o5, g3, g4, i_xor_n (a := wd L (i + 1)) (b := wd L (j + 1)) (by omega) (by omega), wr_id2])
  repeat (first | ((with_reducible refine step_t ?_ ?_); with_reducible exact True.intro) | ((with_reducible refine step_t ?_ ?_); omega) | ((with_reducible refine step_f ?_ ?_); omega))
  refine step_c (s101 (by omega) σ4 v1 (by omega)) ?_
  try dsimp only
  repeat (first | ((with_reducible refine step_t ?_ ?_); with_reducible exact True.intro) | ((with_reducible refine step_t ?_ ?_); omega) | ((with_reducible refine step_f ?_ ?_); omega))
  refine step_c (k5) ?_
  try dsimp only
  (try simp (disch := omega) only [p6, wr_id2])
  repeat (first | ((with_reducible refine step_t ?_ ?_); with_reducible exact True.intro) | ((with_reducible refine step_t ?_ ?_); omega) | ((with_reducible refine step_f ?_ ?_); omega))
  refine step_c (k6) ?_
  try dsimp only
theorem c145 (S : AS) {s i j : Int} (hs : i32 s) (hi : i32 i) (hj : i32 j) : cOp 145 [vI s, vI i, vI j] S (aA S s (twsF i j)) := by
  intro d σ h hy ht hc
  obtain ⟨d, rfl⟩ := ob1 (show 1 ≤ d by omega)
  have y1 := hy.1
  have a1 := y32_m1 hy
  have a5 := y32_5 hy
  have b84 := y84_m1 hy
  have e41 := s41 (d := d) (by omega) hy hc hs
  have a43 := y32_1 hy
  obtain ⟨v1, v2, v3, -⟩ := yb_43 hy
  unfold aA
  cases e : gl S s with
  | none =>
    rw [lbA_n e] at e41
    refine ⟨σ, ?_, FC.rf hy, hc⟩
    rw [ce_145, sg_145_0]
    repeat (first | ((with_reducible refine step_t ?_ ?_); with_reducible exact True.intro) | ((with_reducible refine step_t ?_ ?_); omega) | ((with_reducible refine step_f ?_ ?_); omega))
    refine step_c (e41) ?_
    try dsimp only
    repeat (first | ((with_reducible refine step_t ?_ ?_); with_reducible exact True.intro) | ((with_reducible refine step_t ?_ ?_); omega) | ((with_reducible refine step_f ?_ ?_); omega))
    rfl
  | some L =>
    rw [lbA_s e] at e41
    obtain ⟨g1, g2, g3, g4, g5⟩ := hc.got e
    have hw := g4.1
    obtain ⟨⟨m1, m2, m3, m4, m5, m6, m7, m8, m9⟩, f3, f4, f5, f6, fs, fw⟩ := id g3
    have hl := wf_len hw
    have h9 := hw.1
    have hsh := shN_le L
    dsimp only
    have x1 := hi.1
    have x2 := hi.2
    have y4 := hj.1
    have y5 := hj.2
    unfold twsF
    by_cases za : 0 ≤ i ∧ i < j ∧ j < (lT L).length
    · rw [if_pos za]
      have e146 := s146 (d := d) (by omega) g3 hw (i := i.toNat) (j := j.toNat) (by omega) (by omega)
      have ea : ((i.toNat : Nat) : Int) = i := by omega
      have eb : ((j.toNat : Nat) : Int) = j := by omega
      rw [ea, eb] at e146
      cases ht : twB L i.toNat j.toNat with
      | true =>
        rw [if_pos rfl]
        dsimp only
        rw [ht] at e146
        obtain ⟨σ1, k1, D1⟩ := s147 (d := d) (by omega) hy g3 (by omega) g4 (i := i.toNat) (j := j.toNat) (by omega) (by omega) ht
        obtain ⟨σ2, j1, F2, C2, B2, _⟩ := dw_set (d := d) (by omega) hc D1 g1 g2 g4.2.1 g4.2.2.1 g4.2.2.2
        rw [ea, eb] at k1
        have elen : (lT (dlL L (lS L) (twsL L i.toNat j.toNat))).length = (lT L).length := twsL_len (by omega) (by omega)
        rw [elen] at j1
        have hy1 := D1.fs.2
        have t1 := hy1.1
        have t2 := y32_m1 hy1
        refine ⟨σ2, ?_, F2, C2⟩
        rw [ce_145, sg_145_0]
        repeat (first | ((with_reducible refine step_t ?_ ?_); with_reducible exact True.intro) | ((with_reducible refine step_t ?_ ?_); omega) | ((with_reducible refine step_f ?_ ?_); omega))
        refine step_c (e41) ?_
        try dsimp only
        (try simp (disch := omega) only [f6, wr_id2])
        repeat (first | ((with_reducible refine step_t ?_ ?_); with_reducible exact True.intro) | ((with_reducible refine step_t ?_ ?_); omega) | ((with_reducible refine step_f ?_ ?_); omega))
        refine step_c (e146) ?_
        try dsimp only
        rw [wr_b2i]
        refine step_t (show b2i true ≠ 0 by decide) ?_
        (try simp (disch := omega) only [a43, wr_id2])
        repeat (first | ((with_reducible refine step_t ?_ ?_); with_reducible exact True.intro) | ((with_reducible refine step_t ?_ ?_); omega) | ((with_reducible refine step_f ?_ ?_); omega))
        refine step_c (k1) ?_
        try dsimp only
        repeat (first | ((with_reducible refine step_t ?_ ?_); with_reducible exact True.intro) | ((with_reducible refine step_t ?_ ?_); omega) | ((with_reducible refine step_f ?_ ?_); omega))
        refine step_c (j1) ?_
        try dsimp only
      | false =>
        rw [if_neg (by decide)]
        dsimp only
        rw [ht] at e146
        refine ⟨σ, ?_, FC.rf hy, hc⟩
        rw [ce_145, sg_145_0]
        repeat (first | ((with_reducible refine step_t ?_ ?_); with_reducible exact True.intro) | ((with_reducible refine step_t ?_ ?_); omega) | ((with_reducible refine step_f ?_ ?_); omega))
        refine step_c (e41) ?_
        try dsimp only
        (try simp (disch := omega) only [f6, wr_id2])
        repeat (first | ((with_reducible refine step_t ?_ ?_); with_reducible exact True.intro) | ((with_reducible refine step_t ?_ ?_); omega) | ((with_reducible refine step_f ?_ ?_); omega))
        refine step_c (e146) ?_
        try dsimp only
        rw [wr_b2i]
        refine step_f (show ¬ (b2i false ≠ 0) by decide) ?_
        rfl
    · rw [if_neg za]
      dsimp only
      refine ⟨σ, ?_, FC.rf hy, hc⟩
      rw [ce_145, sg_145_0]
      repeat (first | ((with_reducible refine step_t ?_ ?_); with_reducible exact True.intro) | ((with_reducible refine step_t ?_ ?_); omega) | ((with_reducible refine step_f ?_ ?_); omega))
      refine step_c (e41) ?_
      try dsimp only
      (try simp (disch := omega) only [f6, wr_id2])
      repeat (first | ((with_reducible refine step_t ?_ ?_); with_reducible exact True.intro) | ((with_reducible refine step_t ?_ ?_); omega) | ((with_reducible refine step_f ?_ ?_); omega))
      refine step_i (fun q => ?_) (fun q => ?_)
      · rfl
      · refine step_i (fun q2 => ?_) (fun q2 => ?_)
        · rfl
        · repeat (first | ((with_reducible refine step_t ?_ ?_); with_reducible exact True.intro) | ((with_reducible refine step_t ?_ ?_); omega) | ((with_reducible refine step_f ?_ ?_); omega))
          rfl
