-- @after 30 31 32 33 34 35 36 40 41 42 43
/-! QUESTIONS THAT THE CLASS ANSWERS -/
def qA (S : AS) (s : Int) (f : LB → Int) : Int := match gl S s with
  | none => -2
  | some L => f L
theorem s30' {d : Nat} (h : 1 ≤ d) {σ : HP} {b x : Int} {L : LB} (hb : blr σ b L) (hw : wf0 L) (hx : i32 x) : clR PG0 MX d 30 [vR b, vI x] σ = some (b2i (decide (0 ≤ x ∧ x < lN0 L)), σ) := by
  have e := s30 h (x := x) hb hw
  rw [hx.wr] at e
  exact e
theorem s68' {d : Nat} (h : 2 ≤ d) {σ : HP} {b x : Int} {L : LB} (hb : blr σ b L) (hw : wf0 L) (hx : i32 x) : clR PG0 MX d 68 [vR b, vI x] σ = some (b2i (decide (0 ≤ x ∧ x < (2 ^ lN0 L : Nat))), σ) := by
  have e := s68 h (x := x) hb hw
  rw [hx.wr] at e
  exact e
theorem s91' {d : Nat} (h : 1 ≤ d) {σ : HP} {b x : Int} {L : LB} (hb : blr σ b L) (hw : wf0 L) (hx : i32 x) : clR PG0 MX d 91 [vR b, vI x] σ = some (b2i (decide (0 ≤ x ∧ x ≤ (lT L).length)), σ) := by
  have e := s91 h (x := x) hb hw
  rw [hx.wr] at e
  exact e
/-- look -/
def lokF (w : Int) (L : LB) : Int := if w = 0 then (lN0 L : Nat) else if w = 1 then (lA L : Nat) else if w = 2 then (lB L : Nat) else if w = 3 then (lS L : Nat) else if w = 4 then ((lT L).length : Nat) else if w = 5 then (shN L : Nat) else if w = 6 then (unlN L : Nat) else if w = 7 then (cntB (inSc L) (2 ^ lN0 L) : Nat) else -2
theorem c40 (S : AS) {s w : Int} (hs : i32 s) (hx : i32 w) : cOp 40 [vI s, vI w] S (qA S s (lokF w), S) := by
  intro d σ h hy ht hc
  obtain ⟨d, rfl⟩ := ob1 (show 1 ≤ d by omega)
  have y1 := hy.1
  have a1 := y32_m1 hy
  have a5 := y32_5 hy
  have b84 := y84_m1 hy
  have e41 := s41 (d := d) (by omega) hy hc hs
  unfold qA
  cases e : gl S s with
  | none =>
    rw [lbA_n e] at e41
    refine ⟨σ, ?_, FC.rf hy, hc⟩
    rw [ce_40, sg_40_0]
    repeat (first | refine step_t trivial ?_ | refine step_t (by omega) ?_ | refine step_f (by omega) ?_)
    refine step_c (e41) ?_
    try dsimp only
    repeat (first | refine step_t trivial ?_ | refine step_t (by omega) ?_ | refine step_f (by omega) ?_)
    rfl
  | some L =>
    rw [lbA_s e] at e41
    obtain ⟨g1, g2, g3, g4, g5⟩ := hc.got e
    have hw := g4.1
    obtain ⟨⟨m1, m2, m3, m4, m5, m6, m7, m8, m9⟩, f3, f4, f5, f6, fs, fw⟩ := id g3
    have hl := wf_len hw
    have h9 := hw.1
    have hsh := shN_le L
    dsimp only
    have x1 := hx.1
    have x2 := hx.2
    have hw0 := fw 0 (Nat.zero_le _)
    rw [wd_0] at hw0
    have hw0 : σ (34 + 3 * s + 2) 0 = (lS L : Nat) := hw0
    unfold lokF
    by_cases w6 : w = 6
    · obtain ⟨σ1, k1, k2, k3, k4⟩ := s44 (d := d) (by omega) hy g3 hw (by omega)
      refine ⟨σ1, ?_, k2.fc, k2.cr hc⟩
      rw [ce_40, sg_40_0]
      repeat (first | refine step_t trivial ?_ | refine step_t (by omega) ?_ | refine step_f (by omega) ?_)
      refine step_c (e41) ?_
      try dsimp only
      subst w6
      (try simp (disch := omega) only [a5, wr_id2])
      repeat (first | refine step_t trivial ?_ | refine step_t (by omega) ?_ | refine step_f (by omega) ?_)
      refine step_c (k1) ?_
      try dsimp only
      rfl
    · refine ⟨σ, ?_, FC.rf hy, hc⟩
      rw [ce_40, sg_40_0]
      repeat (first | refine step_t trivial ?_ | refine step_t (by omega) ?_ | refine step_f (by omega) ?_)
      refine step_c (e41) ?_
      try dsimp only
      (try simp (disch := omega) only [a5, f3, f4, f5, f6, m5, hw0, wr_id2])
      repeat (first | refine step_t trivial ?_ | refine step_t (by omega) ?_ | refine step_f (by omega) ?_)
      refine step_i (fun q => ?_) (fun q => ?_)
      · rw [if_pos q]
        repeat (first | refine step_t trivial ?_ | refine step_t (by omega) ?_ | refine step_f (by omega) ?_)
        rfl
      · rw [if_neg q]
        refine step_i (fun q => ?_) (fun q => ?_)
        · rw [if_pos q]
          repeat (first | refine step_t trivial ?_ | refine step_t (by omega) ?_ | refine step_f (by omega) ?_)
          rfl
        · rw [if_neg q]
          refine step_i (fun q => ?_) (fun q => ?_)
          · rw [if_pos q]
            repeat (first | refine step_t trivial ?_ | refine step_t (by omega) ?_ | refine step_f (by omega) ?_)
            rfl
          · rw [if_neg q]
            refine step_i (fun q => ?_) (fun q => ?_)
            · rw [if_pos q]
              repeat (first | refine step_t trivial ?_ | refine step_t (by omega) ?_ | refine step_f (by omega) ?_)
              rfl
            · rw [if_neg q]
              refine step_i (fun q => ?_) (fun q => ?_)
              · rw [if_pos q]
                repeat (first | refine step_t trivial ?_ | refine step_t (by omega) ?_ | refine step_f (by omega) ?_)
                rfl
              · rw [if_neg q]
                refine step_i (fun q => ?_) (fun q => ?_)
                · rw [if_pos q]
                  repeat (first | refine step_t trivial ?_ | refine step_t (by omega) ?_ | refine step_f (by omega) ?_)
                  refine step_c (s42 (by omega) g3 hw) ?_
                  try dsimp only
                · rw [if_neg q]
                  refine step_f (by omega) ?_
                  rw [if_neg w6]
                  refine step_i (fun q => ?_) (fun q => ?_)
                  · rw [if_pos q]
                    repeat (first | refine step_t trivial ?_ | refine step_t (by omega) ?_ | refine step_f (by omega) ?_)
                    refine step_c (s48 (by omega) g3 hw) ?_
                    try dsimp only
                  · rw [if_neg q]
/-- is -/
def isF (w : Int) (L : LB) : Int := if w = 0 then b2i (lpB L) else if w = 1 then b2i (clnB L) else if w = 2 then b2i (fulB L) else if w = 3 then b2i (monF L (lT L).length 0 0) else if w = 4 then b2i (snkB L) else if w = 5 then b2i (oppB L) else if w = 6 then b2i (oneB L) else -2
theorem c51 (S : AS) {s w : Int} (hs : i32 s) (hx : i32 w) : cOp 51 [vI s, vI w] S (qA S s (isF w), S) := by
  intro d σ h hy ht hc
  obtain ⟨d, rfl⟩ := ob1 (show 1 ≤ d by omega)
  have y1 := hy.1
  have a1 := y32_m1 hy
  have a5 := y32_5 hy
  have b84 := y84_m1 hy
  have e41 := s41 (d := d) (by omega) hy hc hs
  unfold qA
  cases e : gl S s with
  | none =>
    rw [lbA_n e] at e41
    refine ⟨σ, ?_, FC.rf hy, hc⟩
    rw [ce_51, sg_51_0]
    repeat (first | refine step_t trivial ?_ | refine step_t (by omega) ?_ | refine step_f (by omega) ?_)
    refine step_c (e41) ?_
    try dsimp only
    repeat (first | refine step_t trivial ?_ | refine step_t (by omega) ?_ | refine step_f (by omega) ?_)
    rfl
  | some L =>
    rw [lbA_s e] at e41
    obtain ⟨g1, g2, g3, g4, g5⟩ := hc.got e
    have hw := g4.1
    obtain ⟨⟨m1, m2, m3, m4, m5, m6, m7, m8, m9⟩, f3, f4, f5, f6, fs, fw⟩ := id g3
    have hl := wf_len hw
    have h9 := hw.1
    have hsh := shN_le L
    dsimp only
    have x1 := hx.1
    have x2 := hx.2
    unfold isF
    by_cases w1 : w = 1
    · subst w1
      obtain ⟨σ1, k1, k2, k3, k4⟩ := s53 (d := d) (by omega) hy g3 hw (by omega)
      refine ⟨σ1, ?_, k2.fc, k2.cr hc⟩
      rw [ce_51, sg_51_0]
      repeat (first | refine step_t trivial ?_ | refine step_t (by omega) ?_ | refine step_f (by omega) ?_)
      refine step_c (e41) ?_
      try dsimp only
      (try simp (disch := omega) only [a5, wr_id2])
      repeat (first | refine step_t trivial ?_ | refine step_t (by omega) ?_ | refine step_f (by omega) ?_)
      refine step_c (k1) ?_
      try dsimp only
      refine step_c (s52 (by omega) σ1 _) ?_
      try dsimp only
      rfl
    by_cases w2 : w = 2
    · subst w2
      obtain ⟨σ1, k1, k2, k3⟩ := s54 (d := d) (by omega) hy g3 hw (by omega)
      refine ⟨σ1, ?_, k2.fc, k2.cr hc⟩
      rw [ce_51, sg_51_0]
      repeat (first | refine step_t trivial ?_ | refine step_t (by omega) ?_ | refine step_f (by omega) ?_)
      refine step_c (e41) ?_
      try dsimp only
      (try simp (disch := omega) only [a5, wr_id2])
      repeat (first | refine step_t trivial ?_ | refine step_t (by omega) ?_ | refine step_f (by omega) ?_)
      refine step_c (k1) ?_
      try dsimp only
      refine step_c (s52 (by omega) σ1 _) ?_
      try dsimp only
      rfl
    by_cases w4 : w = 4
    · subst w4
      obtain ⟨σ1, k1, k2⟩ := s57 (d := d) (by omega) hy g3 hw (by omega)
      refine ⟨σ1, ?_, k2.fc, k2.cr hc⟩
      rw [ce_51, sg_51_0]
      repeat (first | refine step_t trivial ?_ | refine step_t (by omega) ?_ | refine step_f (by omega) ?_)
      refine step_c (e41) ?_
      try dsimp only
      (try simp (disch := omega) only [a5, wr_id2])
      repeat (first | refine step_t trivial ?_ | refine step_t (by omega) ?_ | refine step_f (by omega) ?_)
      refine step_c (k1) ?_
      try dsimp only
      refine step_c (s52 (by omega) σ1 _) ?_
      try dsimp only
      rfl
    refine ⟨σ, ?_, FC.rf hy, hc⟩
    rw [ce_51, sg_51_0]
    repeat (first | refine step_t trivial ?_ | refine step_t (by omega) ?_ | refine step_f (by omega) ?_)
    refine step_c (e41) ?_
    try dsimp only
    (try simp (disch := omega) only [a5, wr_id2])
    repeat (first | refine step_t trivial ?_ | refine step_t (by omega) ?_ | refine step_f (by omega) ?_)
    refine step_i (fun q => ?_) (fun q => ?_)
    · rw [if_pos q]
      repeat (first | refine step_t trivial ?_ | refine step_t (by omega) ?_ | refine step_f (by omega) ?_)
      refine step_c (s43 (by omega) g3 hw) ?_
      try dsimp only
      refine step_c (s52 (by omega) σ _) ?_
      try dsimp only
    · rw [if_neg q, if_neg w1, if_neg w2]
      refine step_f (by omega) ?_
      refine step_f (by omega) ?_
      refine step_i (fun q => ?_) (fun q => ?_)
      · rw [if_pos q]
        repeat (first | refine step_t trivial ?_ | refine step_t (by omega) ?_ | refine step_f (by omega) ?_)
        refine step_c (s55 (by omega) g3 hw) ?_
        try dsimp only
        refine step_c (s52 (by omega) σ _) ?_
        try dsimp only
      · rw [if_neg q, if_neg w4]
        refine step_f (by omega) ?_
        refine step_i (fun q => ?_) (fun q => ?_)
        · rw [if_pos q]
          repeat (first | refine step_t trivial ?_ | refine step_t (by omega) ?_ | refine step_f (by omega) ?_)
          refine step_c (s60 (by omega) g3 hw) ?_
          try dsimp only
          refine step_c (s52 (by omega) σ _) ?_
          try dsimp only
        · rw [if_neg q]
          refine step_i (fun q => ?_) (fun q => ?_)
          · rw [if_pos q]
            repeat (first | refine step_t trivial ?_ | refine step_t (by omega) ?_ | refine step_f (by omega) ?_)
            refine step_c (s61 (by omega) g3 hw) ?_
            try dsimp only
            refine step_c (s52 (by omega) σ _) ?_
            try dsimp only
          · rw [if_neg q]
/-- word -/
def wrdQ (p : Int) (L : LB) : Int := if 0 ≤ p then (if p ≤ (lT L).length then (wd L p.toNat : Nat) else -1) else -2
theorem c65 (S : AS) {s p : Int} (hs : i32 s) (hx : i32 p) : cOp 65 [vI s, vI p] S (qA S s (wrdQ p), S) := by
  intro d σ h hy ht hc
  obtain ⟨d, rfl⟩ := ob1 (show 1 ≤ d by omega)
  have y1 := hy.1
  have a1 := y32_m1 hy
  have a5 := y32_5 hy
  have b84 := y84_m1 hy
  have e41 := s41 (d := d) (by omega) hy hc hs
  unfold qA
  cases e : gl S s with
  | none =>
    rw [lbA_n e] at e41
    refine ⟨σ, ?_, FC.rf hy, hc⟩
    rw [ce_65, sg_65_0]
    repeat (first | refine step_t trivial ?_ | refine step_t (by omega) ?_ | refine step_f (by omega) ?_)
    refine step_c (e41) ?_
    try dsimp only
    repeat (first | refine step_t trivial ?_ | refine step_t (by omega) ?_ | refine step_f (by omega) ?_)
    rfl
  | some L =>
    rw [lbA_s e] at e41
    obtain ⟨g1, g2, g3, g4, g5⟩ := hc.got e
    have hw := g4.1
    obtain ⟨⟨m1, m2, m3, m4, m5, m6, m7, m8, m9⟩, f3, f4, f5, f6, fs, fw⟩ := id g3
    have hl := wf_len hw
    have h9 := hw.1
    have hsh := shN_le L
    dsimp only
    have x1 := hx.1
    have x2 := hx.2
    unfold wrdQ
    refine ⟨σ, ?_, FC.rf hy, hc⟩
    rw [ce_65, sg_65_0]
    repeat (first | refine step_t trivial ?_ | refine step_t (by omega) ?_ | refine step_f (by omega) ?_)
    refine step_c (e41) ?_
    try dsimp only
    (try simp (disch := omega) only [f6, wr_id2])
    repeat (first | refine step_t trivial ?_ | refine step_t (by omega) ?_ | refine step_f (by omega) ?_)
    refine step_i (fun q => ?_) (fun q => ?_)
    · rw [if_pos q]
      repeat (first | refine step_t trivial ?_ | refine step_t (by omega) ?_ | refine step_f (by omega) ?_)
      refine step_i (fun q2 => ?_) (fun q2 => ?_)
      · rw [if_pos q2]
        have e2 := fw p.toNat (by omega)
        rw [show ((p.toNat : Nat) : Int) = p by omega] at e2
        (try simp (disch := omega) only [m5, e2, wr_id2])
        repeat (first | refine step_t trivial ?_ | refine step_t (by omega) ?_ | refine step_f (by omega) ?_)
        rfl
      · rw [if_neg q2]
    · rw [if_neg q]
/-- step -/
def stpQ (p : Int) (L : LB) : Int := if 0 ≤ p then (if p < (lT L).length then ((lT L)[p.toNat]?.getD 0 : Nat) else -1) else -2
theorem c66 (S : AS) {s p : Int} (hs : i32 s) (hx : i32 p) : cOp 66 [vI s, vI p] S (qA S s (stpQ p), S) := by
  intro d σ h hy ht hc
  obtain ⟨d, rfl⟩ := ob1 (show 1 ≤ d by omega)
  have y1 := hy.1
  have a1 := y32_m1 hy
  have a5 := y32_5 hy
  have b84 := y84_m1 hy
  have e41 := s41 (d := d) (by omega) hy hc hs
  unfold qA
  cases e : gl S s with
  | none =>
    rw [lbA_n e] at e41
    refine ⟨σ, ?_, FC.rf hy, hc⟩
    rw [ce_66, sg_66_0]
    repeat (first | refine step_t trivial ?_ | refine step_t (by omega) ?_ | refine step_f (by omega) ?_)
    refine step_c (e41) ?_
    try dsimp only
    repeat (first | refine step_t trivial ?_ | refine step_t (by omega) ?_ | refine step_f (by omega) ?_)
    rfl
  | some L =>
    rw [lbA_s e] at e41
    obtain ⟨g1, g2, g3, g4, g5⟩ := hc.got e
    have hw := g4.1
    obtain ⟨⟨m1, m2, m3, m4, m5, m6, m7, m8, m9⟩, f3, f4, f5, f6, fs, fw⟩ := id g3
    have hl := wf_len hw
    have h9 := hw.1
    have hsh := shN_le L
    dsimp only
    have x1 := hx.1
    have x2 := hx.2
    unfold stpQ
    refine ⟨σ, ?_, FC.rf hy, hc⟩
    rw [ce_66, sg_66_0]
    repeat (first | refine step_t trivial ?_ | refine step_t (by omega) ?_ | refine step_f (by omega) ?_)
    refine step_c (e41) ?_
    try dsimp only
    (try simp (disch := omega) only [f6, wr_id2])
    repeat (first | refine step_t trivial ?_ | refine step_t (by omega) ?_ | refine step_f (by omega) ?_)
    refine step_i (fun q => ?_) (fun q => ?_)
    · rw [if_pos q]
      repeat (first | refine step_t trivial ?_ | refine step_t (by omega) ?_ | refine step_f (by omega) ?_)
      refine step_i (fun q2 => ?_) (fun q2 => ?_)
      · rw [if_pos q2]
        obtain ⟨y, y1, y2⟩ := st_at g3 (i := p.toNat) (by omega)
        rw [show ((p.toNat : Nat) : Int) = p by omega] at y2
        rw [y1]
        (try simp (disch := omega) only [m4, y2, wr_id2])
        repeat (first | refine step_t trivial ?_ | refine step_t (by omega) ?_ | refine step_f (by omega) ?_)
        rfl
      · rw [if_neg q2]
    · rw [if_neg q]
/-- where -/
def wheQ (x k : Int) (L : LB) : Int := if 0 ≤ x ∧ x < (2 ^ lN0 L : Nat) then (if 0 ≤ k then nthF (fun i => decide (wd L i = x.toNat)) (shN L) 0 k else -2) else -2
theorem s67l {d : Nat} {σ : HP} {b : Int} {L : LB} (hb : blr σ b L) (hw : wf0 L) {x : Nat} (hx : x < 256) : ∀ (m i : Nat) (k : Int) (u0 u1 u3 : MV), i + m = shN L → 0 ≤ k → k ≤ 2147483647 → rsP PG0 MX d 67 41 [u0, u1, vI x, u3, vR b, vI (shN L : Nat), vI k, vI i] [] σ = some (nthF (fun i => decide (wd L i = x)) m i k, σ) := by
  obtain ⟨⟨m1, m2, m3, m4, m5, m6, m7, m8, m9⟩, f3, f4, f5, f6, fs, fw⟩ := id hb
  have hl := wf_len hw
  have hs := shN_le L
  intro m
  induction m with
  | zero =>
    intro i k u0 u1 u3 hi k1 k2
    rw [sg_67_41]
    (try simp (disch := omega) only [wr_id2])
    repeat (first | refine step_t trivial ?_ | refine step_t (by omega) ?_ | refine step_f (by omega) ?_)
    rfl
  | succ m ih =>
    intro i k u0 u1 u3 hi k1 k2
    have q1 := wd_256 hw i
    rw [sg_67_41]
    (try simp (disch := omega) only [m5, fw i (by omega), wr_id2])
    repeat (first | refine step_t trivial ?_ | refine step_t (by omega) ?_ | refine step_f (by omega) ?_)
    unfold nthF
    refine step_i (fun g => ?_) (fun g => ?_)
    · rw [if_neg (show ¬ decide (wd L i = x) = true from fun z => by have := of_decide_eq_true z; omega)]
      exact ih (i + 1) k _ _ _ (by omega) k1 k2
    · rw [if_pos (show decide (wd L i = x) = true from decide_eq_true (by omega))]
      refine step_i (fun g2 => ?_) (fun g2 => ?_)
      · rw [if_neg g2]
        exact ih (i + 1) (k - 1) _ _ _ (by omega) (by omega) (by omega)
      · rw [if_pos (show k = 0 by omega)]
theorem c67 (S : AS) {s x k : Int} (hs : i32 s) (hx : i32 x) (hk : i32 k) : cOp 67 [vI s, vI x, vI k] S (qA S s (wheQ x k), S) := by
  intro d σ h hy ht hc
  obtain ⟨d, rfl⟩ := ob1 (show 1 ≤ d by omega)
  have y1 := hy.1
  have a1 := y32_m1 hy
  have a5 := y32_5 hy
  have b84 := y84_m1 hy
  have e41 := s41 (d := d) (by omega) hy hc hs
  unfold qA
  cases e : gl S s with
  | none =>
    rw [lbA_n e] at e41
    refine ⟨σ, ?_, FC.rf hy, hc⟩
    rw [ce_67, sg_67_0]
    repeat (first | refine step_t trivial ?_ | refine step_t (by omega) ?_ | refine step_f (by omega) ?_)
    refine step_c (e41) ?_
    try dsimp only
    repeat (first | refine step_t trivial ?_ | refine step_t (by omega) ?_ | refine step_f (by omega) ?_)
    rfl
  | some L =>
    rw [lbA_s e] at e41
    obtain ⟨g1, g2, g3, g4, g5⟩ := hc.got e
    have hw := g4.1
    obtain ⟨⟨m1, m2, m3, m4, m5, m6, m7, m8, m9⟩, f3, f4, f5, f6, fs, fw⟩ := id g3
    have hl := wf_len hw
    have h9 := hw.1
    have hsh := shN_le L
    dsimp only
    have x1 := hk.1
    have x2 := hk.2
    have h8 := pow8 hw.1
    have e68 := s68' (d := d) (by omega) g3 hw hx
    unfold wheQ
    refine ⟨σ, ?_, FC.rf hy, hc⟩
    rw [ce_67, sg_67_0]
    repeat (first | refine step_t trivial ?_ | refine step_t (by omega) ?_ | refine step_f (by omega) ?_)
    refine step_c (e41) ?_
    try dsimp only
    repeat (first | refine step_t trivial ?_ | refine step_t (by omega) ?_ | refine step_f (by omega) ?_)
    refine step_c (e68) ?_
    try dsimp only
    rw [wr_b2i]
    by_cases z : 0 ≤ x ∧ x < (2 ^ lN0 L : Nat)
    · rw [decide_eq_true z, if_pos z]
      refine step_f (show ¬ (b2i true = 0) by decide) ?_
      (try simp (disch := omega) only [wr_id2])
      refine step_i (fun q => ?_) (fun q => ?_)
      · rw [if_pos q]
        repeat (first | refine step_t trivial ?_ | refine step_t (by omega) ?_ | refine step_f (by omega) ?_)
        refine step_c (s42 (by omega) g3 hw) ?_
        try dsimp only
        have e9 := s67l (d := d) g3 hw (x := x.toNat) (by omega) (shN L) 0 k (vR 32) (vI s) (vI k) (by omega) q x2
        rw [show ((x.toNat : Nat) : Int) = x by omega] at e9
        exact e9
      · rw [if_neg q]
    · rw [decide_eq_false z, if_neg z]
      refine step_t (show b2i false = 0 by decide) ?_
      rfl
/-- lacks -/
def lckQ (k : Int) (L : LB) : Int := if 0 ≤ k then nthF (lckB L) (2 ^ lN0 L) 0 k else -2
theorem c69 (S : AS) {s k : Int} (hs : i32 s) (hk : i32 k) : cOp 69 [vI s, vI k] S (qA S s (lckQ k), S) := by
  intro d σ h hy ht hc
  obtain ⟨d, rfl⟩ := ob1 (show 1 ≤ d by omega)
  have y1 := hy.1
  have a1 := y32_m1 hy
  have a5 := y32_5 hy
  have b84 := y84_m1 hy
  have e41 := s41 (d := d) (by omega) hy hc hs
  unfold qA
  cases e : gl S s with
  | none =>
    rw [lbA_n e] at e41
    refine ⟨σ, ?_, FC.rf hy, hc⟩
    rw [ce_69, sg_69_0]
    repeat (first | refine step_t trivial ?_ | refine step_t (by omega) ?_ | refine step_f (by omega) ?_)
    refine step_c (e41) ?_
    try dsimp only
    repeat (first | refine step_t trivial ?_ | refine step_t (by omega) ?_ | refine step_f (by omega) ?_)
    rfl
  | some L =>
    rw [lbA_s e] at e41
    obtain ⟨g1, g2, g3, g4, g5⟩ := hc.got e
    have hw := g4.1
    obtain ⟨⟨m1, m2, m3, m4, m5, m6, m7, m8, m9⟩, f3, f4, f5, f6, fs, fw⟩ := id g3
    have hl := wf_len hw
    have h9 := hw.1
    have hsh := shN_le L
    dsimp only
    have x1 := hk.1
    have x2 := hk.2
    unfold lckQ
    by_cases z : 0 ≤ k
    · obtain ⟨σ1, k1, k2⟩ := s70 (d := d) (by omega) hy g3 hw (by omega) z x2
      rw [if_pos z]
      refine ⟨σ1, ?_, k2.fc, k2.cr hc⟩
      rw [ce_69, sg_69_0]
      repeat (first | refine step_t trivial ?_ | refine step_t (by omega) ?_ | refine step_f (by omega) ?_)
      refine step_c (e41) ?_
      try dsimp only
      (try simp (disch := omega) only [a5, wr_id2])
      repeat (first | refine step_t trivial ?_ | refine step_t (by omega) ?_ | refine step_f (by omega) ?_)
      refine step_c (k1) ?_
      try dsimp only
    · rw [if_neg z]
      refine ⟨σ, ?_, FC.rf hy, hc⟩
      rw [ce_69, sg_69_0]
      repeat (first | refine step_t trivial ?_ | refine step_t (by omega) ?_ | refine step_f (by omega) ?_)
      refine step_c (e41) ?_
      try dsimp only
      (try simp (disch := omega) only [a5, wr_id2])
      repeat (first | refine step_t trivial ?_ | refine step_t (by omega) ?_ | refine step_f (by omega) ?_)
      rfl
/-- turned -/
def trnQ (x : Int) (L : LB) : Int := if 0 ≤ x ∧ x < lN0 L then (tuN L x.toNat : Nat) else -2
theorem c71 (S : AS) {s x : Int} (hs : i32 s) (hx : i32 x) : cOp 71 [vI s, vI x] S (qA S s (trnQ x), S) := by
  intro d σ h hy ht hc
  obtain ⟨d, rfl⟩ := ob1 (show 1 ≤ d by omega)
  have y1 := hy.1
  have a1 := y32_m1 hy
  have a5 := y32_5 hy
  have b84 := y84_m1 hy
  have e41 := s41 (d := d) (by omega) hy hc hs
  unfold qA
  cases e : gl S s with
  | none =>
    rw [lbA_n e] at e41
    refine ⟨σ, ?_, FC.rf hy, hc⟩
    rw [ce_71, sg_71_0]
    repeat (first | refine step_t trivial ?_ | refine step_t (by omega) ?_ | refine step_f (by omega) ?_)
    refine step_c (e41) ?_
    try dsimp only
    repeat (first | refine step_t trivial ?_ | refine step_t (by omega) ?_ | refine step_f (by omega) ?_)
    rfl
  | some L =>
    rw [lbA_s e] at e41
    obtain ⟨g1, g2, g3, g4, g5⟩ := hc.got e
    have hw := g4.1
    obtain ⟨⟨m1, m2, m3, m4, m5, m6, m7, m8, m9⟩, f3, f4, f5, f6, fs, fw⟩ := id g3
    have hl := wf_len hw
    have h9 := hw.1
    have hsh := shN_le L
    dsimp only
    have e30 := s30' (d := d) (by omega) g3 hw hx
    unfold trnQ
    refine ⟨σ, ?_, FC.rf hy, hc⟩
    rw [ce_71, sg_71_0]
    repeat (first | refine step_t trivial ?_ | refine step_t (by omega) ?_ | refine step_f (by omega) ?_)
    refine step_c (e41) ?_
    try dsimp only
    repeat (first | refine step_t trivial ?_ | refine step_t (by omega) ?_ | refine step_f (by omega) ?_)
    refine step_c (e30) ?_
    try dsimp only
    rw [wr_b2i]
    by_cases z : 0 ≤ x ∧ x < lN0 L
    · rw [decide_eq_true z, if_pos z]
      refine step_t (show b2i true ≠ 0 by decide) ?_
      repeat (first | refine step_t trivial ?_ | refine step_t (by omega) ?_ | refine step_f (by omega) ?_)
      have e9 := s72 (d := d) (by omega) g3 hw (x := x.toNat) (by omega)
      rw [show ((x.toNat : Nat) : Int) = x by omega] at e9
      refine step_c (e9) ?_
      try dsimp only
    · rw [decide_eq_false z, if_neg z]
      refine step_f (show ¬ (b2i false ≠ 0) by decide) ?_
      rfl
/-- order -/
def ordQ (x : Int) (L : LB) : Int := if 0 ≤ x ∧ x < lN0 L then ordF L x (lN0 L) 0 else -2
theorem c73 (S : AS) {s x : Int} (hs : i32 s) (hx : i32 x) : cOp 73 [vI s, vI x] S (qA S s (ordQ x), S) := by
  intro d σ h hy ht hc
  obtain ⟨d, rfl⟩ := ob1 (show 1 ≤ d by omega)
  have y1 := hy.1
  have a1 := y32_m1 hy
  have a5 := y32_5 hy
  have b84 := y84_m1 hy
  have e41 := s41 (d := d) (by omega) hy hc hs
  unfold qA
  cases e : gl S s with
  | none =>
    rw [lbA_n e] at e41
    refine ⟨σ, ?_, FC.rf hy, hc⟩
    rw [ce_73, sg_73_0]
    repeat (first | refine step_t trivial ?_ | refine step_t (by omega) ?_ | refine step_f (by omega) ?_)
    refine step_c (e41) ?_
    try dsimp only
    repeat (first | refine step_t trivial ?_ | refine step_t (by omega) ?_ | refine step_f (by omega) ?_)
    rfl
  | some L =>
    rw [lbA_s e] at e41
    obtain ⟨g1, g2, g3, g4, g5⟩ := hc.got e
    have hw := g4.1
    obtain ⟨⟨m1, m2, m3, m4, m5, m6, m7, m8, m9⟩, f3, f4, f5, f6, fs, fw⟩ := id g3
    have hl := wf_len hw
    have h9 := hw.1
    have hsh := shN_le L
    dsimp only
    have e30 := s30' (d := d) (by omega) g3 hw hx
    unfold ordQ
    refine ⟨σ, ?_, FC.rf hy, hc⟩
    rw [ce_73, sg_73_0]
    repeat (first | refine step_t trivial ?_ | refine step_t (by omega) ?_ | refine step_f (by omega) ?_)
    refine step_c (e41) ?_
    try dsimp only
    repeat (first | refine step_t trivial ?_ | refine step_t (by omega) ?_ | refine step_f (by omega) ?_)
    refine step_c (e30) ?_
    try dsimp only
    rw [wr_b2i]
    by_cases z : 0 ≤ x ∧ x < lN0 L
    · rw [decide_eq_true z, if_pos z]
      refine step_t (show b2i true ≠ 0 by decide) ?_
      repeat (first | refine step_t trivial ?_ | refine step_t (by omega) ?_ | refine step_f (by omega) ?_)
      refine step_c (s74 (d := d) (by omega) g3 hw hx) ?_
      try dsimp only
    · rw [decide_eq_false z, if_neg z]
      refine step_f (show ¬ (b2i false ≠ 0) by decide) ?_
      rfl
/-- uneven -/
def unvQ (L : LB) : Int := ((mxT L (lN0 L) : Nat) : Int) - (mnT L (lN0 L) : Nat)
theorem c75 (S : AS) {s : Int} (hs : i32 s) : cOp 75 [vI s] S (qA S s unvQ, S) := by
  intro d σ h hy ht hc
  obtain ⟨d, rfl⟩ := ob1 (show 1 ≤ d by omega)
  have y1 := hy.1
  have a1 := y32_m1 hy
  have a5 := y32_5 hy
  have b84 := y84_m1 hy
  have e41 := s41 (d := d) (by omega) hy hc hs
  unfold qA
  cases e : gl S s with
  | none =>
    rw [lbA_n e] at e41
    refine ⟨σ, ?_, FC.rf hy, hc⟩
    rw [ce_75, sg_75_0]
    repeat (first | refine step_t trivial ?_ | refine step_t (by omega) ?_ | refine step_f (by omega) ?_)
    refine step_c (e41) ?_
    try dsimp only
    repeat (first | refine step_t trivial ?_ | refine step_t (by omega) ?_ | refine step_f (by omega) ?_)
    rfl
  | some L =>
    rw [lbA_s e] at e41
    obtain ⟨g1, g2, g3, g4, g5⟩ := hc.got e
    have hw := g4.1
    obtain ⟨⟨m1, m2, m3, m4, m5, m6, m7, m8, m9⟩, f3, f4, f5, f6, fs, fw⟩ := id g3
    have hl := wf_len hw
    have h9 := hw.1
    have hsh := shN_le L
    dsimp only
    refine ⟨σ, ?_, FC.rf hy, hc⟩
    rw [ce_75, sg_75_0]
    repeat (first | refine step_t trivial ?_ | refine step_t (by omega) ?_ | refine step_f (by omega) ?_)
    refine step_c (e41) ?_
    try dsimp only
    repeat (first | refine step_t trivial ?_ | refine step_t (by omega) ?_ | refine step_f (by omega) ?_)
    refine step_c (s76 (d := d) (by omega) g3 hw) ?_
    try dsimp only
    rfl
/-- gap -/
def gapQ (x : Int) (L : LB) : Int := if x = -1 then lgpF L (lN0 L) 0 (-1) else if 0 ≤ x ∧ x < lN0 L then gapN L x.toNat else -2
theorem c77 (S : AS) {s x : Int} (hs : i32 s) (hx : i32 x) : cOp 77 [vI s, vI x] S (qA S s (gapQ x), S) := by
  intro d σ h hy ht hc
  obtain ⟨d, rfl⟩ := ob1 (show 1 ≤ d by omega)
  have y1 := hy.1
  have a1 := y32_m1 hy
  have a5 := y32_5 hy
  have b84 := y84_m1 hy
  have e41 := s41 (d := d) (by omega) hy hc hs
  unfold qA
  cases e : gl S s with
  | none =>
    rw [lbA_n e] at e41
    refine ⟨σ, ?_, FC.rf hy, hc⟩
    rw [ce_77, sg_77_0]
    repeat (first | refine step_t trivial ?_ | refine step_t (by omega) ?_ | refine step_f (by omega) ?_)
    refine step_c (e41) ?_
    try dsimp only
    repeat (first | refine step_t trivial ?_ | refine step_t (by omega) ?_ | refine step_f (by omega) ?_)
    rfl
  | some L =>
    rw [lbA_s e] at e41
    obtain ⟨g1, g2, g3, g4, g5⟩ := hc.got e
    have hw := g4.1
    obtain ⟨⟨m1, m2, m3, m4, m5, m6, m7, m8, m9⟩, f3, f4, f5, f6, fs, fw⟩ := id g3
    have hl := wf_len hw
    have h9 := hw.1
    have hsh := shN_le L
    dsimp only
    have x1 := hx.1
    have x2 := hx.2
    have e30 := s30' (d := d) (by omega) g3 hw hx
    unfold gapQ
    refine ⟨σ, ?_, FC.rf hy, hc⟩
    rw [ce_77, sg_77_0]
    repeat (first | refine step_t trivial ?_ | refine step_t (by omega) ?_ | refine step_f (by omega) ?_)
    refine step_c (e41) ?_
    try dsimp only
    (try simp (disch := omega) only [wr_id2])
    repeat (first | refine step_t trivial ?_ | refine step_t (by omega) ?_ | refine step_f (by omega) ?_)
    refine step_i (fun q => ?_) (fun q => ?_)
    · rw [if_pos q, sg_77_26]
      (try simp (disch := omega) only [wr_id2])
      repeat (first | refine step_t trivial ?_ | refine step_t (by omega) ?_ | refine step_f (by omega) ?_)
      refine step_c (s78 (d := d) (by omega) g3 hw) ?_
      try dsimp only
    · rw [if_neg q]
      repeat (first | refine step_t trivial ?_ | refine step_t (by omega) ?_ | refine step_f (by omega) ?_)
      refine step_c (e30) ?_
      try dsimp only
      rw [wr_b2i]
      by_cases z : 0 ≤ x ∧ x < lN0 L
      · rw [decide_eq_true z, if_pos z]
        refine step_t (show b2i true ≠ 0 by decide) ?_
        rw [sg_77_26]
        (try simp (disch := omega) only [wr_id2])
        repeat (first | refine step_t trivial ?_ | refine step_t (by omega) ?_ | refine step_f (by omega) ?_)
        have e9 := (s79 (d := d) (by omega) g3 hw (x := x.toNat) (by omega)).1
        rw [show ((x.toNat : Nat) : Int) = x by omega] at e9
        refine step_c (e9) ?_
        try dsimp only
      · rw [decide_eq_false z, if_neg z]
        refine step_f (show ¬ (b2i false ≠ 0) by decide) ?_
        rfl
/-- run, parts -/
def bvQ (f : LB → Nat → Nat → Nat) (x v : Int) (L : LB) : Int := if 0 ≤ x ∧ x < lN0 L then (if 0 ≤ v ∧ v ≤ 1 then (f L x.toNat v.toNat : Nat) else -2) else -2
theorem c81 (S : AS) {s x v : Int} (hs : i32 s) (hx : i32 x) (hv : i32 v) : cOp 81 [vI s, vI x, vI v] S (qA S s (bvQ rnN x v), S) := by
  intro d σ h hy ht hc
  obtain ⟨d, rfl⟩ := ob1 (show 1 ≤ d by omega)
  have y1 := hy.1
  have a1 := y32_m1 hy
  have a5 := y32_5 hy
  have b84 := y84_m1 hy
  have e41 := s41 (d := d) (by omega) hy hc hs
  unfold qA
  cases e : gl S s with
  | none =>
    rw [lbA_n e] at e41
    refine ⟨σ, ?_, FC.rf hy, hc⟩
    rw [ce_81, sg_81_0]
    repeat (first | refine step_t trivial ?_ | refine step_t (by omega) ?_ | refine step_f (by omega) ?_)
    refine step_c (e41) ?_
    try dsimp only
    repeat (first | refine step_t trivial ?_ | refine step_t (by omega) ?_ | refine step_f (by omega) ?_)
    rfl
  | some L =>
    rw [lbA_s e] at e41
    obtain ⟨g1, g2, g3, g4, g5⟩ := hc.got e
    have hw := g4.1
    obtain ⟨⟨m1, m2, m3, m4, m5, m6, m7, m8, m9⟩, f3, f4, f5, f6, fs, fw⟩ := id g3
    have hl := wf_len hw
    have h9 := hw.1
    have hsh := shN_le L
    dsimp only
    have e30 := s30' (d := d) (by omega) g3 hw hx
    have e82 := s82 (d := d) (by omega) σ hv
    unfold bvQ
    refine ⟨σ, ?_, FC.rf hy, hc⟩
    rw [ce_81, sg_81_0]
    repeat (first | refine step_t trivial ?_ | refine step_t (by omega) ?_ | refine step_f (by omega) ?_)
    refine step_c (e41) ?_
    try dsimp only
    repeat (first | refine step_t trivial ?_ | refine step_t (by omega) ?_ | refine step_f (by omega) ?_)
    refine step_c (e30) ?_
    try dsimp only
    rw [wr_b2i]
    by_cases z : 0 ≤ x ∧ x < lN0 L
    · rw [decide_eq_true z, if_pos z]
      refine step_f (show ¬ (b2i true = 0) by decide) ?_
      refine step_c (e82) ?_
      try dsimp only
      rw [wr_b2i]
      by_cases z2 : 0 ≤ v ∧ v ≤ 1
      · rw [decide_eq_true z2, if_pos z2]
        refine step_t (show b2i true ≠ 0 by decide) ?_
        repeat (first | refine step_t trivial ?_ | refine step_t (by omega) ?_ | refine step_f (by omega) ?_)
        have e9 := s83 (d := d) (by omega) g3 hw (x := x.toNat) (v := v.toNat) (by omega) (by omega)
        rw [show ((x.toNat : Nat) : Int) = x by omega, show ((v.toNat : Nat) : Int) = v by omega] at e9
        refine step_c (e9) ?_
        try dsimp only
      · rw [decide_eq_false z2, if_neg z2]
        refine step_f (show ¬ (b2i false ≠ 0) by decide) ?_
        rfl
    · rw [decide_eq_false z, if_neg z]
      refine step_t (show b2i false = 0 by decide) ?_
      rfl
theorem c84 (S : AS) {s x v : Int} (hs : i32 s) (hx : i32 x) (hv : i32 v) : cOp 84 [vI s, vI x, vI v] S (qA S s (bvQ rowN x v), S) := by
  intro d σ h hy ht hc
  obtain ⟨d, rfl⟩ := ob1 (show 1 ≤ d by omega)
  have y1 := hy.1
  have a1 := y32_m1 hy
  have a5 := y32_5 hy
  have b84 := y84_m1 hy
  have e41 := s41 (d := d) (by omega) hy hc hs
  unfold qA
  cases e : gl S s with
  | none =>
    rw [lbA_n e] at e41
    refine ⟨σ, ?_, FC.rf hy, hc⟩
    rw [ce_84, sg_84_0]
    repeat (first | refine step_t trivial ?_ | refine step_t (by omega) ?_ | refine step_f (by omega) ?_)
    refine step_c (e41) ?_
    try dsimp only
    repeat (first | refine step_t trivial ?_ | refine step_t (by omega) ?_ | refine step_f (by omega) ?_)
    rfl
  | some L =>
    rw [lbA_s e] at e41
    obtain ⟨g1, g2, g3, g4, g5⟩ := hc.got e
    have hw := g4.1
    obtain ⟨⟨m1, m2, m3, m4, m5, m6, m7, m8, m9⟩, f3, f4, f5, f6, fs, fw⟩ := id g3
    have hl := wf_len hw
    have h9 := hw.1
    have hsh := shN_le L
    dsimp only
    have e30 := s30' (d := d) (by omega) g3 hw hx
    have e82 := s82 (d := d) (by omega) σ hv
    unfold bvQ
    refine ⟨σ, ?_, FC.rf hy, hc⟩
    rw [ce_84, sg_84_0]
    repeat (first | refine step_t trivial ?_ | refine step_t (by omega) ?_ | refine step_f (by omega) ?_)
    refine step_c (e41) ?_
    try dsimp only
    repeat (first | refine step_t trivial ?_ | refine step_t (by omega) ?_ | refine step_f (by omega) ?_)
    refine step_c (e30) ?_
    try dsimp only
    rw [wr_b2i]
    by_cases z : 0 ≤ x ∧ x < lN0 L
    · rw [decide_eq_true z, if_pos z]
      refine step_f (show ¬ (b2i true = 0) by decide) ?_
      refine step_c (e82) ?_
      try dsimp only
      rw [wr_b2i]
      by_cases z2 : 0 ≤ v ∧ v ≤ 1
      · rw [decide_eq_true z2, if_pos z2]
        refine step_t (show b2i true ≠ 0 by decide) ?_
        repeat (first | refine step_t trivial ?_ | refine step_t (by omega) ?_ | refine step_f (by omega) ?_)
        have e9 := s85 (d := d) (by omega) g3 hw (x := x.toNat) (v := v.toNat) (by omega) (by omega)
        rw [show ((x.toNat : Nat) : Int) = x by omega, show ((v.toNat : Nat) : Int) = v by omega] at e9
        refine step_c (e9) ?_
        try dsimp only
      · rw [decide_eq_false z2, if_neg z2]
        refine step_f (show ¬ (b2i false ≠ 0) by decide) ?_
        rfl
    · rw [decide_eq_false z, if_neg z]
      refine step_t (show b2i false = 0 by decide) ?_
      rfl
/-- level -/
def lvlQ (l z : Int) (L : LB) : Int := if 0 ≤ l ∧ l ≤ lN0 L then (if 0 ≤ z ∧ z ≤ 1 then plvF L l (decide (z = 1)) (shN L) 0 (-1) else -2) else -2
theorem c86 (S : AS) {s l v : Int} (hs : i32 s) (hx : i32 l) (hv : i32 v) : cOp 86 [vI s, vI l, vI v] S (qA S s (lvlQ l v), S) := by
  intro d σ h hy ht hc
  obtain ⟨d, rfl⟩ := ob1 (show 1 ≤ d by omega)
  have y1 := hy.1
  have a1 := y32_m1 hy
  have a5 := y32_5 hy
  have b84 := y84_m1 hy
  have e41 := s41 (d := d) (by omega) hy hc hs
  unfold qA
  cases e : gl S s with
  | none =>
    rw [lbA_n e] at e41
    refine ⟨σ, ?_, FC.rf hy, hc⟩
    rw [ce_86, sg_86_0]
    repeat (first | refine step_t trivial ?_ | refine step_t (by omega) ?_ | refine step_f (by omega) ?_)
    refine step_c (e41) ?_
    try dsimp only
    repeat (first | refine step_t trivial ?_ | refine step_t (by omega) ?_ | refine step_f (by omega) ?_)
    rfl
  | some L =>
    rw [lbA_s e] at e41
    obtain ⟨g1, g2, g3, g4, g5⟩ := hc.got e
    have hw := g4.1
    obtain ⟨⟨m1, m2, m3, m4, m5, m6, m7, m8, m9⟩, f3, f4, f5, f6, fs, fw⟩ := id g3
    have hl := wf_len hw
    have h9 := hw.1
    have hsh := shN_le L
    dsimp only
    have x1 := hx.1
    have x2 := hx.2
    have v1 := hv.1
    have v2 := hv.2
    have e82 := s82 (d := d) (by omega) σ hv
    unfold lvlQ
    refine ⟨σ, ?_, FC.rf hy, hc⟩
    rw [ce_86, sg_86_0]
    repeat (first | refine step_t trivial ?_ | refine step_t (by omega) ?_ | refine step_f (by omega) ?_)
    refine step_c (e41) ?_
    try dsimp only
    (try simp (disch := omega) only [f3, wr_id2])
    repeat (first | refine step_t trivial ?_ | refine step_t (by omega) ?_ | refine step_f (by omega) ?_)
    refine step_i (fun q => ?_) (fun q => ?_)
    · rw [if_neg (show ¬ (0 ≤ l ∧ l ≤ lN0 L) by omega)]
    · repeat (first | refine step_t trivial ?_ | refine step_t (by omega) ?_ | refine step_f (by omega) ?_)
      refine step_i (fun q2 => ?_) (fun q2 => ?_)
      · rw [if_neg (show ¬ (0 ≤ l ∧ l ≤ lN0 L) by omega)]
      · rw [if_pos (show 0 ≤ l ∧ l ≤ lN0 L by omega)]
        refine step_c (e82) ?_
        try dsimp only
        rw [wr_b2i]
        by_cases z2 : 0 ≤ v ∧ v ≤ 1
        · rw [decide_eq_true z2, if_pos z2]
          refine step_t (show b2i true ≠ 0 by decide) ?_
          (try simp (disch := omega) only [wr_id2])
          refine step_i (fun q3 => ?_) (fun q3 => ?_)
          · rw [decide_eq_false q3, sg_86_48]
            have e9 := s87 (d := d) (by omega) g3 hw hx (z := false)
            repeat (first | refine step_t trivial ?_ | refine step_t (by omega) ?_ | refine step_f (by omega) ?_)
            refine step_c (e9) ?_
            try dsimp only
          · rw [decide_eq_true (show v = 1 by omega), sg_86_48]
            have e9 := s87 (d := d) (by omega) g3 hw hx (z := true)
            repeat (first | refine step_t trivial ?_ | refine step_t (by omega) ?_ | refine step_f (by omega) ?_)
            refine step_c (e9) ?_
            try dsimp only
        · rw [decide_eq_false z2, if_neg z2]
          refine step_f (show ¬ (b2i false ≠ 0) by decide) ?_
          rfl
/-- shift -/
def shfQ (x : Int) (L : LB) : Int := if 0 ≤ x ∧ x < lN0 L then shfN L x.toNat else -2
theorem c89 (S : AS) {s x : Int} (hs : i32 s) (hx : i32 x) : cOp 89 [vI s, vI x] S (qA S s (shfQ x), S) := by
  intro d σ h hy ht hc
  obtain ⟨d, rfl⟩ := ob1 (show 1 ≤ d by omega)
  have y1 := hy.1
  have a1 := y32_m1 hy
  have a5 := y32_5 hy
  have b84 := y84_m1 hy
  have e41 := s41 (d := d) (by omega) hy hc hs
  unfold qA
  cases e : gl S s with
  | none =>
    rw [lbA_n e] at e41
    refine ⟨σ, ?_, FC.rf hy, hc⟩
    rw [ce_89, sg_89_0]
    repeat (first | refine step_t trivial ?_ | refine step_t (by omega) ?_ | refine step_f (by omega) ?_)
    refine step_c (e41) ?_
    try dsimp only
    repeat (first | refine step_t trivial ?_ | refine step_t (by omega) ?_ | refine step_f (by omega) ?_)
    rfl
  | some L =>
    rw [lbA_s e] at e41
    obtain ⟨g1, g2, g3, g4, g5⟩ := hc.got e
    have hw := g4.1
    obtain ⟨⟨m1, m2, m3, m4, m5, m6, m7, m8, m9⟩, f3, f4, f5, f6, fs, fw⟩ := id g3
    have hl := wf_len hw
    have h9 := hw.1
    have hsh := shN_le L
    dsimp only
    have e30 := s30' (d := d) (by omega) g3 hw hx
    unfold shfQ
    refine ⟨σ, ?_, FC.rf hy, hc⟩
    rw [ce_89, sg_89_0]
    repeat (first | refine step_t trivial ?_ | refine step_t (by omega) ?_ | refine step_f (by omega) ?_)
    refine step_c (e41) ?_
    try dsimp only
    repeat (first | refine step_t trivial ?_ | refine step_t (by omega) ?_ | refine step_f (by omega) ?_)
    refine step_c (e30) ?_
    try dsimp only
    rw [wr_b2i]
    by_cases z : 0 ≤ x ∧ x < lN0 L
    · rw [decide_eq_true z, if_pos z]
      refine step_t (show b2i true ≠ 0 by decide) ?_
      repeat (first | refine step_t trivial ?_ | refine step_t (by omega) ?_ | refine step_f (by omega) ?_)
      have e9 := s62 (d := d) (by omega) g3 hw (x := x.toNat) (by omega)
      rw [show ((x.toNat : Nat) : Int) = x by omega] at e9
      refine step_c (e9) ?_
      try dsimp only
    · rw [decide_eq_false z, if_neg z]
      refine step_f (show ¬ (b2i false ≠ 0) by decide) ?_
      rfl
/-- apart -/
def aptQ (x y : Int) (L : LB) : Int := if 0 ≤ x ∧ x ≤ (lT L).length then (if 0 ≤ y ∧ y ≤ (lT L).length then (pop (wd L x.toNat ^^^ wd L y.toNat) : Nat) else -2) else -2
theorem c90 (S : AS) {s x y : Int} (hs : i32 s) (hx : i32 x) (hv : i32 y) : cOp 90 [vI s, vI x, vI y] S (qA S s (aptQ x y), S) := by
  intro d σ h hy ht hc
  obtain ⟨d, rfl⟩ := ob1 (show 1 ≤ d by omega)
  have y1 := hy.1
  have a1 := y32_m1 hy
  have a5 := y32_5 hy
  have b84 := y84_m1 hy
  have e41 := s41 (d := d) (by omega) hy hc hs
  unfold qA
  cases e : gl S s with
  | none =>
    rw [lbA_n e] at e41
    refine ⟨σ, ?_, FC.rf hy, hc⟩
    rw [ce_90, sg_90_0]
    repeat (first | refine step_t trivial ?_ | refine step_t (by omega) ?_ | refine step_f (by omega) ?_)
    refine step_c (e41) ?_
    try dsimp only
    repeat (first | refine step_t trivial ?_ | refine step_t (by omega) ?_ | refine step_f (by omega) ?_)
    rfl
  | some L =>
    rw [lbA_s e] at e41
    obtain ⟨g1, g2, g3, g4, g5⟩ := hc.got e
    have hw := g4.1
    obtain ⟨⟨m1, m2, m3, m4, m5, m6, m7, m8, m9⟩, f3, f4, f5, f6, fs, fw⟩ := id g3
    have hl := wf_len hw
    have h9 := hw.1
    have hsh := shN_le L
    dsimp only
    have x1 := hx.1
    have x2 := hx.2
    have v1 := hv.1
    have v2 := hv.2
    have e91 := s91' (d := d) (by omega) g3 hw hx
    have e92 := s91' (d := d) (by omega) g3 hw hv
    unfold aptQ
    refine ⟨σ, ?_, FC.rf hy, hc⟩
    rw [ce_90, sg_90_0]
    repeat (first | refine step_t trivial ?_ | refine step_t (by omega) ?_ | refine step_f (by omega) ?_)
    refine step_c (e41) ?_
    try dsimp only
    repeat (first | refine step_t trivial ?_ | refine step_t (by omega) ?_ | refine step_f (by omega) ?_)
    refine step_c (e91) ?_
    try dsimp only
    rw [wr_b2i]
    by_cases z : 0 ≤ x ∧ x ≤ (lT L).length
    · rw [decide_eq_true z, if_pos z]
      refine step_f (show ¬ (b2i true = 0) by decide) ?_
      repeat (first | refine step_t trivial ?_ | refine step_t (by omega) ?_ | refine step_f (by omega) ?_)
      refine step_c (e92) ?_
      try dsimp only
      rw [wr_b2i]
      by_cases z2 : 0 ≤ y ∧ y ≤ (lT L).length
      · rw [decide_eq_true z2, if_pos z2]
        refine step_t (show b2i true ≠ 0 by decide) ?_
        have q1 := wd_256 hw x.toNat
        have q2 := wd_256 hw y.toNat
        have w1 := fw x.toNat (by omega)
        have w2 := fw y.toNat (by omega)
        rw [show ((x.toNat : Nat) : Int) = x by omega] at w1
        rw [show ((y.toNat : Nat) : Int) = y by omega] at w2
        (try simp (disch := omega) only [m5, w1, w2, i_xor_n (a := wd L x.toNat) (b := wd L y.toNat) (by omega) (by omega), wr_id2])
        repeat (first | refine step_t trivial ?_ | refine step_t (by omega) ?_ | refine step_f (by omega) ?_)
        refine step_c (s50 (by omega) σ (xor_256 q1 q2)) ?_
        try dsimp only
      · rw [decide_eq_false z2, if_neg z2]
        refine step_f (show ¬ (b2i false ≠ 0) by decide) ?_
        rfl
    · rw [decide_eq_false z, if_neg z]
      refine step_t (show b2i false = 0 by decide) ?_
      rfl
/-- spread -/
theorem c92 (S : AS) {s : Int} (hs : i32 s) : cOp 92 [vI s] S (qA S s spdN, S) := by
  intro d σ h hy ht hc
  obtain ⟨d, rfl⟩ := ob1 (show 1 ≤ d by omega)
  have y1 := hy.1
  have a1 := y32_m1 hy
  have a5 := y32_5 hy
  have b84 := y84_m1 hy
  have e41 := s41 (d := d) (by omega) hy hc hs
  unfold qA
  cases e : gl S s with
  | none =>
    rw [lbA_n e] at e41
    refine ⟨σ, ?_, FC.rf hy, hc⟩
    rw [ce_92, sg_92_0]
    repeat (first | refine step_t trivial ?_ | refine step_t (by omega) ?_ | refine step_f (by omega) ?_)
    refine step_c (e41) ?_
    try dsimp only
    repeat (first | refine step_t trivial ?_ | refine step_t (by omega) ?_ | refine step_f (by omega) ?_)
    rfl
  | some L =>
    rw [lbA_s e] at e41
    obtain ⟨g1, g2, g3, g4, g5⟩ := hc.got e
    have hw := g4.1
    obtain ⟨⟨m1, m2, m3, m4, m5, m6, m7, m8, m9⟩, f3, f4, f5, f6, fs, fw⟩ := id g3
    have hl := wf_len hw
    have h9 := hw.1
    have hsh := shN_le L
    dsimp only
    obtain ⟨σ1, k1, k2⟩ := s93 (d := d) (by omega) hy g3 hw (by omega)
    refine ⟨σ1, ?_, k2.fc, k2.cr hc⟩
    rw [ce_92, sg_92_0]
    repeat (first | refine step_t trivial ?_ | refine step_t (by omega) ?_ | refine step_f (by omega) ?_)
    refine step_c (e41) ?_
    try dsimp only
    (try simp (disch := omega) only [a5, wr_id2])
    repeat (first | refine step_t trivial ?_ | refine step_t (by omega) ?_ | refine step_f (by omega) ?_)
    refine step_c (k1) ?_
    try dsimp only
/-- climbs -/
def clbQ (l v : Int) (L : LB) : Int := if 0 ≤ l ∧ l < lN0 L then (if 0 ≤ v ∧ v ≤ 1 then (cntB (clbB L (if v = 1 then l else l + 1) (if v = 1 then l + 1 else l)) (lT L).length : Nat) else -2) else -2
theorem c96 (S : AS) {s l v : Int} (hs : i32 s) (hx : i32 l) (hv : i32 v) : cOp 96 [vI s, vI l, vI v] S (qA S s (clbQ l v), S) := by
  intro d σ h hy ht hc
  obtain ⟨d, rfl⟩ := ob1 (show 1 ≤ d by omega)
  have y1 := hy.1
  have a1 := y32_m1 hy
  have a5 := y32_5 hy
  have b84 := y84_m1 hy
  have e41 := s41 (d := d) (by omega) hy hc hs
  unfold qA
  cases e : gl S s with
  | none =>
    rw [lbA_n e] at e41
    refine ⟨σ, ?_, FC.rf hy, hc⟩
    rw [ce_96, sg_96_0]
    repeat (first | refine step_t trivial ?_ | refine step_t (by omega) ?_ | refine step_f (by omega) ?_)
    refine step_c (e41) ?_
    try dsimp only
    repeat (first | refine step_t trivial ?_ | refine step_t (by omega) ?_ | refine step_f (by omega) ?_)
    rfl
  | some L =>
    rw [lbA_s e] at e41
    obtain ⟨g1, g2, g3, g4, g5⟩ := hc.got e
    have hw := g4.1
    obtain ⟨⟨m1, m2, m3, m4, m5, m6, m7, m8, m9⟩, f3, f4, f5, f6, fs, fw⟩ := id g3
    have hl := wf_len hw
    have h9 := hw.1
    have hsh := shN_le L
    dsimp only
    have x1 := hx.1
    have x2 := hx.2
    have v1 := hv.1
    have v2 := hv.2
    have e82 := s82 (d := d) (by omega) σ hv
    unfold clbQ
    refine ⟨σ, ?_, FC.rf hy, hc⟩
    rw [ce_96, sg_96_0]
    repeat (first | refine step_t trivial ?_ | refine step_t (by omega) ?_ | refine step_f (by omega) ?_)
    refine step_c (e41) ?_
    try dsimp only
    (try simp (disch := omega) only [f3, wr_id2])
    repeat (first | refine step_t trivial ?_ | refine step_t (by omega) ?_ | refine step_f (by omega) ?_)
    refine step_i (fun q => ?_) (fun q => ?_)
    · rw [if_neg (show ¬ (0 ≤ l ∧ l < lN0 L) by omega)]
    · repeat (first | refine step_t trivial ?_ | refine step_t (by omega) ?_ | refine step_f (by omega) ?_)
      refine step_i (fun q2 => ?_) (fun q2 => ?_)
      · rw [if_neg (show ¬ (0 ≤ l ∧ l < lN0 L) by omega)]
      · rw [if_pos (show 0 ≤ l ∧ l < lN0 L by omega)]
        refine step_c (e82) ?_
        try dsimp only
        rw [wr_b2i]
        by_cases z2 : 0 ≤ v ∧ v ≤ 1
        · rw [decide_eq_true z2, if_pos z2]
          refine step_t (show b2i true ≠ 0 by decide) ?_
          (try simp (disch := omega) only [wr_id2])
          refine step_i (fun q3 => ?_) (fun q3 => ?_)
          · rw [if_neg q3, if_neg q3, sg_96_49]
            (try simp (disch := omega) only [wr_id2])
            repeat (first | refine step_t trivial ?_ | refine step_t (by omega) ?_ | refine step_f (by omega) ?_)
            rw [sg_96_61]
            refine step_c (s97 (d := d) (by omega) g3 hw ⟨by omega, by omega⟩ hx) ?_
            try dsimp only
          · rw [if_pos (show v = 1 by omega), if_pos (show v = 1 by omega), sg_96_49]
            (try simp (disch := omega) only [wr_id2])
            repeat (first | refine step_t trivial ?_ | refine step_t (by omega) ?_ | refine step_f (by omega) ?_)
            rw [sg_96_61]
            refine step_c (s97 (d := d) (by omega) g3 hw hx ⟨by omega, by omega⟩) ?_
            try dsimp only
        · rw [decide_eq_false z2, if_neg z2]
          refine step_f (show ¬ (b2i false ≠ 0) by decide) ?_
          rfl
/-- open -/
def opnQ (L : LB) : Int := (opnF L (lN0 L) 0 0 : Nat)
theorem c124 (S : AS) {s : Int} (hs : i32 s) : cOp 124 [vI s] S (qA S s opnQ, S) := by
  intro d σ h hy ht hc
  obtain ⟨d, rfl⟩ := ob1 (show 1 ≤ d by omega)
  have y1 := hy.1
  have a1 := y32_m1 hy
  have a5 := y32_5 hy
  have b84 := y84_m1 hy
  have e41 := s41 (d := d) (by omega) hy hc hs
  unfold qA
  cases e : gl S s with
  | none =>
    rw [lbA_n e] at e41
    refine ⟨σ, ?_, FC.rf hy, hc⟩
    rw [ce_124, sg_124_0]
    repeat (first | refine step_t trivial ?_ | refine step_t (by omega) ?_ | refine step_f (by omega) ?_)
    refine step_c (e41) ?_
    try dsimp only
    repeat (first | refine step_t trivial ?_ | refine step_t (by omega) ?_ | refine step_f (by omega) ?_)
    rfl
  | some L =>
    rw [lbA_s e] at e41
    obtain ⟨g1, g2, g3, g4, g5⟩ := hc.got e
    have hw := g4.1
    obtain ⟨⟨m1, m2, m3, m4, m5, m6, m7, m8, m9⟩, f3, f4, f5, f6, fs, fw⟩ := id g3
    have hl := wf_len hw
    have h9 := hw.1
    have hsh := shN_le L
    dsimp only
    obtain ⟨σ1, k1, k2⟩ := s125 (d := d) (by omega) hy g3 hw (by omega)
    refine ⟨σ1, ?_, k2.fc, k2.cr hc⟩
    rw [ce_124, sg_124_0]
    repeat (first | refine step_t trivial ?_ | refine step_t (by omega) ?_ | refine step_f (by omega) ?_)
    refine step_c (e41) ?_
    try dsimp only
    (try simp (disch := omega) only [a5, wr_id2])
    repeat (first | refine step_t trivial ?_ | refine step_t (by omega) ?_ | refine step_f (by omega) ?_)
    refine step_c (k1) ?_
    try dsimp only
    rfl
/-- twistable -/
def twQ (L : LB) : Int := (twO L (lT L).length 0 0 : Nat)
theorem c148 (S : AS) {s : Int} (hs : i32 s) : cOp 148 [vI s] S (qA S s twQ, S) := by
  intro d σ h hy ht hc
  obtain ⟨d, rfl⟩ := ob1 (show 1 ≤ d by omega)
  have y1 := hy.1
  have a1 := y32_m1 hy
  have a5 := y32_5 hy
  have b84 := y84_m1 hy
  have e41 := s41 (d := d) (by omega) hy hc hs
  unfold qA
  cases e : gl S s with
  | none =>
    rw [lbA_n e] at e41
    refine ⟨σ, ?_, FC.rf hy, hc⟩
    rw [ce_148, sg_148_0]
    repeat (first | refine step_t trivial ?_ | refine step_t (by omega) ?_ | refine step_f (by omega) ?_)
    refine step_c (e41) ?_
    try dsimp only
    repeat (first | refine step_t trivial ?_ | refine step_t (by omega) ?_ | refine step_f (by omega) ?_)
    rfl
  | some L =>
    rw [lbA_s e] at e41
    obtain ⟨g1, g2, g3, g4, g5⟩ := hc.got e
    have hw := g4.1
    obtain ⟨⟨m1, m2, m3, m4, m5, m6, m7, m8, m9⟩, f3, f4, f5, f6, fs, fw⟩ := id g3
    have hl := wf_len hw
    have h9 := hw.1
    have hsh := shN_le L
    dsimp only
    refine ⟨σ, ?_, FC.rf hy, hc⟩
    rw [ce_148, sg_148_0]
    repeat (first | refine step_t trivial ?_ | refine step_t (by omega) ?_ | refine step_f (by omega) ?_)
    refine step_c (e41) ?_
    try dsimp only
    repeat (first | refine step_t trivial ?_ | refine step_t (by omega) ?_ | refine step_f (by omega) ?_)
    refine step_c (s149 (d := d) (by omega) g3 hw) ?_
    try dsimp only
    rfl
/-- code -/
def codA (x : Int) : Int := if 0 ≤ x then i_xor x (i_shr x 1) else -2
theorem c98 (S : AS) {x : Int} (hx : i32 x) : cOp 98 [vI x] S (codA x, S) := by
  intro d σ h hy ht hc
  obtain ⟨d, rfl⟩ := ob1 (show 1 ≤ d by omega)
  have x1 := hx.1
  have x2 := hx.2
  refine ⟨σ, ?_, FC.rf hy, hc⟩
  unfold codA
  rw [ce_98, sg_98_0]
  (try simp (disch := omega) only [wr_id2])
  refine step_i (fun q => ?_) (fun q => ?_)
  · rw [if_pos q]
  · rw [if_neg q]
