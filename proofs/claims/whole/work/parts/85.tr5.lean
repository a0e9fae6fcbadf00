/-! TRACKS: the reference's search -/
def RT (σ0 : HP) (L : LB) (p T : Nat) (l : List Nat) (σ' : HP) (R : SQ) : Prop := FQ σ0 σ' ∧ ((R.1 = 1 ∧ (∀ i x : Nat, R.2.1[i]? = some x → σ' 105 i = x) ∧ wf0 (pth L R.2.1) ∧ R.2.1.length = p) ∨ R.1 = -3 ∨ (R.1 = 0 ∧ MRS σ0 σ' (pth L l) (inT L l) R.2.2 ∧ R.2.2 ≤ T))
theorem s265 {σ0 : HP} {L : LB} (h1 : 1 ≤ lN0 L) {g p T : Nat} (hg : g < 2 ^ lN0 L) (hT : T ≤ 50000) (hp : p ≤ 256) : ∀ (m : Nat) (d : Nat) (l : List Nat) (t : Nat) (σ : HP), m + 20 ≤ d → m + l.length = p → MRS σ0 σ (pth L l) (inT L l) t ∨ (m = 0 ∧ ∃ gn, MRS σ0 σ (pth L l) gn t) → t ≤ T → ∃ σ', clR PG0 MX d 265 [vR 101, vI (lN0 L : Nat), vI l.length, vI p, vI g, vI T] σ = some ((sch (frT L g p) some (lN0 L) T m l t).1, σ') ∧ RT σ0 L p T l σ' (sch (frT L g p) some (lN0 L) T m l t) := by
  intro m
  induction m with
  | zero =>
    intro d l t σ h hm hM ht
    obtain ⟨d, rfl⟩ := ob1 (show 1 ≤ d by omega)
    obtain ⟨gn, hM⟩ : ∃ gn, MRS σ0 σ (pth L l) gn t := by
      rcases hM with q | ⟨-, q⟩
      · exact ⟨_, q⟩
      · exact q
    refine ⟨σ, ?_, hM.1, Or.inl ⟨rfl, hM.2.2.2.2.1, hM.2.1, by show l.length = p; omega⟩⟩
    rw [ce_265, sg_265_0]
    (try simp (disch := omega) only [wr_id2])
    repeat (first | ((with_reducible refine step_t ?_ ?_); with_reducible exact True.intro) | ((with_reducible refine step_t ?_ ?_); omega) | ((with_reducible refine step_f ?_ ?_); omega))
    rfl
  | succ m ih =>
    intro d l t σ h hm hM ht
    obtain ⟨d, rfl⟩ := ob1 (show 1 ≤ d by omega)
    have hM : MRS σ0 σ (pth L l) (inT L l) t := by
      rcases hM with q | ⟨q, -⟩
      · exact q
      · cases q
    have inner : ∀ (q k t : Nat) (σ : HP) (u7 u8 u9 : MV), k + q = lN0 L → MRS σ0 σ (pth L l) (inT L l) t → t ≤ T → ∃ σ', rsP PG0 MX d 265 10 [vR 101, vI (lN0 L : Nat), vI l.length, vI p, vI g, vI T, vI k, u7, u8, u9] [] σ = some ((scB (frT L g p) (sch (frT L g p) some (lN0 L) T m) T l q k t).1, σ') ∧ RT σ0 L p T l σ' (scB (frT L g p) (sch (frT L g p) some (lN0 L) T m) T l q k t) := by
      intro q
      induction q with
      | zero =>
        intro k t σ u7 u8 u9 hk hM ht
        have h9 : lN0 L ≤ 8 := hM.2.1.1
        refine ⟨σ, ?_, hM.1, Or.inr (Or.inr ⟨rfl, hM, ht⟩)⟩
        rw [sg_265_10]
        (try simp (disch := omega) only [wr_id2])
        repeat (first | ((with_reducible refine step_t ?_ ?_); with_reducible exact True.intro) | ((with_reducible refine step_t ?_ ?_); omega) | ((with_reducible refine step_f ?_ ?_); omega))
        rfl
      | succ q ihq =>
        intro k t σ u7 u8 u9 hk hM ht
        have hw := hM.2.1
        have h9 : lN0 L ≤ 8 := hw.1
        have hp8 := pow8 h9
        have hF := hM.1
        have hy := hF.2
        have y1 := hy.1; have k101 := y101_m1 hy; have p105 := y101_4 hy; have k105 := y105_m1 hy; have l105 := y105_m2 hy; have p109 := y101_19 hy; have k109 := y109_m1 hy; have l109 := y109_m2 hy; have p110 := y101_20 hy; have k110 := y110_m1 hy; have l110 := y110_m2 hy
        have q1 : wd (pth L l) l.length < 2 ^ lN0 L := wd_lt hw l.length
        have hk2 : 2 ^ k < 2 ^ lN0 L := Nat.pow_lt_pow_right (by omega) (by omega)
        have vb : wd (pth L l) l.length ^^^ 2 ^ k < 2 ^ lN0 L := Nat.xor_lt_two_pow q1 hk2
        have e110 : σ 110 (l.length : Nat) = (wd (pth L l) l.length : Nat) := hM.2.2.2.1 l.length (Nat.le_refl _)
        have ex : i_xor ((wd (pth L l) l.length : Nat) : Int) (i_shl 1 (k : Int)) = ((wd (pth L l) l.length ^^^ 2 ^ k : Nat) : Int) := by rw [shl1 (by omega)]; exact i_xor_n (by omega) (by omega)
        have e109 := hM.2.2.1 (wd (pth L l) l.length ^^^ 2 ^ k) (by omega)
        have e262 := s262 (d := d) (by omega) hy h1 h9 vb
        have e21 : σ 101 21 = t := hM.2.2.2.2.2
        have Mp := hM.push (k := k) (by omega) (by omega)
        have nxt := fun t1 σ1 hM1 ht1 => ihq (k + 1) t1 σ1 vU vU vU (by omega) hM1 ht1
        have rr := fun (σ1 : HP) (hM1 : MRS σ0 σ1 (pth L (l ++ [k])) (inT L (l ++ [k])) (t + 1) ∨ (m = 0 ∧ ∃ gn, MRS σ0 σ1 (pth L (l ++ [k])) gn (t + 1))) (hlt : t + 1 ≤ T) => ih d (l ++ [k]) (t + 1) σ1 (by omega) (by rw [len_a]; omega) hM1 hlt
        have gin := fun u => inT_a (L := L) (l := l) (k := k) (v := u)
        have gout : inT L l (wd (pth L l) l.length ^^^ 2 ^ k) = false → ∀ u, inT L l u = if inC (lN0 L) (wd (pth L l) l.length ^^^ 2 ^ k) u = true then false else inT L (l ++ [k]) u := fun hf u => by
          by_cases z : inC (lN0 L) (wd (pth L l) l.length ^^^ 2 ^ k) u = true
          · rw [if_pos z]; exact inT_b hw (by omega) hf z
          · rw [if_neg z, inT_a, if_neg z]
        have es : scB (frT L g p) (sch (frT L g p) some (lN0 L) T m) T l (q + 1) k t = if frT L g p l k = true then (if t = T then (-3, [], t) else if (sch (frT L g p) some (lN0 L) T m (l ++ [k]) (t + 1)).1 = 0 then scB (frT L g p) (sch (frT L g p) some (lN0 L) T m) T l q (k + 1) (sch (frT L g p) some (lN0 L) T m (l ++ [k]) (t + 1)).2.2 else sch (frT L g p) some (lN0 L) T m (l ++ [k]) (t + 1)) else scB (frT L g p) (sch (frT L g p) some (lN0 L) T m) T l q (k + 1) t := rfl
        have ef : frT L g p l k = if l.length + 1 = p then decide (wd (pth L l) l.length ^^^ 2 ^ k = g) else !(rnd (lN0 L) (wd (pth L l) l.length ^^^ 2 ^ k) || inT L l (wd (pth L l) l.length ^^^ 2 ^ k)) := rfl
        have sch0 : m = 0 → (sch (frT L g p) some (lN0 L) T m (l ++ [k]) (t + 1)).1 = 1 := fun e => by subst e; rfl
        clear ih ihq
        generalize hvv : wd (pth L l) l.length ^^^ 2 ^ k = v at *
        have skp : ∀ y0 : Int, frT L g p l k = false → rsP PG0 MX d 265 41 [vR 101, vI (lN0 L : Nat), vI l.length, vI p, vI g, vI T, vI k, vI (v : Int), vU, vU] [vI y0] σ = rsP PG0 MX d 265 10 [vR 101, vI (lN0 L : Nat), vI l.length, vI p, vI g, vI T, vI ((k : Int) + 1), vU, vU, vU] [] σ → ∃ σ', rsP PG0 MX d 265 41 [vR 101, vI (lN0 L : Nat), vI l.length, vI p, vI g, vI T, vI k, vI (v : Int), vU, vU] [vI y0] σ = some ((scB (frT L g p) (sch (frT L g p) some (lN0 L) T m) T l (q + 1) k t).1, σ') ∧ RT σ0 L p T l σ' (scB (frT L g p) (sch (frT L g p) some (lN0 L) T m) T l (q + 1) k t) := fun y0 q1 q2 => by
          rw [es, if_neg (by rw [q1]; decide)]
          obtain ⟨σ', j1, j2⟩ := nxt t σ hM ht
          exact ⟨σ', q2.trans j1, j2⟩
        have hF1 : FQ σ0 (up σ 101 21 ((t : Int) + 1)) := hF.upf (by omega) okf_21
        have hF2 : FQ σ0 (up (up σ 101 21 ((t : Int) + 1)) 105 (l.length : Nat) k) := hF1.upd (by omega) okr_105 (by omega)
        have hF3 := Mp.1
        have i1 := hF1.2
        have y1a := i1.1; have k101a := y101_m1 i1; have p105a := y101_4 i1; have k105a := y105_m1 i1; have l105a := y105_m2 i1
        have i2 := hF2.2
        have y1b := i2.1; have k101b := y101_m1 i2; have p110b := y101_20 i2; have k110b := y110_m1 i2; have l110b := y110_m2 i2
        have i3 := hF3.2
        have y1c := i3.1; have k101c := y101_m1 i3
        have st81 : ∀ y0 : Int, t ≠ T → rsP PG0 MX d 265 81 [vR 101, vI (lN0 L : Nat), vI l.length, vI p, vI g, vI T, vI k, vI (v : Int), vI y0, vU] [] σ = rsP PG0 MX d 265 121 [vR 101, vI (lN0 L : Nat), vI l.length, vI p, vI g, vI T, vI k, vI (v : Int), vI y0, vU] [] (up (up (up σ 101 21 ((t : Int) + 1)) 105 (l.length : Nat) k) 110 ((l.length : Int) + 1) (v : Int)) := fun y0 zT => by
          rw [sg_265_81]
          (try simp (disch := omega) only [e21, wr_id2])
          repeat (first | ((with_reducible refine step_t ?_ ?_); with_reducible exact True.intro) | ((with_reducible refine step_t ?_ ?_); omega) | ((with_reducible refine step_f ?_ ?_); omega))
          (try simp (disch := omega) only [p105a, wr_id2])
          repeat (first | ((with_reducible refine step_t ?_ ?_); with_reducible exact True.intro) | ((with_reducible refine step_t ?_ ?_); omega) | ((with_reducible refine step_f ?_ ?_); omega))
          (try simp (disch := omega) only [p110b, wr_id2])
          repeat (first | ((with_reducible refine step_t ?_ ?_); with_reducible exact True.intro) | ((with_reducible refine step_t ?_ ?_); omega) | ((with_reducible refine step_f ?_ ?_); omega))
          rfl
        have stT : ∀ y0 : Int, t = T → rsP PG0 MX d 265 81 [vR 101, vI (lN0 L : Nat), vI l.length, vI p, vI g, vI T, vI k, vI (v : Int), vI y0, vU] [] σ = some (-3, σ) := fun y0 zT => by
          rw [sg_265_81]
          (try simp (disch := omega) only [e21, wr_id2])
          repeat (first | ((with_reducible refine step_t ?_ ?_); with_reducible exact True.intro) | ((with_reducible refine step_t ?_ ?_); omega) | ((with_reducible refine step_f ?_ ?_); omega))
          rfl
        by_cases zl : l.length + 1 = p
        · rw [if_pos zl] at ef
          have m0 : m = 0 := by omega
          have st10 : rsP PG0 MX d 265 10 [vR 101, vI (lN0 L : Nat), vI l.length, vI p, vI g, vI T, vI k, u7, u8, u9] [] σ = rsP PG0 MX d 265 41 [vR 101, vI (lN0 L : Nat), vI l.length, vI p, vI g, vI T, vI k, vI (v : Int), vU, vU] [vI 1] σ := by
            rw [sg_265_10]
            (try simp (disch := omega) only [p110, e110, ex, wr_id2])
            repeat (first | ((with_reducible refine step_t ?_ ?_); with_reducible exact True.intro) | ((with_reducible refine step_t ?_ ?_); omega) | ((with_reducible refine step_f ?_ ?_); omega))
            rfl
          rw [st10]
          by_cases zv : v = g
          · rw [decide_eq_true zv] at ef
            have st41 : rsP PG0 MX d 265 41 [vR 101, vI (lN0 L : Nat), vI l.length, vI p, vI g, vI T, vI k, vI (v : Int), vU, vU] [vI 1] σ = rsP PG0 MX d 265 81 [vR 101, vI (lN0 L : Nat), vI l.length, vI p, vI g, vI T, vI k, vI (v : Int), vI 1, vU] [] σ := by
              rw [sg_265_41]
              (try simp (disch := omega) only [wr_id2])
              repeat (first | ((with_reducible refine step_t ?_ ?_); with_reducible exact True.intro) | ((with_reducible refine step_t ?_ ?_); omega) | ((with_reducible refine step_f ?_ ?_); omega))
              rfl
            rw [st41, es, if_pos ef]
            by_cases zT : t = T
            · rw [if_pos zT, stT 1 zT]
              exact ⟨σ, rfl, hF, Or.inr (Or.inl rfl)⟩
            · rw [if_neg zT, st81 1 zT]
              obtain ⟨σ1, j1, j2, j3⟩ := rr _ (Or.inr ⟨m0, _, Mp⟩) (by omega)
              rw [len_a] at j1
              have j1 : clR PG0 MX d 265 [vR 101, vI (lN0 L : Nat), vI ((l.length : Int) + 1), vI p, vI g, vI T] (up (up (up σ 101 21 ((t : Int) + 1)) 105 (l.length : Nat) k) 110 ((l.length : Int) + 1) (v : Int)) = some (_, σ1) := j1
              have e1 := sch0 m0
              have run : rsP PG0 MX d 265 121 [vR 101, vI (lN0 L : Nat), vI l.length, vI p, vI g, vI T, vI k, vI (v : Int), vI 1, vU] [] (up (up (up σ 101 21 ((t : Int) + 1)) 105 (l.length : Nat) k) 110 ((l.length : Int) + 1) (v : Int)) = some ((sch (frT L g p) some (lN0 L) T m (l ++ [k]) (t + 1)).1, σ1) := by
                rw [sg_265_121]
                (try simp (disch := omega) only [wr_id2])
                repeat (first | ((with_reducible refine step_t ?_ ?_); with_reducible exact True.intro) | ((with_reducible refine step_t ?_ ?_); omega) | ((with_reducible refine step_f ?_ ?_); omega))
                rw [sg_265_134]
                repeat (first | ((with_reducible refine step_t ?_ ?_); with_reducible exact True.intro) | ((with_reducible refine step_t ?_ ?_); omega) | ((with_reducible refine step_f ?_ ?_); omega))
                refine step_c (j1) ?_
                try dsimp only
                rw [e1]
                refine step_f (by decide) ?_
                rfl
              rw [if_neg (by omega), run]
              rcases j3 with r1 | r1 | ⟨r1, -⟩
              · exact ⟨σ1, rfl, j2, Or.inl r1⟩
              · omega
              · omega
          · rw [decide_eq_false zv] at ef
            refine skp 1 ef ?_
            rw [sg_265_41]
            (try simp (disch := omega) only [wr_id2])
            repeat (first | ((with_reducible refine step_t ?_ ?_); with_reducible exact True.intro) | ((with_reducible refine step_t ?_ ?_); omega) | ((with_reducible refine step_f ?_ ?_); omega))
            rfl
        · rw [if_neg zl] at ef
          have st10 : rsP PG0 MX d 265 10 [vR 101, vI (lN0 L : Nat), vI l.length, vI p, vI g, vI T, vI k, u7, u8, u9] [] σ = rsP PG0 MX d 265 41 [vR 101, vI (lN0 L : Nat), vI l.length, vI p, vI g, vI T, vI k, vI (v : Int), vU, vU] [vI 0] σ := by
            rw [sg_265_10]
            (try simp (disch := omega) only [p110, e110, ex, wr_id2])
            repeat (first | ((with_reducible refine step_t ?_ ?_); with_reducible exact True.intro) | ((with_reducible refine step_t ?_ ?_); omega) | ((with_reducible refine step_f ?_ ?_); omega))
            rfl
          rw [st10]
          cases zg : inT L l v with
          | true =>
            rw [zg] at e109
            have e109 : σ 109 (v : Int) = 1 := e109
            rw [zg, Bool.or_true] at ef
            refine skp 0 ef ?_
            rw [sg_265_41]
            (try simp (disch := omega) only [p109, e109, wr_id2])
            repeat (first | ((with_reducible refine step_t ?_ ?_); with_reducible exact True.intro) | ((with_reducible refine step_t ?_ ?_); omega) | ((with_reducible refine step_f ?_ ?_); omega))
            rfl
          | false =>
            rw [zg] at e109
            have e109 : σ 109 (v : Int) = 0 := e109
            rw [zg, Bool.or_false] at ef
            cases zr : rnd (lN0 L) v with
            | true =>
              rw [zr] at ef e262
              refine skp 0 ef ?_
              rw [sg_265_41]
              (try simp (disch := omega) only [p109, e109, wr_id2])
              repeat (first | ((with_reducible refine step_t ?_ ?_); with_reducible exact True.intro) | ((with_reducible refine step_t ?_ ?_); omega) | ((with_reducible refine step_f ?_ ?_); omega))
              refine step_c (e262) ?_
              try dsimp only
              rw [wr_b2i]
              refine step_f (show ¬ (b2i true = 0) by decide) ?_
              rfl
            | false =>
              rw [zr] at ef e262
              have ef : frT L g p l k = true := ef
              have st41 : rsP PG0 MX d 265 41 [vR 101, vI (lN0 L : Nat), vI l.length, vI p, vI g, vI T, vI k, vI (v : Int), vU, vU] [vI 0] σ = rsP PG0 MX d 265 81 [vR 101, vI (lN0 L : Nat), vI l.length, vI p, vI g, vI T, vI k, vI (v : Int), vI 0, vU] [] σ := by
                rw [sg_265_41]
                (try simp (disch := omega) only [p109, e109, wr_id2])
                repeat (first | ((with_reducible refine step_t ?_ ?_); with_reducible exact True.intro) | ((with_reducible refine step_t ?_ ?_); omega) | ((with_reducible refine step_f ?_ ?_); omega))
                refine step_c (e262) ?_
                try dsimp only
                rw [wr_b2i]
                refine step_t (show b2i false = 0 by decide) ?_
                rfl
              rw [st41, es, if_pos ef]
              by_cases zT : t = T
              · rw [if_pos zT, stT 0 zT]
                exact ⟨σ, rfl, hF, Or.inr (Or.inl rfl)⟩
              · rw [if_neg zT, st81 0 zT]
                obtain ⟨σ4, k4, F4, a4, g4⟩ := s264 (d := d) (by omega) h9 vb true Mp.1 Mp.2.2.1 gin
                have k4 : clR PG0 MX d 264 [vR 101, vI (lN0 L : Nat), vI (v : Int), vI 1] (up (up (up σ 101 21 ((t : Int) + 1)) 105 (l.length : Nat) k) 110 ((l.length : Int) + 1) (v : Int)) = some (0, σ4) := k4
                have M4 := Mp.gn F4 a4 g4
                have i4 := F4.2
                have y1e := i4.1; have k101e := y101_m1 i4
                obtain ⟨σ1, j1, j2, j3⟩ := rr σ4 (Or.inl M4) (by omega)
                rw [len_a] at j1
                have j1 : clR PG0 MX d 265 [vR 101, vI (lN0 L : Nat), vI ((l.length : Int) + 1), vI p, vI g, vI T] σ4 = some (_, σ1) := j1
                have i5 := j2.2
                have y1f := i5.1; have k101f := y101_m1 i5
                have run : ∀ X, cnd ((sch (frT L g p) some (lN0 L) T m (l ++ [k]) (t + 1)).1 = 0) (bnd (clR PG0 MX d 264 [vR 101, vI (lN0 L : Nat), vI (v : Int), vI 0] σ1) (fun q2 => rsP PG0 MX d 265 10 [vR 101, vI (lN0 L : Nat), vI l.length, vI p, vI g, vI T, vI ((k : Int) + 1), vU, vU, vU] [] q2.2)) (some ((sch (frT L g p) some (lN0 L) T m (l ++ [k]) (t + 1)).1, σ1)) = X → rsP PG0 MX d 265 121 [vR 101, vI (lN0 L : Nat), vI l.length, vI p, vI g, vI T, vI k, vI (v : Int), vI 0, vU] [] (up (up (up σ 101 21 ((t : Int) + 1)) 105 (l.length : Nat) k) 110 ((l.length : Int) + 1) (v : Int)) = X := fun X hX => by
                  rw [← hX, sg_265_121]
                  (try simp (disch := omega) only [wr_id2])
                  repeat (first | ((with_reducible refine step_t ?_ ?_); with_reducible exact True.intro) | ((with_reducible refine step_t ?_ ?_); omega) | ((with_reducible refine step_f ?_ ?_); omega))
                  refine step_c (k4) ?_
                  try dsimp only
                  rw [sg_265_134]
                  repeat (first | ((with_reducible refine step_t ?_ ?_); with_reducible exact True.intro) | ((with_reducible refine step_t ?_ ?_); omega) | ((with_reducible refine step_f ?_ ?_); omega))
                  refine step_c (j1) ?_
                  try dsimp only
                  (try simp (disch := omega) only [wr_id2])
                  by_cases z : (sch (frT L g p) some (lN0 L) T m (l ++ [k]) (t + 1)).1 = 0
                  · refine step_t z ?_
                    repeat (first | ((with_reducible refine step_t ?_ ?_); with_reducible exact True.intro) | ((with_reducible refine step_t ?_ ?_); omega) | ((with_reducible refine step_f ?_ ?_); omega))
                    rw [cnd, decide_eq_true z]
                    rfl
                  · refine step_f z ?_
                    rw [cnd, decide_eq_false z]
                    rfl
                rcases j3 with ⟨r1, r2⟩ | r1 | ⟨r1, r2, r3⟩
                · rw [if_neg (by omega)]
                  refine ⟨σ1, run _ ?_, j2, Or.inl ⟨r1, r2⟩⟩
                  refine step_f (by omega) ?_
                  rfl
                · rw [if_neg (by omega)]
                  refine ⟨σ1, run _ ?_, j2, Or.inr (Or.inl r1)⟩
                  refine step_f (by omega) ?_
                  rfl
                · rw [if_pos r1]
                  obtain ⟨σ5, k5, F5, a5, g5⟩ := s264 (d := d) (by omega) h9 vb false r2.1 r2.2.2.1 (gout zg)
                  have k5 : clR PG0 MX d 264 [vR 101, vI (lN0 L : Nat), vI (v : Int), vI 0] σ1 = some (0, σ5) := k5
                  obtain ⟨σ', j4, j5⟩ := nxt _ σ5 ((r2.gn F5 a5 g5).drop hw) r3
                  refine ⟨σ', run _ ?_, j5⟩
                  refine step_t r1 ?_
                  refine step_c (k5) ?_
                  try dsimp only
                  exact j4
    have h9 : lN0 L ≤ 8 := hM.2.1.1
    obtain ⟨σ', k1, k2⟩ := inner (lN0 L) 0 t σ vU vU vU (by omega) hM ht
    refine ⟨σ', ?_, k2⟩
    rw [ce_265, sg_265_0]
    (try simp (disch := omega) only [wr_id2])
    repeat (first | ((with_reducible refine step_t ?_ ?_); with_reducible exact True.intro) | ((with_reducible refine step_t ?_ ?_); omega) | ((with_reducible refine step_f ?_ ?_); omega))
    exact k1
