/-- OneAtATimeModel.isV(III)Z -/
theorem ce_231 (d : Nat) (σ : HP) (x0 x1 x2 x3 : Int) : clR PG0 MX (d + 1) 231 [vR x0, vI x1, vI x2, vI x3] σ = rsP PG0 MX d 231 0 [vR x0, vI x1, vI x2, vI x3] [] σ := rfl
set_option maxRecDepth 100000 in
theorem sg_231_0 (d : Nat) (σ : HP) (x0 x1 x2 x3 : Int) : rsP PG0 MX d 231 0 [vR x0, vI x1, vI x2, vI x3] [] σ =
    cnd (32 ≤ x0 ∧ x0 < σ (-1) 0 ∧ σ x0 (-1) = 9) (cnd (0 < (σ x0 15) ∧ (σ x0 15) < σ (-1) 0 ∧ σ (σ x0 15) (-1) = 20 ∧ 0 ≤ wr x1 ∧ wr x1 < σ (σ x0 15) (-2)) (bnd (clR PG0 MX d 216 [vI (σ (σ x0 15) (wr x1)), vI x2] σ) (fun q1 => 
    cnd (wr x3 ≠ wr 1)
        (rsP PG0 MX d 231 20 [vR x0, vI x1, vI x2, vI x3] [vI 0, vI q1.1] q1.2)
        (rsP PG0 MX d 231 20 [vR x0, vI x1, vI x2, vI x3] [vI 1, vI q1.1] q1.2))) none) none :=
  blkE (cs := pgA_231) rfl [20] 13 _ _ _ _
set_option maxRecDepth 100000 in
theorem sg_231_20 (d : Nat) (σ : HP) (y0 y1 : Int) (u0 u1 u2 u3 : MV) : rsP PG0 MX d 231 20 [u0, u1, u2, u3] [vI y1, vI y0] σ =
    cnd (wr y0 ≠ wr y1)
      (some (0, σ))
      (some (1, σ)) :=
  blkE (cs := pgA_231) rfl [20] 5 _ _ _ _
/-- OneAtATimeModel.parts(III)I -/
theorem ce_232 (d : Nat) (σ : HP) (x0 x1 x2 x3 : Int) : clR PG0 MX (d + 1) 232 [vR x0, vI x1, vI x2, vI x3] σ = rsP PG0 MX d 232 0 [vR x0, vI x1, vI x2, vI x3, vU, vU, vU, vU] [] σ := rfl
set_option maxRecDepth 100000 in
theorem sg_232_0 (d : Nat) (σ : HP) (x0 x1 x2 x3 : Int) : rsP PG0 MX d 232 0 [vR x0, vI x1, vI x2, vI x3, vU, vU, vU, vU] [] σ =
    cnd (0 < x0 ∧ x0 < σ (-1) 0 ∧ σ x0 (-1) = 9) (bnd (clR PG0 MX d 224 [vR x0, vI x1, vI x2] σ) (fun q1 => 
    cnd (wr q1.1 = 0)
        (some ((-2), q1.2))
        (bnd (clR PG0 MX d 179 [vL (wr x3), vL 0, vL 1] q1.2) (fun q2 => 
        cnd (wr q2.1 ≠ 0)
            (cnd (0 < x0 ∧ x0 < q2.2 (-1) 0 ∧ q2.2 x0 (-1) = 9) (bnd (clR PG0 MX d 203 [vR x0, vI x1] q2.2) (fun q3 => 
            rsP PG0 MX d 232 36 [vR x0, vI x1, vI x2, vI x3, vI 0, vI 0, vI 0, vU] [] q3.2)) none)
            (some ((-2), q2.2)))))) none :=
  blkE (cs := pgA_232) rfl [36, 76, 90, 114, 115] 22 _ _ _ _
set_option maxRecDepth 100000 in
theorem sg_232_36 (d : Nat) (σ : HP) (x0 x2 x3 x4 x5 x6 : Int) (u1 u7 : MV) : rsP PG0 MX d 232 36 [vR x0, u1, vI x2, vI x3, vI x4, vI x5, vI x6, u7] [] σ =
    cnd (32 ≤ x0 ∧ x0 < σ (-1) 0 ∧ σ x0 (-1) = 9) (cnd (wr (σ x0 17) ≤ wr x6)
      (cnd (wr x5 ≤ 0)
        (some (x4, σ))
        (cnd (wr x4 ≠ 0)
          (some (x4, σ))
          (some (1, σ))))
      (cnd (wr x6 ≠ 0)
        (cnd (0 < x0 ∧ x0 < σ (-1) 0 ∧ σ x0 (-1) = 9) (bnd (clR PG0 MX d 231 [vR x0, vI (x6 - 1), vI x2, vI x3] σ) (fun q1 => 
        rsP PG0 MX d 232 90 [vR x0, vU, vI x2, vI x3, vI x4, vI x5, vI x6, vU] [vI q1.1] q1.2)) none)
        (cnd (32 ≤ x0 ∧ x0 < σ (-1) 0 ∧ σ x0 (-1) = 9) (cnd (wr (σ x0 18) = 0)
          (rsP PG0 MX d 232 76 [vR x0, vU, vI x2, vI x3, vI x4, vI x5, vI x6, vU] [] σ)
          (cnd (32 ≤ x0 ∧ x0 < σ (-1) 0 ∧ σ x0 (-1) = 9) (cnd (0 < x0 ∧ x0 < σ (-1) 0 ∧ σ x0 (-1) = 9) (bnd (clR PG0 MX d 231 [vR x0, vI ((σ x0 17) - 1), vI x2, vI x3] σ) (fun q2 => 
          cnd (wr q2.1 = 0)
              (rsP PG0 MX d 232 76 [vR x0, vU, vI x2, vI x3, vI x4, vI x5, vI x6, vU] [] q2.2)
              (rsP PG0 MX d 232 90 [vR x0, vU, vI x2, vI x3, vI x4, vI x5, vI x6, vU] [vI 1] q2.2))) none) none)) none))) none :=
  blkE (cs := pgA_232) rfl [36, 76, 90, 114, 115] 22 _ _ _ _
set_option maxRecDepth 100000 in
theorem sg_232_76 (d : Nat) (σ : HP) (x0 x2 x3 x4 x5 x6 : Int) (u1 u7 : MV) : rsP PG0 MX d 232 76 [vR x0, u1, vI x2, vI x3, vI x4, vI x5, vI x6, u7] [] σ =
    rsP PG0 MX d 232 90 [vR x0, vU, vI x2, vI x3, vI x4, vI x5, vI x6, vU] [vI 0] σ :=
  blkE (cs := pgA_232) rfl [36, 76, 90, 114, 115] 4 _ _ _ _
set_option maxRecDepth 100000 in
theorem sg_232_90 (d : Nat) (σ : HP) (x0 x2 x3 x4 x5 x6 y0 : Int) (u1 u7 : MV) : rsP PG0 MX d 232 90 [vR x0, u1, vI x2, vI x3, vI x4, vI x5, vI x6, u7] [vI y0] σ =
    cnd (0 < x0 ∧ x0 < σ (-1) 0 ∧ σ x0 (-1) = 9) (bnd (clR PG0 MX d 231 [vR x0, vI x6, vI x2, vI x3] σ) (fun q1 => 
    cnd (wr q1.1 = 0)
        (rsP PG0 MX d 232 114 [vR x0, vU, vI x2, vI x3, vI x4, vI x5, vI x6, vI y0] [vI x4] q1.2)
        (cnd (wr y0 ≠ 0)
          (rsP PG0 MX d 232 114 [vR x0, vU, vI x2, vI x3, vI x4, vI x5, vI x6, vI y0] [vI x4] q1.2)
          (rsP PG0 MX d 232 115 [vR x0, vU, vI x2, vI x3, vI x4, vI x5, vI x6, vI y0] [vI 1, vI x4] q1.2)))) none :=
  blkE (cs := pgA_232) rfl [36, 76, 90, 114, 115] 14 _ _ _ _
set_option maxRecDepth 100000 in
theorem sg_232_114 (d : Nat) (σ : HP) (x0 x2 x3 x5 x6 y0 : Int) (u1 u4 u7 : MV) : rsP PG0 MX d 232 114 [vR x0, u1, vI x2, vI x3, u4, vI x5, vI x6, u7] [vI y0] σ =
    rsP PG0 MX d 232 115 [vR x0, vU, vI x2, vI x3, vU, vI x5, vI x6, vU] [vI 0, vI y0] σ :=
  blkE (cs := pgA_232) rfl [36, 76, 90, 114, 115] 3 _ _ _ _
set_option maxRecDepth 100000 in
theorem sg_232_115 (d : Nat) (σ : HP) (x0 x2 x3 x5 x6 y0 y1 : Int) (u1 u4 u7 : MV) : rsP PG0 MX d 232 115 [vR x0, u1, vI x2, vI x3, u4, vI x5, vI x6, u7] [vI y1, vI y0] σ =
    cnd (0 < x0 ∧ x0 < σ (-1) 0 ∧ σ x0 (-1) = 9) (bnd (clR PG0 MX d 231 [vR x0, vI x6, vI x2, vI x3] σ) (fun q1 => 
    cnd (wr q1.1 = 0)
        (rsP PG0 MX d 232 36 [vR x0, vU, vI x2, vI x3, vI (y0 + y1), vI (x5 + 0), vI (x6 + 1), vU] [] q1.2)
        (rsP PG0 MX d 232 36 [vR x0, vU, vI x2, vI x3, vI (y0 + y1), vI (x5 + 1), vI (x6 + 1), vU] [] q1.2))) none :=
  blkE (cs := pgA_232) rfl [36, 76, 90, 114, 115] 17 _ _ _ _
/-- OneAtATimeModel.level(III)I -/
theorem ce_233 (d : Nat) (σ : HP) (x0 x1 x2 x3 : Int) : clR PG0 MX (d + 1) 233 [vR x0, vI x1, vI x2, vI x3] σ = rsP PG0 MX d 233 0 [vR x0, vI x1, vI x2, vI x3, vU, vU] [] σ := rfl
set_option maxRecDepth 100000 in
theorem sg_233_0 (d : Nat) (σ : HP) (x0 x1 x2 x3 : Int) : rsP PG0 MX d 233 0 [vR x0, vI x1, vI x2, vI x3, vU, vU] [] σ =
    cnd (0 < x0 ∧ x0 < σ (-1) 0 ∧ σ x0 (-1) = 9) (bnd (clR PG0 MX d 180 [vR x0, vI x1] σ) (fun q1 => 
    cnd (wr q1.1 = 0)
        (rsP PG0 MX d 233 33 [vR x0, vI x1, vI x2, vI x3, vU, vU] [] q1.2)
        (cnd (0 < x0 ∧ x0 < q1.2 (-1) 0 ∧ q1.2 x0 (-1) = 9) (bnd (clR PG0 MX d 207 [vR x0, vI x1] q1.2) (fun q2 => 
        bnd (clR PG0 MX d 179 [vL (wr x2), vL 0, vL (wr q2.1)] q2.2) (fun q3 => 
          cnd (wr q3.1 = 0)
              (rsP PG0 MX d 233 33 [vR x0, vI x1, vI x2, vI x3, vU, vU] [] q3.2)
              (bnd (clR PG0 MX d 179 [vL (wr x3), vL 0, vL 1] q3.2) (fun q4 => 
              cnd (wr q4.1 ≠ 0)
                  (rsP PG0 MX d 233 36 [vR x0, vI x1, vI x2, vI x3, vU, vU] [] q4.2)
                  (rsP PG0 MX d 233 33 [vR x0, vI x1, vI x2, vI x3, vU, vU] [] q4.2)))))) none))) none :=
  blkE (cs := pgA_233) rfl [33, 36, 47] 21 _ _ _ _
set_option maxRecDepth 100000 in
theorem sg_233_33 (d : Nat) (σ : HP) (u0 u1 u2 u3 u4 u5 : MV) : rsP PG0 MX d 233 33 [u0, u1, u2, u3, u4, u5] [] σ =
    some ((-2), σ) :=
  blkE (cs := pgA_233) rfl [33, 36, 47] 3 _ _ _ _
set_option maxRecDepth 100000 in
theorem sg_233_36 (d : Nat) (σ : HP) (x0 x1 x2 x3 : Int) (u4 u5 : MV) : rsP PG0 MX d 233 36 [vR x0, vI x1, vI x2, vI x3, u4, u5] [] σ =
    cnd (0 < x0 ∧ x0 < σ (-1) 0 ∧ σ x0 (-1) = 9) (bnd (clR PG0 MX d 203 [vR x0, vI x1] σ) (fun q1 => 
    rsP PG0 MX d 233 47 [vR x0, vI x1, vI x2, vI x3, vI ((-1)), vI 0] [] q1.2)) none :=
  blkE (cs := pgA_233) rfl [33, 36, 47] 9 _ _ _ _
set_option maxRecDepth 100000 in
theorem sg_233_47 (d : Nat) (σ : HP) (x0 x2 x3 x4 x5 : Int) (u1 : MV) : rsP PG0 MX d 233 47 [vR x0, u1, vI x2, vI x3, vI x4, vI x5] [] σ =
    cnd (32 ≤ x0 ∧ x0 < σ (-1) 0 ∧ σ x0 (-1) = 9) (cnd (wr (σ x0 17) ≤ wr x5)
      (some (x4, σ))
      (cnd (32 ≤ x0 ∧ x0 < σ (-1) 0 ∧ σ x0 (-1) = 9) (cnd (0 < (σ x0 15) ∧ (σ x0 15) < σ (-1) 0 ∧ σ (σ x0 15) (-1) = 20 ∧ 0 ≤ wr x5 ∧ wr x5 < σ (σ x0 15) (-2)) (bnd (clR PG0 MX d 209 [vI (σ (σ x0 15) (wr x5))] σ) (fun q1 => 
      cnd (wr q1.1 ≠ wr x2)
          (rsP PG0 MX d 233 47 [vR x0, vU, vI x2, vI x3, vI x4, vI (x5 + 1)] [] q1.2)
          (cnd (wr x4 = wr ((-1)))
            (rsP PG0 MX d 233 47 [vR x0, vU, vI x2, vI x3, vI x5, vI (x5 + 1)] [] q1.2)
            (cnd (wr x3 ≠ wr 1)
              (rsP PG0 MX d 233 47 [vR x0, vU, vI x2, vI x3, vI x4, vI (x5 + 1)] [] q1.2)
              (rsP PG0 MX d 233 47 [vR x0, vU, vI x2, vI x3, vI x5, vI (x5 + 1)] [] q1.2))))) none) none)) none :=
  blkE (cs := pgA_233) rfl [33, 36, 47] 24 _ _ _ _
/-- OneAtATimeModel.climbs(III)I -/
theorem ce_234 (d : Nat) (σ : HP) (x0 x1 x2 x3 : Int) : clR PG0 MX (d + 1) 234 [vR x0, vI x1, vI x2, vI x3] σ = rsP PG0 MX d 234 0 [vR x0, vI x1, vI x2, vI x3, vU, vU] [] σ := rfl
set_option maxRecDepth 100000 in
theorem sg_234_0 (d : Nat) (σ : HP) (x0 x1 x2 x3 : Int) : rsP PG0 MX d 234 0 [vR x0, vI x1, vI x2, vI x3, vU, vU] [] σ =
    cnd (0 < x0 ∧ x0 < σ (-1) 0 ∧ σ x0 (-1) = 9) (bnd (clR PG0 MX d 180 [vR x0, vI x1] σ) (fun q1 => 
    cnd (wr q1.1 = 0)
        (rsP PG0 MX d 234 35 [vR x0, vI x1, vI x2, vI x3, vU, vU] [] q1.2)
        (cnd (0 < x0 ∧ x0 < q1.2 (-1) 0 ∧ q1.2 x0 (-1) = 9) (bnd (clR PG0 MX d 207 [vR x0, vI x1] q1.2) (fun q2 => 
        bnd (clR PG0 MX d 179 [vL (wr x2), vL 0, vL (wr (q2.1 - 1))] q2.2) (fun q3 => 
          cnd (wr q3.1 = 0)
              (rsP PG0 MX d 234 35 [vR x0, vI x1, vI x2, vI x3, vU, vU] [] q3.2)
              (bnd (clR PG0 MX d 179 [vL (wr x3), vL 0, vL 1] q3.2) (fun q4 => 
              cnd (wr q4.1 ≠ 0)
                  (rsP PG0 MX d 234 38 [vR x0, vI x1, vI x2, vI x3, vU, vU] [] q4.2)
                  (rsP PG0 MX d 234 35 [vR x0, vI x1, vI x2, vI x3, vU, vU] [] q4.2)))))) none))) none :=
  blkE (cs := pgA_234) rfl [35, 38, 49, 83, 110] 23 _ _ _ _
set_option maxRecDepth 100000 in
theorem sg_234_35 (d : Nat) (σ : HP) (u0 u1 u2 u3 u4 u5 : MV) : rsP PG0 MX d 234 35 [u0, u1, u2, u3, u4, u5] [] σ =
    some ((-2), σ) :=
  blkE (cs := pgA_234) rfl [35, 38, 49, 83, 110] 3 _ _ _ _
set_option maxRecDepth 100000 in
theorem sg_234_38 (d : Nat) (σ : HP) (x0 x1 x2 x3 : Int) (u4 u5 : MV) : rsP PG0 MX d 234 38 [vR x0, vI x1, vI x2, vI x3, u4, u5] [] σ =
    cnd (0 < x0 ∧ x0 < σ (-1) 0 ∧ σ x0 (-1) = 9) (bnd (clR PG0 MX d 203 [vR x0, vI x1] σ) (fun q1 => 
    rsP PG0 MX d 234 49 [vR x0, vI x1, vI x2, vI x3, vI 0, vI 0] [] q1.2)) none :=
  blkE (cs := pgA_234) rfl [35, 38, 49, 83, 110] 9 _ _ _ _
set_option maxRecDepth 100000 in
theorem sg_234_49 (d : Nat) (σ : HP) (x0 x1 x2 x3 x4 x5 : Int) : rsP PG0 MX d 234 49 [vR x0, vI x1, vI x2, vI x3, vI x4, vI x5] [] σ =
    cnd (0 < x0 ∧ x0 < σ (-1) 0 ∧ σ x0 (-1) = 9) (bnd (clR PG0 MX d 204 [vR x0, vI x1] σ) (fun q1 => 
    cnd (wr q1.1 ≤ wr x5)
        (some (x4, q1.2))
        (cnd (32 ≤ x0 ∧ x0 < q1.2 (-1) 0 ∧ q1.2 x0 (-1) = 9) (cnd (0 < (q1.2 x0 15) ∧ (q1.2 x0 15) < q1.2 (-1) 0 ∧ q1.2 (q1.2 x0 15) (-1) = 20 ∧ 0 ≤ wr x5 ∧ wr x5 < q1.2 (q1.2 x0 15) (-2)) (bnd (clR PG0 MX d 209 [vI (q1.2 (q1.2 x0 15) (wr x5))] q1.2) (fun q2 => 
        cnd (wr x3 ≠ wr 1)
            (rsP PG0 MX d 234 83 [vR x0, vI x1, vI x2, vI x3, vI x4, vI x5] [vI (x2 + 1), vI q2.1, vI x4] q2.2)
            (rsP PG0 MX d 234 83 [vR x0, vI x1, vI x2, vI x3, vI x4, vI x5] [vI x2, vI q2.1, vI x4] q2.2))) none) none))) none :=
  blkE (cs := pgA_234) rfl [35, 38, 49, 83, 110] 19 _ _ _ _
set_option maxRecDepth 100000 in
theorem sg_234_83 (d : Nat) (σ : HP) (x0 x1 x2 x3 x5 y0 y1 y2 : Int) (u4 : MV) : rsP PG0 MX d 234 83 [vR x0, vI x1, vI x2, vI x3, u4, vI x5] [vI y2, vI y1, vI y0] σ =
    cnd (wr y1 ≠ wr y2)
      (rsP PG0 MX d 234 49 [vR x0, vI x1, vI x2, vI x3, vI (y0 + 0), vI (x5 + 1)] [] σ)
      (cnd (32 ≤ x0 ∧ x0 < σ (-1) 0 ∧ σ x0 (-1) = 9) (cnd (0 < (σ x0 15) ∧ (σ x0 15) < σ (-1) 0 ∧ σ (σ x0 15) (-1) = 20 ∧ 0 ≤ wr (x5 + 1) ∧ wr (x5 + 1) < σ (σ x0 15) (-2)) (bnd (clR PG0 MX d 209 [vI (σ (σ x0 15) (wr (x5 + 1)))] σ) (fun q1 => 
      cnd (wr x3 ≠ wr 1)
          (rsP PG0 MX d 234 110 [vR x0, vI x1, vI x2, vI x3, vU, vI x5] [vI x2, vI q1.1, vI y0] q1.2)
          (rsP PG0 MX d 234 110 [vR x0, vI x1, vI x2, vI x3, vU, vI x5] [vI (x2 + 1), vI q1.1, vI y0] q1.2))) none) none) :=
  blkE (cs := pgA_234) rfl [35, 38, 49, 83, 110] 17 _ _ _ _
set_option maxRecDepth 100000 in
theorem sg_234_110 (d : Nat) (σ : HP) (x0 x1 x2 x3 x5 y0 y1 y2 : Int) (u4 : MV) : rsP PG0 MX d 234 110 [vR x0, vI x1, vI x2, vI x3, u4, vI x5] [vI y2, vI y1, vI y0] σ =
    cnd (wr y1 ≠ wr y2)
      (rsP PG0 MX d 234 49 [vR x0, vI x1, vI x2, vI x3, vI (y0 + 0), vI (x5 + 1)] [] σ)
      (rsP PG0 MX d 234 49 [vR x0, vI x1, vI x2, vI x3, vI (y0 + 1), vI (x5 + 1)] [] σ) :=
  blkE (cs := pgA_234) rfl [35, 38, 49, 83, 110] 9 _ _ _ _
/-- OneAtATimeModel.shift(II)I -/
theorem ce_235 (d : Nat) (σ : HP) (x0 x1 x2 : Int) : clR PG0 MX (d + 1) 235 [vR x0, vI x1, vI x2] σ = rsP PG0 MX d 235 0 [vR x0, vI x1, vI x2] [] σ := rfl
set_option maxRecDepth 100000 in
theorem sg_235_0 (d : Nat) (σ : HP) (x0 x1 x2 : Int) : rsP PG0 MX d 235 0 [vR x0, vI x1, vI x2] [] σ =
    cnd (0 < x0 ∧ x0 < σ (-1) 0 ∧ σ x0 (-1) = 9) (bnd (clR PG0 MX d 224 [vR x0, vI x1, vI x2] σ) (fun q1 => 
    cnd (wr q1.1 ≠ 0)
        (cnd (0 < x0 ∧ x0 < q1.2 (-1) 0 ∧ q1.2 x0 (-1) = 9) (bnd (clR PG0 MX d 203 [vR x0, vI x1] q1.2) (fun q2 => 
        cnd (32 ≤ x0 ∧ x0 < q2.2 (-1) 0 ∧ q2.2 x0 (-1) = 9) (cnd (wr (q2.2 x0 18) = 0)
            (some ((-1), q2.2))
            (cnd (0 < x0 ∧ x0 < q2.2 (-1) 0 ∧ q2.2 x0 (-1) = 9) (bnd (clR PG0 MX d 215 [vR x0, vI x2] q2.2) (fun q3 => 
            some (q3.1, q3.2))) none)) none)) none)
        (some ((-2), q1.2)))) none :=
  blkE (cs := pgA_235) rfl [] 17 _ _ _ _
/-- OneAtATimeModel.apart(III)I -/
theorem ce_236 (d : Nat) (σ : HP) (x0 x1 x2 x3 : Int) : clR PG0 MX (d + 1) 236 [vR x0, vI x1, vI x2, vI x3] σ = rsP PG0 MX d 236 0 [vR x0, vI x1, vI x2, vI x3] [] σ := rfl
set_option maxRecDepth 100000 in
theorem sg_236_0 (d : Nat) (σ : HP) (x0 x1 x2 x3 : Int) : rsP PG0 MX d 236 0 [vR x0, vI x1, vI x2, vI x3] [] σ =
    cnd (0 < x0 ∧ x0 < σ (-1) 0 ∧ σ x0 (-1) = 9) (bnd (clR PG0 MX d 180 [vR x0, vI x1] σ) (fun q1 => 
    cnd (wr q1.1 = 0)
        (rsP PG0 MX d 236 38 [vR x0, vI x1, vI x2, vI x3] [] q1.2)
        (cnd (0 < x0 ∧ x0 < q1.2 (-1) 0 ∧ q1.2 x0 (-1) = 9) (bnd (clR PG0 MX d 204 [vR x0, vI x1] q1.2) (fun q2 => 
        bnd (clR PG0 MX d 179 [vL (wr x2), vL 0, vL (wr q2.1)] q2.2) (fun q3 => 
          cnd (wr q3.1 = 0)
              (rsP PG0 MX d 236 38 [vR x0, vI x1, vI x2, vI x3] [] q3.2)
              (cnd (0 < x0 ∧ x0 < q3.2 (-1) 0 ∧ q3.2 x0 (-1) = 9) (bnd (clR PG0 MX d 204 [vR x0, vI x1] q3.2) (fun q4 => 
              bnd (clR PG0 MX d 179 [vL (wr x3), vL 0, vL (wr q4.1)] q4.2) (fun q5 => 
                cnd (wr q5.1 ≠ 0)
                    (rsP PG0 MX d 236 41 [vR x0, vI x1, vI x2, vI x3] [] q5.2)
                    (rsP PG0 MX d 236 38 [vR x0, vI x1, vI x2, vI x3] [] q5.2)))) none)))) none))) none :=
  blkE (cs := pgA_236) rfl [38, 41] 24 _ _ _ _
set_option maxRecDepth 100000 in
theorem sg_236_38 (d : Nat) (σ : HP) (u0 u1 u2 u3 : MV) : rsP PG0 MX d 236 38 [u0, u1, u2, u3] [] σ =
    some ((-2), σ) :=
  blkE (cs := pgA_236) rfl [38, 41] 3 _ _ _ _
set_option maxRecDepth 100000 in
theorem sg_236_41 (d : Nat) (σ : HP) (x0 x1 x2 x3 : Int) : rsP PG0 MX d 236 41 [vR x0, vI x1, vI x2, vI x3] [] σ =
    cnd (0 < x0 ∧ x0 < σ (-1) 0 ∧ σ x0 (-1) = 9) (bnd (clR PG0 MX d 203 [vR x0, vI x1] σ) (fun q1 => 
    cnd (32 ≤ x0 ∧ x0 < q1.2 (-1) 0 ∧ q1.2 x0 (-1) = 9) (cnd (0 < (q1.2 x0 15) ∧ (q1.2 x0 15) < q1.2 (-1) 0 ∧ q1.2 (q1.2 x0 15) (-1) = 20 ∧ 0 ≤ wr x2 ∧ wr x2 < q1.2 (q1.2 x0 15) (-2)) (cnd (32 ≤ x0 ∧ x0 < q1.2 (-1) 0 ∧ q1.2 x0 (-1) = 9) (cnd (0 < (q1.2 x0 15) ∧ (q1.2 x0 15) < q1.2 (-1) 0 ∧ q1.2 (q1.2 x0 15) (-1) = 20 ∧ 0 ≤ wr x3 ∧ wr x3 < q1.2 (q1.2 x0 15) (-2)) (bnd (clR PG0 MX d 209 [vI (i_xor (q1.2 (q1.2 x0 15) (wr x2)) (q1.2 (q1.2 x0 15) (wr x3)))] q1.2) (fun q2 => 
      some (q2.1, q2.2))) none) none) none) none)) none :=
  blkE (cs := pgA_236) rfl [38, 41] 15 _ _ _ _
/-- OneAtATimeModel.spread(I)I -/
theorem ce_237 (d : Nat) (σ : HP) (x0 x1 : Int) : clR PG0 MX (d + 1) 237 [vR x0, vI x1] σ = rsP PG0 MX d 237 0 [vR x0, vI x1, vU] [] σ := rfl
set_option maxRecDepth 100000 in
theorem sg_237_0 (d : Nat) (σ : HP) (x0 x1 : Int) : rsP PG0 MX d 237 0 [vR x0, vI x1, vU] [] σ =
    cnd (0 < x0 ∧ x0 < σ (-1) 0 ∧ σ x0 (-1) = 9) (bnd (clR PG0 MX d 180 [vR x0, vI x1] σ) (fun q1 => 
    cnd (wr q1.1 ≠ 0)
        (cnd (0 < x0 ∧ x0 < q1.2 (-1) 0 ∧ q1.2 x0 (-1) = 9) (bnd (clR PG0 MX d 203 [vR x0, vI x1] q1.2) (fun q2 => 
        cnd (0 < x0 ∧ x0 < q2.2 (-1) 0 ∧ q2.2 x0 (-1) = 9) (bnd (clR PG0 MX d 238 [vR x0, vI 1] q2.2) (fun q3 => 
          cnd (wr q3.1 ≠ 0)
              (cnd (0 < x0 ∧ x0 < q3.2 (-1) 0 ∧ q3.2 x0 (-1) = 9) (bnd (clR PG0 MX d 207 [vR x0, vI x1] q3.2) (fun q4 => 
              rsP PG0 MX d 237 32 [vR x0, vI x1, vI q4.1] [] q4.2)) none)
              (some ((-1), q3.2)))) none)) none)
        (some ((-2), q1.2)))) none :=
  blkE (cs := pgA_237) rfl [32] 17 _ _ _ _
set_option maxRecDepth 100000 in
theorem sg_237_32 (d : Nat) (σ : HP) (x0 x2 : Int) (u1 : MV) : rsP PG0 MX d 237 32 [vR x0, u1, vI x2] [] σ =
    cnd (0 < x0 ∧ x0 < σ (-1) 0 ∧ σ x0 (-1) = 9) (bnd (clR PG0 MX d 238 [vR x0, vI x2] σ) (fun q1 => 
    cnd (wr q1.1 ≠ 0)
        (some (x2, q1.2))
        (rsP PG0 MX d 237 32 [vR x0, vU, vI (x2 + (-1))] [] q1.2))) none :=
  blkE (cs := pgA_237) rfl [32] 8 _ _ _ _
/-- OneAtATimeModel.isSpread(I)Z -/
theorem ce_238 (d : Nat) (σ : HP) (x0 x1 : Int) : clR PG0 MX (d + 1) 238 [vR x0, vI x1] σ = rsP PG0 MX d 238 0 [vR x0, vI x1, vU, vU] [] σ := rfl
set_option maxRecDepth 100000 in
theorem sg_238_0 (d : Nat) (σ : HP) (x0 x1 : Int) : rsP PG0 MX d 238 0 [vR x0, vI x1, vU, vU] [] σ =
    rsP PG0 MX d 238 2 [vR x0, vI x1, vI 0, vU] [] σ :=
  blkE (cs := pgA_238) rfl [2, 12] 4 _ _ _ _
set_option maxRecDepth 100000 in
theorem sg_238_2 (d : Nat) (σ : HP) (x0 x1 x2 : Int) (u3 : MV) : rsP PG0 MX d 238 2 [vR x0, vI x1, vI x2, u3] [] σ =
    cnd (32 ≤ x0 ∧ x0 < σ (-1) 0 ∧ σ x0 (-1) = 9) (cnd (wr (σ x0 17) ≤ wr x2)
      (some (1, σ))
      (rsP PG0 MX d 238 12 [vR x0, vI x1, vI x2, vI 0] [] σ)) none :=
  blkE (cs := pgA_238) rfl [2, 12] 8 _ _ _ _
set_option maxRecDepth 100000 in
theorem sg_238_12 (d : Nat) (σ : HP) (x0 x1 x2 x3 : Int) : rsP PG0 MX d 238 12 [vR x0, vI x1, vI x2, vI x3] [] σ =
    cnd (wr x2 ≤ wr x3)
      (rsP PG0 MX d 238 2 [vR x0, vI x1, vI (x2 + 1), vI x3] [] σ)
      (cnd (0 < x0 ∧ x0 < σ (-1) 0 ∧ σ x0 (-1) = 9) (bnd (clR PG0 MX d 212 [vR x0, vI x2, vI x3] σ) (fun q1 => 
      cnd (wr q1.1 < wr x1)
          (rsP PG0 MX d 238 12 [vR x0, vI x1, vI x2, vI (x3 + 1)] [] q1.2)
          (cnd (32 ≤ x0 ∧ x0 < q1.2 (-1) 0 ∧ q1.2 x0 (-1) = 9) (cnd (0 < (q1.2 x0 15) ∧ (q1.2 x0 15) < q1.2 (-1) 0 ∧ q1.2 (q1.2 x0 15) (-1) = 20 ∧ 0 ≤ wr x2 ∧ wr x2 < q1.2 (q1.2 x0 15) (-2)) (cnd (32 ≤ x0 ∧ x0 < q1.2 (-1) 0 ∧ q1.2 x0 (-1) = 9) (cnd (0 < (q1.2 x0 15) ∧ (q1.2 x0 15) < q1.2 (-1) 0 ∧ q1.2 (q1.2 x0 15) (-1) = 20 ∧ 0 ≤ wr x3 ∧ wr x3 < q1.2 (q1.2 x0 15) (-2)) (bnd (clR PG0 MX d 209 [vI (i_xor (q1.2 (q1.2 x0 15) (wr x2)) (q1.2 (q1.2 x0 15) (wr x3)))] q1.2) (fun q2 => 
          cnd (wr x1 ≤ wr q2.1)
              (rsP PG0 MX d 238 12 [vR x0, vI x1, vI x2, vI (x3 + 1)] [] q2.2)
              (some (0, q2.2)))) none) none) none) none))) none) :=
  blkE (cs := pgA_238) rfl [2, 12] 25 _ _ _ _
/-- OneAtATimeModel.same(II)I -/
theorem ce_239 (d : Nat) (σ : HP) (x0 x1 x2 : Int) : clR PG0 MX (d + 1) 239 [vR x0, vI x1, vI x2] σ = rsP PG0 MX d 239 0 [vR x0, vI x1, vI x2, vU, vU, vU, vU] [] σ := rfl
set_option maxRecDepth 100000 in
theorem sg_239_0 (d : Nat) (σ : HP) (x0 x1 x2 : Int) : rsP PG0 MX d 239 0 [vR x0, vI x1, vI x2, vU, vU, vU, vU] [] σ =
    cnd (0 < x0 ∧ x0 < σ (-1) 0 ∧ σ x0 (-1) = 9) (bnd (clR PG0 MX d 180 [vR x0, vI x1] σ) (fun q1 => 
    cnd (wr q1.1 = 0)
        (some ((-2), q1.2))
        (cnd (0 < x0 ∧ x0 < q1.2 (-1) 0 ∧ q1.2 x0 (-1) = 9) (bnd (clR PG0 MX d 180 [vR x0, vI x2] q1.2) (fun q2 => 
        cnd (wr q2.1 ≠ 0)
            (cnd (0 < x0 ∧ x0 < q2.2 (-1) 0 ∧ q2.2 x0 (-1) = 9) (bnd (clR PG0 MX d 181 [vR x0, vI x1, vI 3] q2.2) (fun q3 => 
            cnd (0 < x0 ∧ x0 < q3.2 (-1) 0 ∧ q3.2 x0 (-1) = 9) (bnd (clR PG0 MX d 181 [vR x0, vI x2, vI 3] q3.2) (fun q4 => 
              rsP PG0 MX d 239 34 [vR x0, vI x1, vI x2, vI q3.1, vI q4.1, vU, vU] [] q4.2)) none)) none)
            (some ((-2), q2.2)))) none))) none :=
  blkE (cs := pgA_239) rfl [34, 50, 80] 20 _ _ _ _
set_option maxRecDepth 100000 in
theorem sg_239_34 (d : Nat) (σ : HP) (x0 x1 x2 x3 x4 : Int) (u5 u6 : MV) : rsP PG0 MX d 239 34 [vR x0, vI x1, vI x2, vI x3, vI x4, u5, u6] [] σ =
    cnd (wr x3 ≠ wr x4)
      (rsP PG0 MX d 239 50 [vR x0, vI x1, vI x2, vI x3, vI x4, vI 0, vI 0] [] σ)
      (rsP PG0 MX d 239 50 [vR x0, vI x1, vI x2, vI x3, vI x4, vI 1, vI 0] [] σ) :=
  blkE (cs := pgA_239) rfl [34, 50, 80] 10 _ _ _ _
set_option maxRecDepth 100000 in
theorem sg_239_50 (d : Nat) (σ : HP) (x0 x1 x2 x3 x4 x5 x6 : Int) : rsP PG0 MX d 239 50 [vR x0, vI x1, vI x2, vI x3, vI x4, vI x5, vI x6] [] σ =
    cnd (0 < x0 ∧ x0 < σ (-1) 0 ∧ σ x0 (-1) = 9) (bnd (clR PG0 MX d 204 [vR x0, vI x1] σ) (fun q1 => 
    cnd (0 < x0 ∧ x0 < q1.2 (-1) 0 ∧ q1.2 x0 (-1) = 9) (bnd (clR PG0 MX d 204 [vR x0, vI x2] q1.2) (fun q2 => 
      bnd (clR PG0 MX d 1005 [vI q1.1, vI q2.1] q2.2) (fun q3 => 
        cnd (wr q3.1 ≤ wr x6)
            (some (x5, q3.2))
            (cnd (0 < x0 ∧ x0 < q3.2 (-1) 0 ∧ q3.2 x0 (-1) = 9) (bnd (clR PG0 MX d 205 [vR x0, vI x1, vI x6] q3.2) (fun q4 => 
            rsP PG0 MX d 239 80 [vR x0, vI x1, vI x2, vI (i_xor x3 (i_shl 1 q4.1)), vI x4, vI x5, vI x6] [] q4.2)) none)))) none)) none :=
  blkE (cs := pgA_239) rfl [34, 50, 80] 20 _ _ _ _
set_option maxRecDepth 100000 in
theorem sg_239_80 (d : Nat) (σ : HP) (x0 x1 x2 x3 x4 x5 x6 : Int) : rsP PG0 MX d 239 80 [vR x0, vI x1, vI x2, vI x3, vI x4, vI x5, vI x6] [] σ =
    cnd (0 < x0 ∧ x0 < σ (-1) 0 ∧ σ x0 (-1) = 9) (bnd (clR PG0 MX d 205 [vR x0, vI x2, vI x6] σ) (fun q1 => 
    cnd (wr x3 ≠ wr (i_xor x4 (i_shl 1 q1.1)))
        (rsP PG0 MX d 239 50 [vR x0, vI x1, vI x2, vI x3, vI (i_xor x4 (i_shl 1 q1.1)), vI (x5 + 0), vI (x6 + 1)] [] q1.2)
        (rsP PG0 MX d 239 50 [vR x0, vI x1, vI x2, vI x3, vI (i_xor x4 (i_shl 1 q1.1)), vI (x5 + 1), vI (x6 + 1)] [] q1.2))) none :=
  blkE (cs := pgA_239) rfl [34, 50, 80] 21 _ _ _ _
/-- OneAtATimeModel.code(I)I -/
theorem ce_240 (d : Nat) (σ : HP) (x0 x1 : Int) : clR PG0 MX (d + 1) 240 [vR x0, vI x1] σ = rsP PG0 MX d 240 0 [vR x0, vI x1] [] σ := rfl
set_option maxRecDepth 100000 in
theorem sg_240_0 (d : Nat) (σ : HP) (x0 x1 : Int) : rsP PG0 MX d 240 0 [vR x0, vI x1] [] σ =
    cnd (0 ≤ wr x1)
      (some (i_xor x1 (i_shr x1 1), σ))
      (some ((-2), σ)) :=
  blkE (cs := pgA_240) rfl [] 9 _ _ _ _
/-- OneAtATimeModel.rank(I)I -/
theorem ce_241 (d : Nat) (σ : HP) (x0 x1 : Int) : clR PG0 MX (d + 1) 241 [vR x0, vI x1] σ = rsP PG0 MX d 241 0 [vR x0, vI x1, vU, vU] [] σ := rfl
set_option maxRecDepth 100000 in
theorem sg_241_0 (d : Nat) (σ : HP) (x0 x1 : Int) : rsP PG0 MX d 241 0 [vR x0, vI x1, vU, vU] [] σ =
    cnd (0 ≤ wr x1)
      (rsP PG0 MX d 241 11 [vR x0, vI x1, vI 0, vI x1] [] σ)
      (some ((-2), σ)) :=
  blkE (cs := pgA_241) rfl [11] 8 _ _ _ _
set_option maxRecDepth 100000 in
theorem sg_241_11 (d : Nat) (σ : HP) (x2 x3 : Int) (u0 u1 : MV) : rsP PG0 MX d 241 11 [u0, u1, vI x2, vI x3] [] σ =
    cnd (wr x3 = 0)
      (some (x2, σ))
      (rsP PG0 MX d 241 11 [vU, vU, vI (i_xor x2 x3), vI (i_shr x3 1)] [] σ) :=
  blkE (cs := pgA_241) rfl [11] 13 _ _ _ _
/-- OneAtATimeModel.ruler(I)I -/
theorem ce_242 (d : Nat) (σ : HP) (x0 x1 : Int) : clR PG0 MX (d + 1) 242 [vR x0, vI x1] σ = rsP PG0 MX d 242 0 [vR x0, vI x1] [] σ := rfl
set_option maxRecDepth 100000 in
theorem sg_242_0 (d : Nat) (σ : HP) (x0 x1 : Int) : rsP PG0 MX d 242 0 [vR x0, vI x1] [] σ =
    cnd (wr 1 ≤ wr x1)
      (bnd (clR PG0 MX d 243 [vI x1] σ) (fun q1 => 
      some (q1.1, q1.2)))
      (some ((-2), σ)) :=
  blkE (cs := pgA_242) rfl [] 7 _ _ _ _
/-- OneAtATimeModel.lowest(I)I -/
theorem ce_243 (d : Nat) (σ : HP) (x0 : Int) : clR PG0 MX (d + 1) 243 [vI x0] σ = rsP PG0 MX d 243 0 [vI x0, vU] [] σ := rfl
set_option maxRecDepth 100000 in
theorem sg_243_0 (d : Nat) (σ : HP) (x0 : Int) : rsP PG0 MX d 243 0 [vI x0, vU] [] σ =
    rsP PG0 MX d 243 2 [vI x0, vI 0] [] σ :=
  blkE (cs := pgA_243) rfl [2] 4 _ _ _ _
set_option maxRecDepth 100000 in
theorem sg_243_2 (d : Nat) (σ : HP) (x0 x1 : Int) : rsP PG0 MX d 243 2 [vI x0, vI x1] [] σ =
    bnd (clR PG0 MX d 216 [vI x0, vI x1] σ) (fun q1 => 
    cnd (wr q1.1 ≠ 0)
        (some (x1, q1.2))
        (rsP PG0 MX d 243 2 [vI x0, vI (x1 + 1)] [] q1.2)) :=
  blkE (cs := pgA_243) rfl [2] 8 _ _ _ _
/-- OneAtATimeModel.makes(II)I -/
theorem ce_244 (d : Nat) (σ : HP) (x0 x1 x2 : Int) : clR PG0 MX (d + 1) 244 [vR x0, vI x1, vI x2] σ = rsP PG0 MX d 244 0 [vR x0, vI x1, vI x2, vU, vU] [] σ := rfl
set_option maxRecDepth 100000 in
theorem sg_244_0 (d : Nat) (σ : HP) (x0 x1 x2 : Int) : rsP PG0 MX d 244 0 [vR x0, vI x1, vI x2, vU, vU] [] σ =
    cnd (0 < x0 ∧ x0 < σ (-1) 0 ∧ σ x0 (-1) = 9) (bnd (clR PG0 MX d 180 [vR x0, vI x1] σ) (fun q1 => 
    cnd (wr q1.1 = 0)
        (some ((-2), q1.2))
        (bnd (clR PG0 MX d 179 [vL (wr x2), vL 0, vL 2] q1.2) (fun q2 => 
        cnd (wr q2.1 = 0)
            (some ((-2), q2.2))
            (cnd (wr x2 ≠ wr 2)
              (rsP PG0 MX d 244 41 [vR x0, vI x1, vI x2, vU, vU] [] q2.2)
              (cnd (0 < x0 ∧ x0 < q2.2 (-1) 0 ∧ q2.2 x0 (-1) = 9) (bnd (clR PG0 MX d 204 [vR x0, vI x1] q2.2) (fun q3 => 
              cnd (wr (2 * q3.1) ≤ wr 256)
                  (rsP PG0 MX d 244 41 [vR x0, vI x1, vI x2, vU, vU] [] q3.2)
                  (some ((-2), q3.2)))) none)))))) none :=
  blkE (cs := pgA_244) rfl [41, 59, 100, 128, 163] 23 _ _ _ _
set_option maxRecDepth 100000 in
theorem sg_244_41 (d : Nat) (σ : HP) (x0 x1 x2 : Int) (u3 u4 : MV) : rsP PG0 MX d 244 41 [vR x0, vI x1, vI x2, u3, u4] [] σ =
    cnd (0 < x0 ∧ x0 < σ (-1) 0 ∧ σ x0 (-1) = 9) (bnd (clR PG0 MX d 207 [vR x0, vI x1] σ) (fun q1 => 
    cnd (32 ≤ x0 ∧ x0 < q1.2 (-1) 0 ∧ q1.2 x0 (-1) = 9) (cnd (wr x2 ≠ 0)
        (cnd (wr x2 ≠ wr 1)
          (rsP PG0 MX d 244 128 [vR x0, vI x1, vI x2, vI q1.1, vI 0] [] (up q1.2 x0 5 0))
          (rsP PG0 MX d 244 100 [vR x0, vI x1, vI x2, vI q1.1, vI 0] [] (up q1.2 x0 5 0)))
        (rsP PG0 MX d 244 59 [vR x0, vI x1, vI x2, vI q1.1, vI 1] [] (up q1.2 x0 5 0))) none)) none :=
  blkE (cs := pgA_244) rfl [41, 59, 100, 128, 163] 16 _ _ _ _
set_option maxRecDepth 100000 in
theorem sg_244_59 (d : Nat) (σ : HP) (x0 x1 x3 x4 : Int) (u2 : MV) : rsP PG0 MX d 244 59 [vR x0, vI x1, u2, vI x3, vI x4] [] σ =
    cnd (wr (i_shl 1 x3) ≤ wr x4)
      (cnd (0 < x0 ∧ x0 < σ (-1) 0 ∧ σ x0 (-1) = 9) (bnd (clR PG0 MX d 196 [vR x0, vI (x3 - 1)] σ) (fun q1 => 
      rsP PG0 MX d 244 163 [vR x0, vI x1, vU, vI x3, vI x4] [] q1.2)) none)
      (bnd (clR PG0 MX d 243 [vI x4] σ) (fun q2 => 
      cnd (0 < x0 ∧ x0 < q2.2 (-1) 0 ∧ q2.2 x0 (-1) = 9) (bnd (clR PG0 MX d 196 [vR x0, vI q2.1] q2.2) (fun q3 => 
        rsP PG0 MX d 244 59 [vR x0, vI x1, vU, vI x3, vI (x4 + 1)] [] q3.2)) none)) :=
  blkE (cs := pgA_244) rfl [41, 59, 100, 128, 163] 13 _ _ _ _
set_option maxRecDepth 100000 in
theorem sg_244_100 (d : Nat) (σ : HP) (x0 x1 x3 x4 : Int) (u2 : MV) : rsP PG0 MX d 244 100 [vR x0, vI x1, u2, vI x3, vI x4] [] σ =
    cnd (wr (2 * x3) ≤ wr x4)
      (rsP PG0 MX d 244 163 [vR x0, vI x1, vU, vI x3, vI x4] [] σ)
      (cnd (wr x3 ≠ 0) (cnd (0 < x0 ∧ x0 < σ (-1) 0 ∧ σ x0 (-1) = 9) (bnd (clR PG0 MX d 196 [vR x0, vI (i_rem x4 x3)] σ) (fun q1 => 
      rsP PG0 MX d 244 100 [vR x0, vI x1, vU, vI x3, vI (x4 + 1)] [] q1.2)) none) none) :=
  blkE (cs := pgA_244) rfl [41, 59, 100, 128, 163] 14 _ _ _ _
set_option maxRecDepth 100000 in
theorem sg_244_128 (d : Nat) (σ : HP) (x0 x1 x4 : Int) (u2 u3 : MV) : rsP PG0 MX d 244 128 [vR x0, vI x1, u2, u3, vI x4] [] σ =
    cnd (0 < x0 ∧ x0 < σ (-1) 0 ∧ σ x0 (-1) = 9) (bnd (clR PG0 MX d 204 [vR x0, vI x1] σ) (fun q1 => 
    cnd (wr (2 * q1.1) ≤ wr x4)
        (rsP PG0 MX d 244 163 [vR x0, vI x1, vU, vU, vI x4] [] q1.2)
        (cnd (0 < x0 ∧ x0 < q1.2 (-1) 0 ∧ q1.2 x0 (-1) = 9) (bnd (clR PG0 MX d 204 [vR x0, vI x1] q1.2) (fun q2 => 
        cnd (wr q2.1 ≠ 0) (cnd (0 < x0 ∧ x0 < q2.2 (-1) 0 ∧ q2.2 x0 (-1) = 9) (bnd (clR PG0 MX d 205 [vR x0, vI x1, vI (i_rem x4 q2.1)] q2.2) (fun q3 => 
          cnd (0 < x0 ∧ x0 < q3.2 (-1) 0 ∧ q3.2 x0 (-1) = 9) (bnd (clR PG0 MX d 196 [vR x0, vI q3.1] q3.2) (fun q4 => 
            rsP PG0 MX d 244 128 [vR x0, vI x1, vU, vU, vI (x4 + 1)] [] q4.2)) none)) none) none)) none))) none :=
  blkE (cs := pgA_244) rfl [41, 59, 100, 128, 163] 21 _ _ _ _
set_option maxRecDepth 100000 in
theorem sg_244_163 (d : Nat) (σ : HP) (x0 x1 : Int) (u2 u3 u4 : MV) : rsP PG0 MX d 244 163 [vR x0, vI x1, u2, u3, u4] [] σ =
    cnd (0 < x0 ∧ x0 < σ (-1) 0 ∧ σ x0 (-1) = 9) (bnd (clR PG0 MX d 181 [vR x0, vI x1, vI 3] σ) (fun q1 => 
    cnd (32 ≤ x0 ∧ x0 < q1.2 (-1) 0 ∧ q1.2 x0 (-1) = 9) (cnd (0 < x0 ∧ x0 < q1.2 (-1) 0 ∧ q1.2 x0 (-1) = 9) (bnd (clR PG0 MX d 245 [vR x0, vI x1, vI q1.1, vI (q1.2 x0 5)] q1.2) (fun q2 => 
      some (q2.1, q2.2))) none) none)) none :=
  blkE (cs := pgA_244) rfl [41, 59, 100, 128, 163] 11 _ _ _ _
/-- OneAtATimeModel.changes(III)I -/
theorem ce_245 (d : Nat) (σ : HP) (x0 x1 x2 x3 : Int) : clR PG0 MX (d + 1) 245 [vR x0, vI x1, vI x2, vI x3] σ = rsP PG0 MX d 245 0 [vR x0, vI x1, vI x2, vI x3] [] σ := rfl
set_option maxRecDepth 100000 in
theorem sg_245_0 (d : Nat) (σ : HP) (x0 x1 x2 x3 : Int) : rsP PG0 MX d 245 0 [vR x0, vI x1, vI x2, vI x3] [] σ =
    cnd (0 < x0 ∧ x0 < σ (-1) 0 ∧ σ x0 (-1) = 9) (bnd (clR PG0 MX d 207 [vR x0, vI x1] σ) (fun q1 => 
    cnd (0 < x0 ∧ x0 < q1.2 (-1) 0 ∧ q1.2 x0 (-1) = 9) (bnd (clR PG0 MX d 181 [vR x0, vI x1, vI 1] q1.2) (fun q2 => 
      cnd (0 < x0 ∧ x0 < q2.2 (-1) 0 ∧ q2.2 x0 (-1) = 9) (bnd (clR PG0 MX d 181 [vR x0, vI x1, vI 2] q2.2) (fun q3 => 
        cnd (0 < x0 ∧ x0 < q3.2 (-1) 0 ∧ q3.2 x0 (-1) = 9) (bnd (clR PG0 MX d 182 [vR x0, vI x1, vI q1.1, vI q2.1, vI q3.1, vI x2] q3.2) (fun q4 => 
          rsP PG0 MX d 245 23 [vR x0, vI x1, vI x2, vI x3] [] q4.2)) none)) none)) none)) none :=
  blkE (cs := pgA_245) rfl [23] 17 _ _ _ _
set_option maxRecDepth 100000 in
theorem sg_245_23 (d : Nat) (σ : HP) (x0 x1 x2 x3 : Int) : rsP PG0 MX d 245 23 [vR x0, vI x1, vI x2, vI x3] [] σ =
    cnd (0 < x0 ∧ x0 < σ (-1) 0 ∧ σ x0 (-1) = 9) (bnd (clR PG0 MX d 197 [vR x0, vI x3] σ) (fun q1 => 
    some (q1.1, q1.2))) none :=
  blkE (cs := pgA_245) rfl [23] 5 _ _ _ _
/-- OneAtATimeModel.finds(III)I -/
theorem ce_246 (d : Nat) (σ : HP) (x0 x1 x2 x3 : Int) : clR PG0 MX (d + 1) 246 [vR x0, vI x1, vI x2, vI x3] σ = rsP PG0 MX d 246 0 [vR x0, vI x1, vI x2, vI x3, vU, vU] [] σ := rfl
set_option maxRecDepth 100000 in
theorem sg_246_0 (d : Nat) (σ : HP) (x0 x1 x2 x3 : Int) : rsP PG0 MX d 246 0 [vR x0, vI x1, vI x2, vI x3, vU, vU] [] σ =
    cnd (0 < x0 ∧ x0 < σ (-1) 0 ∧ σ x0 (-1) = 9) (bnd (clR PG0 MX d 180 [vR x0, vI x1] σ) (fun q1 => 
    cnd (wr q1.1 = 0)
        (some ((-2), q1.2))
        (bnd (clR PG0 MX d 179 [vL (wr x2), vL 0, vL 3] q1.2) (fun q2 => 
        cnd (wr q2.1 = 0)
            (some ((-2), q2.2))
            (bnd (clR PG0 MX d 179 [vL (wr x3), vL 1, vL 50000] q2.2) (fun q3 => 
            cnd (wr q3.1 ≠ 0)
                (cnd (0 < x0 ∧ x0 < q3.2 (-1) 0 ∧ q3.2 x0 (-1) = 9) (bnd (clR PG0 MX d 181 [vR x0, vI x1, vI 3] q3.2) (fun q4 => 
                rsP PG0 MX d 246 43 [vR x0, vI x1, vI x2, vI x3, vI q4.1, vU] [] q4.2)) none)
                (some ((-2), q3.2)))))))) none :=
  blkE (cs := pgA_246) rfl [43, 68, 135] 23 _ _ _ _
set_option maxRecDepth 100000 in
theorem sg_246_43 (d : Nat) (σ : HP) (x0 x1 x2 x3 x4 : Int) (u5 : MV) : rsP PG0 MX d 246 43 [vR x0, vI x1, vI x2, vI x3, vI x4, u5] [] σ =
    cnd (0 < x0 ∧ x0 < σ (-1) 0 ∧ σ x0 (-1) = 9) (bnd (clR PG0 MX d 208 [vR x0, vI x1, vI x4] σ) (fun q1 => 
    cnd (wr q1.1 ≠ 0)
        (cnd (32 ≤ x0 ∧ x0 < q1.2 (-1) 0 ∧ q1.2 x0 (-1) = 9) (cnd (32 ≤ x0 ∧ x0 < (up q1.2 x0 23 x2) (-1) 0 ∧ (up q1.2 x0 23 x2) x0 (-1) = 9) (rsP PG0 MX d 246 68 [vR x0, vI x1, vI x2, vI x3, vI x4, vI 0] [] (up (up q1.2 x0 23 x2) x0 22 0)) none) none)
        (some ((-1), q1.2)))) none :=
  blkE (cs := pgA_246) rfl [43, 68, 135] 15 _ _ _ _
set_option maxRecDepth 100000 in
theorem sg_246_68 (d : Nat) (σ : HP) (x0 x1 x3 x4 x5 : Int) (u2 : MV) : rsP PG0 MX d 246 68 [vR x0, vI x1, u2, vI x3, vI x4, vI x5] [] σ =
    cnd (0 < x0 ∧ x0 < σ (-1) 0 ∧ σ x0 (-1) = 9) (bnd (clR PG0 MX d 207 [vR x0, vI x1] σ) (fun q1 => 
    cnd (wr (i_shl 1 q1.1) ≤ wr x5)
        (cnd (0 < x0 ∧ x0 < q1.2 (-1) 0 ∧ q1.2 x0 (-1) = 9) (bnd (clR PG0 MX d 247 [vR x0] q1.2) (fun q2 => 
        cnd (32 ≤ x0 ∧ x0 < q2.2 (-1) 0 ∧ q2.2 x0 (-1) = 9) (cnd (32 ≤ (q2.2 x0 19) ∧ (q2.2 x0 19) < q2.2 (-1) 0 ∧ q2.2 (q2.2 x0 19) (-1) = 22 ∧ 0 ≤ wr x4 ∧ wr x4 < q2.2 (q2.2 x0 19) (-2)) (cnd (32 ≤ x0 ∧ x0 < (up q2.2 (q2.2 x0 19) (wr x4) 1) (-1) 0 ∧ (up q2.2 (q2.2 x0 19) (wr x4) 1) x0 (-1) = 9) (cnd (32 ≤ ((up q2.2 (q2.2 x0 19) (wr x4) 1) x0 20) ∧ ((up q2.2 (q2.2 x0 19) (wr x4) 1) x0 20) < (up q2.2 (q2.2 x0 19) (wr x4) 1) (-1) 0 ∧ (up q2.2 (q2.2 x0 19) (wr x4) 1) ((up q2.2 (q2.2 x0 19) (wr x4) 1) x0 20) (-1) = 20 ∧ 0 ≤ wr 0 ∧ wr 0 < (up q2.2 (q2.2 x0 19) (wr x4) 1) ((up q2.2 (q2.2 x0 19) (wr x4) 1) x0 20) (-2)) (cnd (32 ≤ x0 ∧ x0 < (up (up q2.2 (q2.2 x0 19) (wr x4) 1) ((up q2.2 (q2.2 x0 19) (wr x4) 1) x0 20) (wr 0) x4) (-1) 0 ∧ (up (up q2.2 (q2.2 x0 19) (wr x4) 1) ((up q2.2 (q2.2 x0 19) (wr x4) 1) x0 20) (wr 0) x4) x0 (-1) = 9) (rsP PG0 MX d 246 135 [vR x0, vI x1, vU, vI x3, vI x4, vI x5] [] (up (up (up q2.2 (q2.2 x0 19) (wr x4) 1) ((up q2.2 (q2.2 x0 19) (wr x4) 1) x0 20) (wr 0) x4) x0 21 0)) none) none) none) none) none)) none)
        (cnd (32 ≤ x0 ∧ x0 < q1.2 (-1) 0 ∧ q1.2 x0 (-1) = 9) (cnd (0 < x0 ∧ x0 < q1.2 (-1) 0 ∧ q1.2 x0 (-1) = 9) (bnd (clR PG0 MX d 208 [vR x0, vI x1, vI x5] q1.2) (fun q3 => 
        cnd (wr q3.1 = 0)
            (cnd (32 ≤ x0 ∧ x0 < q3.2 (-1) 0 ∧ q3.2 x0 (-1) = 9) (rsP PG0 MX d 246 68 [vR x0, vI x1, vU, vI x3, vI x4, vI (x5 + 1)] [] (up q3.2 x0 22 ((q1.2 x0 22) + 0))) none)
            (cnd (32 ≤ x0 ∧ x0 < q3.2 (-1) 0 ∧ q3.2 x0 (-1) = 9) (rsP PG0 MX d 246 68 [vR x0, vI x1, vU, vI x3, vI x4, vI (x5 + 1)] [] (up q3.2 x0 22 ((q1.2 x0 22) + 1))) none))) none) none))) none :=
  blkE (cs := pgA_246) rfl [43, 68, 135] 24 _ _ _ _
set_option maxRecDepth 100000 in
theorem sg_246_135 (d : Nat) (σ : HP) (x0 x1 x3 x4 x5 : Int) (u2 : MV) : rsP PG0 MX d 246 135 [vR x0, vI x1, u2, vI x3, vI x4, vI x5] [] σ =
    cnd (0 < x0 ∧ x0 < σ (-1) 0 ∧ σ x0 (-1) = 9) (bnd (clR PG0 MX d 248 [vR x0, vI x1, vI 0, vI 0, vI x3] σ) (fun q1 => 
    cnd (wr q1.1 ≠ wr 1)
        (cnd (wr q1.1 ≠ 0)
          (some ((-3), q1.2))
          (some ((-1), q1.2)))
        (cnd (32 ≤ x0 ∧ x0 < q1.2 (-1) 0 ∧ q1.2 x0 (-1) = 9) (cnd (0 < x0 ∧ x0 < q1.2 (-1) 0 ∧ q1.2 x0 (-1) = 9) (bnd (clR PG0 MX d 245 [vR x0, vI x1, vI x4, vI (q1.2 x0 5)] q1.2) (fun q2 => 
        some (q2.1, q2.2))) none) none))) none :=
  blkE (cs := pgA_246) rfl [43, 68, 135] 19 _ _ _ _
/-- OneAtATimeModel.forgetsGone()V -/
theorem ce_247 (d : Nat) (σ : HP) (x0 : Int) : clR PG0 MX (d + 1) 247 [vR x0] σ = rsP PG0 MX d 247 0 [vR x0, vU] [] σ := rfl
set_option maxRecDepth 100000 in
theorem sg_247_0 (d : Nat) (σ : HP) (x0 : Int) : rsP PG0 MX d 247 0 [vR x0, vU] [] σ =
    rsP PG0 MX d 247 2 [vR x0, vI 0] [] σ :=
  blkE (cs := pgA_247) rfl [2] 4 _ _ _ _
set_option maxRecDepth 100000 in
theorem sg_247_2 (d : Nat) (σ : HP) (x0 x1 : Int) : rsP PG0 MX d 247 2 [vR x0, vI x1] [] σ =
    cnd (wr 256 ≤ wr x1)
      (some (0, σ))
      (cnd (32 ≤ x0 ∧ x0 < σ (-1) 0 ∧ σ x0 (-1) = 9) (cnd (32 ≤ (σ x0 19) ∧ (σ x0 19) < σ (-1) 0 ∧ σ (σ x0 19) (-1) = 22 ∧ 0 ≤ wr x1 ∧ wr x1 < σ (σ x0 19) (-2)) (rsP PG0 MX d 247 2 [vR x0, vI (x1 + 1)] [] (up σ (σ x0 19) (wr x1) 0)) none) none) :=
  blkE (cs := pgA_247) rfl [2] 12 _ _ _ _
/-- OneAtATimeModel.searches(IIII)I -/
theorem ce_248 (d : Nat) (σ : HP) (x0 x1 x2 x3 x4 : Int) : clR PG0 MX (d + 1) 248 [vR x0, vI x1, vI x2, vI x3, vI x4] σ = rsP PG0 MX d 248 0 [vR x0, vI x1, vI x2, vI x3, vI x4, vU, vU, vU, vU] [] σ := rfl
set_option maxRecDepth 100000 in
theorem sg_248_0 (d : Nat) (σ : HP) (x0 x1 x2 x3 x4 : Int) : rsP PG0 MX d 248 0 [vR x0, vI x1, vI x2, vI x3, vI x4, vU, vU, vU, vU] [] σ =
    cnd (32 ≤ x0 ∧ x0 < σ (-1) 0 ∧ σ x0 (-1) = 9) (cnd (wr x2 ≠ wr ((σ x0 22) - 1))
      (rsP PG0 MX d 248 33 [vR x0, vI x1, vI x2, vI x3, vI x4, vI 0, vU, vU, vU] [] σ)
      (cnd (32 ≤ x0 ∧ x0 < σ (-1) 0 ∧ σ x0 (-1) = 9) (cnd (0 < x0 ∧ x0 < (up σ x0 5 x2) (-1) 0 ∧ (up σ x0 5 x2) x0 (-1) = 9) (bnd (clR PG0 MX d 249 [vR x0, vI x1, vI x2] (up σ x0 5 x2)) (fun q1 => 
      cnd (wr q1.1 = 0)
          (some (0, q1.2))
          (some (1, q1.2)))) none) none)) none :=
  blkE (cs := pgA_248) rfl [33, 75, 114, 152] 18 _ _ _ _
set_option maxRecDepth 100000 in
theorem sg_248_33 (d : Nat) (σ : HP) (x0 x1 x2 x3 x4 x5 : Int) (u6 u7 u8 : MV) : rsP PG0 MX d 248 33 [vR x0, vI x1, vI x2, vI x3, vI x4, vI x5, u6, u7, u8] [] σ =
    cnd (0 < x0 ∧ x0 < σ (-1) 0 ∧ σ x0 (-1) = 9) (bnd (clR PG0 MX d 207 [vR x0, vI x1] σ) (fun q1 => 
    cnd (wr q1.1 ≤ wr x5)
        (some (0, q1.2))
        (cnd (32 ≤ x0 ∧ x0 < q1.2 (-1) 0 ∧ q1.2 x0 (-1) = 9) (cnd (0 < (q1.2 x0 20) ∧ (q1.2 x0 20) < q1.2 (-1) 0 ∧ q1.2 (q1.2 x0 20) (-1) = 20 ∧ 0 ≤ wr x2 ∧ wr x2 < q1.2 (q1.2 x0 20) (-2)) (bnd (clR PG0 MX d 209 [vI (i_xor (q1.2 (q1.2 x0 20) (wr x2)) (i_shl 1 x5))] q1.2) (fun q2 => 
        cnd (32 ≤ x0 ∧ x0 < q2.2 (-1) 0 ∧ q2.2 x0 (-1) = 9) (cnd (0 < (q2.2 x0 20) ∧ (q2.2 x0 20) < q2.2 (-1) 0 ∧ q2.2 (q2.2 x0 20) (-1) = 20 ∧ 0 ≤ wr x2 ∧ wr x2 < q2.2 (q2.2 x0 20) (-2)) (bnd (clR PG0 MX d 209 [vI (q2.2 (q2.2 x0 20) (wr x2))] q2.2) (fun q3 => 
          bnd (clR PG0 MX d 1005 [vI q2.1, vI q3.1] q3.2) (fun q4 => 
            rsP PG0 MX d 248 75 [vR x0, vI x1, vI x2, vI x3, vI x4, vI x5, vI (i_xor (q1.2 (q1.2 x0 20) (wr x2)) (i_shl 1 x5)), vI q4.1, vU] [] q4.2))) none) none)) none) none))) none :=
  blkE (cs := pgA_248) rfl [33, 75, 114, 152] 25 _ _ _ _
set_option maxRecDepth 100000 in
theorem sg_248_75 (d : Nat) (σ : HP) (x0 x1 x2 x3 x4 x5 x6 x7 : Int) (u8 : MV) : rsP PG0 MX d 248 75 [vR x0, vI x1, vI x2, vI x3, vI x4, vI x5, vI x6, vI x7, u8] [] σ =
    cnd (32 ≤ x0 ∧ x0 < σ (-1) 0 ∧ σ x0 (-1) = 9) (cnd (32 ≤ (σ x0 19) ∧ (σ x0 19) < σ (-1) 0 ∧ σ (σ x0 19) (-1) = 22 ∧ 0 ≤ wr x6 ∧ wr x6 < σ (σ x0 19) (-2)) (cnd (wr (σ (σ x0 19) (wr x6)) ≠ 0)
      (rsP PG0 MX d 248 33 [vR x0, vI x1, vI x2, vI x3, vI x4, vI (x5 + 1), vU, vU, vU] [] σ)
      (cnd (0 < x0 ∧ x0 < σ (-1) 0 ∧ σ x0 (-1) = 9) (bnd (clR PG0 MX d 208 [vR x0, vI x1, vI x6] σ) (fun q1 => 
      cnd (wr q1.1 = 0)
          (rsP PG0 MX d 248 33 [vR x0, vI x1, vI x2, vI x3, vI x4, vI (x5 + 1), vU, vU, vU] [] q1.2)
          (cnd (32 ≤ x0 ∧ x0 < q1.2 (-1) 0 ∧ q1.2 x0 (-1) = 9) (cnd (wr (q1.2 x0 23) ≠ wr 2)
            (rsP PG0 MX d 248 114 [vR x0, vI x1, vI x2, vI x3, vI x4, vI x5, vI x6, vI x7, u8] [] q1.2)
            (cnd (wr x3 < wr (x7 + 2))
              (rsP PG0 MX d 248 114 [vR x0, vI x1, vI x2, vI x3, vI x4, vI x5, vI x6, vI x7, u8] [] q1.2)
              (rsP PG0 MX d 248 33 [vR x0, vI x1, vI x2, vI x3, vI x4, vI (x5 + 1), vU, vU, vU] [] q1.2))) none))) none)) none) none :=
  blkE (cs := pgA_248) rfl [33, 75, 114, 152] 24 _ _ _ _
set_option maxRecDepth 100000 in
theorem sg_248_114 (d : Nat) (σ : HP) (x0 x1 x2 x3 x4 x5 x6 x7 : Int) (u8 : MV) : rsP PG0 MX d 248 114 [vR x0, vI x1, vI x2, vI x3, vI x4, vI x5, vI x6, vI x7, u8] [] σ =
    cnd (32 ≤ x0 ∧ x0 < σ (-1) 0 ∧ σ x0 (-1) = 9) (cnd (wr (σ x0 21) ≠ wr x4)
      (cnd (32 ≤ x0 ∧ x0 < σ (-1) 0 ∧ σ x0 (-1) = 9) (cnd (32 ≤ x0 ∧ x0 < σ (-1) 0 ∧ σ x0 (-1) = 9) (cnd (32 ≤ x0 ∧ x0 < (up σ x0 21 ((σ x0 21) + 1)) (-1) 0 ∧ (up σ x0 21 ((σ x0 21) + 1)) x0 (-1) = 9) (cnd (32 ≤ ((up σ x0 21 ((σ x0 21) + 1)) x0 19) ∧ ((up σ x0 21 ((σ x0 21) + 1)) x0 19) < (up σ x0 21 ((σ x0 21) + 1)) (-1) 0 ∧ (up σ x0 21 ((σ x0 21) + 1)) ((up σ x0 21 ((σ x0 21) + 1)) x0 19) (-1) = 22 ∧ 0 ≤ wr x6 ∧ wr x6 < (up σ x0 21 ((σ x0 21) + 1)) ((up σ x0 21 ((σ x0 21) + 1)) x0 19) (-2)) (cnd (32 ≤ x0 ∧ x0 < (up (up σ x0 21 ((σ x0 21) + 1)) ((up σ x0 21 ((σ x0 21) + 1)) x0 19) (wr x6) 1) (-1) 0 ∧ (up (up σ x0 21 ((σ x0 21) + 1)) ((up σ x0 21 ((σ x0 21) + 1)) x0 19) (wr x6) 1) x0 (-1) = 9) (cnd (32 ≤ ((up (up σ x0 21 ((σ x0 21) + 1)) ((up σ x0 21 ((σ x0 21) + 1)) x0 19) (wr x6) 1) x0 4) ∧ ((up (up σ x0 21 ((σ x0 21) + 1)) ((up σ x0 21 ((σ x0 21) + 1)) x0 19) (wr x6) 1) x0 4) < (up (up σ x0 21 ((σ x0 21) + 1)) ((up σ x0 21 ((σ x0 21) + 1)) x0 19) (wr x6) 1) (-1) 0 ∧ (up (up σ x0 21 ((σ x0 21) + 1)) ((up σ x0 21 ((σ x0 21) + 1)) x0 19) (wr x6) 1) ((up (up σ x0 21 ((σ x0 21) + 1)) ((up σ x0 21 ((σ x0 21) + 1)) x0 19) (wr x6) 1) x0 4) (-1) = 20 ∧ 0 ≤ wr x2 ∧ wr x2 < (up (up σ x0 21 ((σ x0 21) + 1)) ((up σ x0 21 ((σ x0 21) + 1)) x0 19) (wr x6) 1) ((up (up σ x0 21 ((σ x0 21) + 1)) ((up σ x0 21 ((σ x0 21) + 1)) x0 19) (wr x6) 1) x0 4) (-2)) (rsP PG0 MX d 248 152 [vR x0, vI x1, vI x2, vI x3, vI x4, vI x5, vI x6, vI x7, vU] [] (up (up (up σ x0 21 ((σ x0 21) + 1)) ((up σ x0 21 ((σ x0 21) + 1)) x0 19) (wr x6) 1) ((up (up σ x0 21 ((σ x0 21) + 1)) ((up σ x0 21 ((σ x0 21) + 1)) x0 19) (wr x6) 1) x0 4) (wr x2) x5)) none) none) none) none) none) none)
      (some ((-3), σ))) none :=
  blkE (cs := pgA_248) rfl [33, 75, 114, 152] 22 _ _ _ _
set_option maxRecDepth 100000 in
theorem sg_248_152 (d : Nat) (σ : HP) (x0 x1 x2 x3 x4 x5 x6 x7 : Int) (u8 : MV) : rsP PG0 MX d 248 152 [vR x0, vI x1, vI x2, vI x3, vI x4, vI x5, vI x6, vI x7, u8] [] σ =
    cnd (32 ≤ x0 ∧ x0 < σ (-1) 0 ∧ σ x0 (-1) = 9) (cnd (32 ≤ (σ x0 20) ∧ (σ x0 20) < σ (-1) 0 ∧ σ (σ x0 20) (-1) = 20 ∧ 0 ≤ wr (x2 + 1) ∧ wr (x2 + 1) < σ (σ x0 20) (-2)) (bnd (clR PG0 MX d 1004 [vI x3, vI x7] (up σ (σ x0 20) (wr (x2 + 1)) x6)) (fun q1 => 
    cnd (0 < x0 ∧ x0 < q1.2 (-1) 0 ∧ q1.2 x0 (-1) = 9) (bnd (clR PG0 MX d 248 [vR x0, vI x1, vI (x2 + 1), vI q1.1, vI x4] q1.2) (fun q2 => 
      cnd (wr q2.1 = 0)
          (cnd (32 ≤ x0 ∧ x0 < q2.2 (-1) 0 ∧ q2.2 x0 (-1) = 9) (cnd (32 ≤ (q2.2 x0 19) ∧ (q2.2 x0 19) < q2.2 (-1) 0 ∧ q2.2 (q2.2 x0 19) (-1) = 22 ∧ 0 ≤ wr x6 ∧ wr x6 < q2.2 (q2.2 x0 19) (-2)) (rsP PG0 MX d 248 33 [vR x0, vI x1, vI x2, vI x3, vI x4, vI (x5 + 1), vU, vU, vU] [] (up q2.2 (q2.2 x0 19) (wr x6) 0)) none) none)
          (some (q2.1, q2.2)))) none)) none) none :=
  blkE (cs := pgA_248) rfl [33, 75, 114, 152] 29 _ _ _ _
/-- OneAtATimeModel.ends(II)Z -/
theorem ce_249 (d : Nat) (σ : HP) (x0 x1 x2 : Int) : clR PG0 MX (d + 1) 249 [vR x0, vI x1, vI x2] σ = rsP PG0 MX d 249 0 [vR x0, vI x1, vI x2, vU, vU, vU] [] σ := rfl
set_option maxRecDepth 100000 in
theorem sg_249_0 (d : Nat) (σ : HP) (x0 x1 x2 : Int) : rsP PG0 MX d 249 0 [vR x0, vI x1, vI x2, vU, vU, vU] [] σ =
    cnd (32 ≤ x0 ∧ x0 < σ (-1) 0 ∧ σ x0 (-1) = 9) (cnd (wr (σ x0 23) = 0)
      (some (1, σ))
      (cnd (32 ≤ x0 ∧ x0 < σ (-1) 0 ∧ σ x0 (-1) = 9) (cnd (wr (σ x0 23) ≠ wr 2)
        (cnd (32 ≤ x0 ∧ x0 < σ (-1) 0 ∧ σ x0 (-1) = 9) (cnd (0 < (σ x0 20) ∧ (σ x0 20) < σ (-1) 0 ∧ σ (σ x0 20) (-1) = 20 ∧ 0 ≤ wr x2 ∧ wr x2 < σ (σ x0 20) (-2)) (cnd (32 ≤ x0 ∧ x0 < σ (-1) 0 ∧ σ x0 (-1) = 9) (cnd (0 < (σ x0 20) ∧ (σ x0 20) < σ (-1) 0 ∧ σ (σ x0 20) (-1) = 20 ∧ 0 ≤ wr 0 ∧ wr 0 < σ (σ x0 20) (-2)) (bnd (clR PG0 MX d 209 [vI (i_xor (σ (σ x0 20) (wr x2)) (σ (σ x0 20) (wr 0)))] σ) (fun q1 => 
        cnd (wr q1.1 = wr 1)
            (cnd (32 ≤ x0 ∧ x0 < q1.2 (-1) 0 ∧ q1.2 x0 (-1) = 9) (bnd (clR PG0 MX d 243 [vI (i_xor (σ (σ x0 20) (wr x2)) (σ (σ x0 20) (wr 0)))] q1.2) (fun q2 => 
            cnd (32 ≤ (q1.2 x0 4) ∧ (q1.2 x0 4) < q2.2 (-1) 0 ∧ q2.2 (q1.2 x0 4) (-1) = 20 ∧ 0 ≤ wr x2 ∧ wr x2 < q2.2 (q1.2 x0 4) (-2)) (cnd (32 ≤ x0 ∧ x0 < (up q2.2 (q1.2 x0 4) (wr x2) q2.1) (-1) 0 ∧ (up q2.2 (q1.2 x0 4) (wr x2) q2.1) x0 (-1) = 9) (cnd (32 ≤ x0 ∧ x0 < (up (up q2.2 (q1.2 x0 4) (wr x2) q2.1) x0 5 (x2 + 1)) (-1) 0 ∧ (up (up q2.2 (q1.2 x0 4) (wr x2) q2.1) x0 5 (x2 + 1)) x0 (-1) = 9) (cnd (wr ((up (up q2.2 (q1.2 x0 4) (wr x2) q2.1) x0 5 (x2 + 1)) x0 23) ≠ wr 1)
                (cnd (32 ≤ x0 ∧ x0 < (up (up q2.2 (q1.2 x0 4) (wr x2) q2.1) x0 5 (x2 + 1)) (-1) 0 ∧ (up (up q2.2 (q1.2 x0 4) (wr x2) q2.1) x0 5 (x2 + 1)) x0 (-1) = 9) (cnd (wr 2 ≠ 0) (cnd (wr (i_rem ((up (up q2.2 (q1.2 x0 4) (wr x2) q2.1) x0 5 (x2 + 1)) x0 5) 2) ≠ 0)
                  (rsP PG0 MX d 249 87 [vR x0, vI x1, vU, vU, vI 0, vI 0] [] (up (up q2.2 (q1.2 x0 4) (wr x2) q2.1) x0 5 (x2 + 1)))
                  (rsP PG0 MX d 249 87 [vR x0, vI x1, vU, vU, vI 1, vI 0] [] (up (up q2.2 (q1.2 x0 4) (wr x2) q2.1) x0 5 (x2 + 1)))) none) none)
                (some (1, up (up q2.2 (q1.2 x0 4) (wr x2) q2.1) x0 5 (x2 + 1)))) none) none) none)) none)
            (some (0, q1.2)))) none) none) none) none)
        (some (1, σ))) none)) none :=
  blkE (cs := pgA_249) rfl [87] 48 _ _ _ _
set_option maxRecDepth 100000 in
theorem sg_249_87 (d : Nat) (σ : HP) (x0 x1 x4 x5 : Int) (u2 u3 : MV) : rsP PG0 MX d 249 87 [vR x0, vI x1, u2, u3, vI x4, vI x5] [] σ =
    cnd (32 ≤ x0 ∧ x0 < σ (-1) 0 ∧ σ x0 (-1) = 9) (cnd (wr 2 ≠ 0) (cnd (wr (i_div (σ x0 5) 2) ≤ wr x5)
      (cnd (x4 = 0 ∨ x4 = 1) (some (x4, σ)) none)
      (cnd (wr x4 = 0)
        (cnd (x4 = 0 ∨ x4 = 1) (some (x4, σ)) none)
        (cnd (32 ≤ x0 ∧ x0 < σ (-1) 0 ∧ σ x0 (-1) = 9) (cnd (0 < (σ x0 20) ∧ (σ x0 20) < σ (-1) 0 ∧ σ (σ x0 20) (-1) = 20 ∧ 0 ≤ wr x5 ∧ wr x5 < σ (σ x0 20) (-2)) (cnd (32 ≤ x0 ∧ x0 < σ (-1) 0 ∧ σ x0 (-1) = 9) (cnd (32 ≤ x0 ∧ x0 < σ (-1) 0 ∧ σ x0 (-1) = 9) (cnd (wr 2 ≠ 0) (cnd (0 < (σ x0 20) ∧ (σ x0 20) < σ (-1) 0 ∧ σ (σ x0 20) (-1) = 20 ∧ 0 ≤ wr (x5 + (i_div (σ x0 5) 2)) ∧ wr (x5 + (i_div (σ x0 5) 2)) < σ (σ x0 20) (-2)) (cnd (0 < x0 ∧ x0 < σ (-1) 0 ∧ σ x0 (-1) = 9) (bnd (clR PG0 MX d 207 [vR x0, vI x1] σ) (fun q1 => 
        cnd (wr (i_xor (σ (σ x0 20) (wr x5)) (σ (σ x0 20) (wr (x5 + (i_div (σ x0 5) 2))))) ≠ wr ((i_shl 1 q1.1) - 1))
            (rsP PG0 MX d 249 87 [vR x0, vI x1, vU, vU, vI 0, vI (x5 + 1)] [] q1.2)
            (rsP PG0 MX d 249 87 [vR x0, vI x1, vU, vU, vI 1, vI (x5 + 1)] [] q1.2))) none) none) none) none) none) none) none))) none) none :=
  blkE (cs := pgA_249) rfl [87] 37 _ _ _ _
/-- OneAtATimeModel.extend(IJ)I -/
theorem ce_250 (d : Nat) (σ : HP) (x0 x1 x2 : Int) : clR PG0 MX (d + 1) 250 [vR x0, vI x1, vL x2] σ = rsP PG0 MX d 250 0 [vR x0, vI x1, vL x2, vU, vU, vU] [] σ := rfl
set_option maxRecDepth 100000 in
theorem sg_250_0 (d : Nat) (σ : HP) (x0 x1 x2 : Int) : rsP PG0 MX d 250 0 [vR x0, vI x1, vL x2, vU, vU, vU] [] σ =
    cnd (0 < x0 ∧ x0 < σ (-1) 0 ∧ σ x0 (-1) = 9) (bnd (clR PG0 MX d 180 [vR x0, vI x1] σ) (fun q1 => 
    cnd (wr q1.1 ≠ 0)
        (cnd (0 < x0 ∧ x0 < q1.2 (-1) 0 ∧ q1.2 x0 (-1) = 9) (bnd (clR PG0 MX d 204 [vR x0, vI x1] q1.2) (fun q2 => 
        bnd (clR PG0 MX d 1004 [vI 0, vI (q2.1 - 1)] q2.2) (fun q3 => 
          cnd (wr 64 ≤ wr q3.1)
              (rsP PG0 MX d 250 40 [vR x0, vI x1, vL x2, vU, vI q3.1, vU] [] q3.2)
              (cnd (wr (l_cmp (l_ushr x2 q3.1) 0) ≠ 0)
                (some ((-2), q3.2))
                (rsP PG0 MX d 250 40 [vR x0, vI x1, vL x2, vU, vI q3.1, vU] [] q3.2))))) none)
        (some ((-2), q1.2)))) none :=
  blkE (cs := pgA_250) rfl [40, 87] 24 _ _ _ _
set_option maxRecDepth 100000 in
theorem sg_250_40 (d : Nat) (σ : HP) (x0 x1 x2 : Int) (u3 u4 u5 : MV) : rsP PG0 MX d 250 40 [vR x0, vI x1, vL x2, u3, u4, u5] [] σ =
    bnd (clR PG0 MX d 251 [vL x2] σ) (fun q1 => 
    cnd (wr 2 ≠ 0) (cnd (wr (i_rem q1.1 2) ≠ wr 1)
        (cnd (0 < x0 ∧ x0 < q1.2 (-1) 0 ∧ q1.2 x0 (-1) = 9) (bnd (clR PG0 MX d 207 [vR x0, vI x1] q1.2) (fun q2 => 
        cnd (wr q2.1 ≤ wr 6)
            (cnd (0 < x0 ∧ x0 < q2.2 (-1) 0 ∧ q2.2 x0 (-1) = 9) (bnd (clR PG0 MX d 252 [vR x0, vI x1] q2.2) (fun q3 => 
            cnd (wr q3.1 ≠ 0)
                (cnd (0 < x0 ∧ x0 < q3.2 (-1) 0 ∧ q3.2 x0 (-1) = 9) (bnd (clR PG0 MX d 253 [vR x0, vI x1, vL x2] q3.2) (fun q4 => 
                rsP PG0 MX d 250 87 [vR x0, vI x1, vL x2, vU, vU, vI q2.1] [] q4.2)) none)
                (some ((-6), q3.2)))) none)
            (some ((-5), q2.2)))) none)
        (some ((-2), q1.2))) none) :=
  blkE (cs := pgA_250) rfl [40, 87] 23 _ _ _ _
set_option maxRecDepth 100000 in
theorem sg_250_87 (d : Nat) (σ : HP) (x0 x1 x2 x5 : Int) (u3 u4 : MV) : rsP PG0 MX d 250 87 [vR x0, vI x1, vL x2, u3, u4, vI x5] [] σ =
    cnd (0 < x0 ∧ x0 < σ (-1) 0 ∧ σ x0 (-1) = 9) (bnd (clR PG0 MX d 181 [vR x0, vI x1, vI 3] σ) (fun q1 => 
    cnd (0 < x0 ∧ x0 < q1.2 (-1) 0 ∧ q1.2 x0 (-1) = 9) (bnd (clR PG0 MX d 182 [vR x0, vI x1, vI (x5 + 2), vI 0, vI (x5 + 2), vI q1.1] q1.2) (fun q2 => 
      cnd (0 < x0 ∧ x0 < q2.2 (-1) 0 ∧ q2.2 x0 (-1) = 9) (bnd (clR PG0 MX d 184 [vR x0, vI (x5 + 2)] q2.2) (fun q3 => 
        some (q3.1, q3.2))) none)) none)) none :=
  blkE (cs := pgA_250) rfl [40, 87] 21 _ _ _ _
/-- OneAtATimeModel.onesOf(J)I -/
theorem ce_251 (d : Nat) (σ : HP) (x0 : Int) : clR PG0 MX (d + 1) 251 [vL x0] σ = rsP PG0 MX d 251 0 [vL x0, vU, vU, vU, vU] [] σ := rfl
set_option maxRecDepth 100000 in
theorem sg_251_0 (d : Nat) (σ : HP) (x0 : Int) : rsP PG0 MX d 251 0 [vL x0, vU, vU, vU, vU] [] σ =
    rsP PG0 MX d 251 4 [vL x0, vU, vI 0, vL x0, vU] [] σ :=
  blkE (cs := pgA_251) rfl [4] 6 _ _ _ _
set_option maxRecDepth 100000 in
theorem sg_251_4 (d : Nat) (σ : HP) (x2 x3 : Int) (u0 u1 u4 : MV) : rsP PG0 MX d 251 4 [u0, u1, vI x2, vL x3, u4] [] σ =
    cnd (wr (l_cmp x3 0) = 0)
      (some (x2, σ))
      (rsP PG0 MX d 251 4 [vU, vU, vI (x2 + 1), vL (l_and x3 (x3 - 1)), vU] [] σ) :=
  blkE (cs := pgA_251) rfl [4] 14 _ _ _ _
/-- OneAtATimeModel.isCutable(I)Z -/
theorem ce_252 (d : Nat) (σ : HP) (x0 x1 : Int) : clR PG0 MX (d + 1) 252 [vR x0, vI x1] σ = rsP PG0 MX d 252 0 [vR x0, vI x1] [] σ := rfl
set_option maxRecDepth 100000 in
theorem sg_252_0 (d : Nat) (σ : HP) (x0 x1 : Int) : rsP PG0 MX d 252 0 [vR x0, vI x1] [] σ =
    cnd (0 < x0 ∧ x0 < σ (-1) 0 ∧ σ x0 (-1) = 9) (bnd (clR PG0 MX d 206 [vR x0, vI x1] σ) (fun q1 => 
    cnd (wr q1.1 = 0)
        (rsP PG0 MX d 252 42 [vR x0, vI x1] [] q1.2)
        (cnd (32 ≤ x0 ∧ x0 < q1.2 (-1) 0 ∧ q1.2 x0 (-1) = 9) (cnd (wr (q1.2 x0 18) = 0)
          (rsP PG0 MX d 252 42 [vR x0, vI x1] [] q1.2)
          (cnd (0 < x0 ∧ x0 < q1.2 (-1) 0 ∧ q1.2 x0 (-1) = 9) (bnd (clR PG0 MX d 181 [vR x0, vI x1, vI 1] q1.2) (fun q2 => 
          cnd (wr q2.1 ≠ 0)
              (rsP PG0 MX d 252 42 [vR x0, vI x1] [] q2.2)
              (cnd (0 < x0 ∧ x0 < q2.2 (-1) 0 ∧ q2.2 x0 (-1) = 9) (bnd (clR PG0 MX d 181 [vR x0, vI x1, vI 2] q2.2) (fun q3 => 
              cnd (0 < x0 ∧ x0 < q3.2 (-1) 0 ∧ q3.2 x0 (-1) = 9) (bnd (clR PG0 MX d 207 [vR x0, vI x1] q3.2) (fun q4 => 
                cnd (wr q3.1 ≠ wr q4.1)
                    (rsP PG0 MX d 252 42 [vR x0, vI x1] [] q4.2)
                    (rsP PG0 MX d 252 38 [vR x0, vI x1] [] q4.2))) none)) none))) none)) none))) none :=
  blkE (cs := pgA_252) rfl [38, 42] 22 _ _ _ _
set_option maxRecDepth 100000 in
theorem sg_252_38 (d : Nat) (σ : HP) (x0 x1 : Int) : rsP PG0 MX d 252 38 [vR x0, vI x1] [] σ =
    some (1, σ) :=
  blkE (cs := pgA_252) rfl [38, 42] 4 _ _ _ _
set_option maxRecDepth 100000 in
theorem sg_252_42 (d : Nat) (σ : HP) (u0 u1 : MV) : rsP PG0 MX d 252 42 [u0, u1] [] σ =
    some (0, σ) :=
  blkE (cs := pgA_252) rfl [38, 42] 3 _ _ _ _
/-- OneAtATimeModel.makesExtended(IJ)V -/
theorem ce_253 (d : Nat) (σ : HP) (x0 x1 x2 : Int) : clR PG0 MX (d + 1) 253 [vR x0, vI x1, vL x2] σ = rsP PG0 MX d 253 0 [vR x0, vI x1, vL x2, vU, vU, vU, vU, vU, vU, vU] [] σ := rfl
set_option maxRecDepth 100000 in
theorem sg_253_0 (d : Nat) (σ : HP) (x0 x1 x2 : Int) : rsP PG0 MX d 253 0 [vR x0, vI x1, vL x2, vU, vU, vU, vU, vU, vU, vU] [] σ =
    cnd (0 < x0 ∧ x0 < σ (-1) 0 ∧ σ x0 (-1) = 9) (bnd (clR PG0 MX d 207 [vR x0, vI x1] σ) (fun q1 => 
    cnd (0 < x0 ∧ x0 < q1.2 (-1) 0 ∧ q1.2 x0 (-1) = 9) (bnd (clR PG0 MX d 204 [vR x0, vI x1] q1.2) (fun q2 => 
      cnd (32 ≤ x0 ∧ x0 < q2.2 (-1) 0 ∧ q2.2 x0 (-1) = 9) (rsP PG0 MX d 253 30 [vR x0, vI x1, vL x2, vU, vI q1.1, vI (q2.1 - 1), vI 0, vI 0, vI 0, vU] [] (up q2.2 x0 5 0)) none)) none)) none :=
  blkE (cs := pgA_253) rfl [30, 59, 60, 77, 103, 132, 162] 21 _ _ _ _
set_option maxRecDepth 100000 in
theorem sg_253_30 (d : Nat) (σ : HP) (x0 x1 x2 x4 x5 x6 x7 x8 : Int) (u3 u9 : MV) : rsP PG0 MX d 253 30 [vR x0, vI x1, vL x2, u3, vI x4, vI x5, vI x6, vI x7, vI x8, u9] [] σ =
    cnd (wr x5 < wr x8)
      (cnd (0 < x0 ∧ x0 < σ (-1) 0 ∧ σ x0 (-1) = 9) (bnd (clR PG0 MX d 196 [vR x0, vI x4] σ) (fun q1 => 
      cnd (0 < x0 ∧ x0 < q1.2 (-1) 0 ∧ q1.2 x0 (-1) = 9) (bnd (clR PG0 MX d 255 [vR x0, vI x1, vI 0, vI x5] q1.2) (fun q2 => 
        cnd (0 < x0 ∧ x0 < q2.2 (-1) 0 ∧ q2.2 x0 (-1) = 9) (bnd (clR PG0 MX d 196 [vR x0, vI (x4 + 1)] q2.2) (fun q3 => 
          some (0, q3.2))) none)) none)) none)
      (cnd (wr x5 ≤ wr x8)
        (rsP PG0 MX d 253 59 [vR x0, vI x1, vL x2, vU, vI x4, vI x5, vI x6, vI x7, vI x8, vU] [] σ)
        (cnd (wr (l_cmp (l_and (l_shr x2 x8) 1) 1) ≠ 0)
          (rsP PG0 MX d 253 59 [vR x0, vI x1, vL x2, vU, vI x4, vI x5, vI x6, vI x7, vI x8, vU] [] σ)
          (rsP PG0 MX d 253 60 [vR x0, vI x1, vL x2, vU, vI x4, vI x5, vI x6, vI x7, vI x8, vU] [vI 1] σ))) :=
  blkE (cs := pgA_253) rfl [30, 59, 60, 77, 103, 132, 162] 18 _ _ _ _
set_option maxRecDepth 100000 in
theorem sg_253_59 (d : Nat) (σ : HP) (x0 x1 x2 x4 x5 x6 x7 x8 : Int) (u3 u9 : MV) : rsP PG0 MX d 253 59 [vR x0, vI x1, vL x2, u3, vI x4, vI x5, vI x6, vI x7, vI x8, u9] [] σ =
    rsP PG0 MX d 253 60 [vR x0, vI x1, vL x2, vU, vI x4, vI x5, vI x6, vI x7, vI x8, vU] [vI 0] σ :=
  blkE (cs := pgA_253) rfl [30, 59, 60, 77, 103, 132, 162] 3 _ _ _ _
set_option maxRecDepth 100000 in
theorem sg_253_60 (d : Nat) (σ : HP) (x0 x1 x2 x4 x5 x6 x7 x8 y0 : Int) (u3 u9 : MV) : rsP PG0 MX d 253 60 [vR x0, vI x1, vL x2, u3, vI x4, vI x5, vI x6, vI x7, vI x8, u9] [vI y0] σ =
    cnd (wr y0 ≠ 0)
      (rsP PG0 MX d 253 77 [vR x0, vI x1, vL x2, vU, vI x4, vI x5, vI x6, vI x7, vI x8, vI y0] [] σ)
      (cnd (wr x5 ≤ wr x8)
        (rsP PG0 MX d 253 77 [vR x0, vI x1, vL x2, vU, vI x4, vI x5, vI x6, vI x7, vI x8, vI y0] [] σ)
        (rsP PG0 MX d 253 30 [vR x0, vI x1, vL x2, vU, vI x4, vI x5, vI x6, vI x7, vI (x8 + 1), vU] [] σ)) :=
  blkE (cs := pgA_253) rfl [30, 59, 60, 77, 103, 132, 162] 11 _ _ _ _
set_option maxRecDepth 100000 in
theorem sg_253_77 (d : Nat) (σ : HP) (x0 x1 x2 x4 x5 x6 x7 x8 : Int) (u3 u9 : MV) : rsP PG0 MX d 253 77 [vR x0, vI x1, vL x2, u3, vI x4, vI x5, vI x6, vI x7, vI x8, u9] [] σ =
    cnd (0 < x0 ∧ x0 < σ (-1) 0 ∧ σ x0 (-1) = 9) (bnd (clR PG0 MX d 254 [vR x0, vI x1, vI x6, vI x8] σ) (fun q1 => 
    cnd (wr 2 ≠ 0) (cnd (wr (i_rem x7 2) ≠ 0)
        (rsP PG0 MX d 253 103 [vR x0, vI x1, vL x2, vU, vI x4, vI x5, vI x6, vI x7, vI x8, vU] [vI (x4 + 1), vR x0] q1.2)
        (rsP PG0 MX d 253 103 [vR x0, vI x1, vL x2, vU, vI x4, vI x5, vI x6, vI x7, vI x8, vU] [vI x4, vR x0] q1.2)) none)) none :=
  blkE (cs := pgA_253) rfl [30, 59, 60, 77, 103, 132, 162] 15 _ _ _ _
set_option maxRecDepth 100000 in
theorem sg_253_103 (d : Nat) (σ : HP) (x0 x1 x2 x4 x5 x6 x7 x8 y0 y1 : Int) (u3 u9 : MV) : rsP PG0 MX d 253 103 [vR x0, vI x1, vL x2, u3, vI x4, vI x5, vI x6, vI x7, vI x8, u9] [vI y1, vR y0] σ =
    cnd (0 < y0 ∧ y0 < σ (-1) 0 ∧ σ y0 (-1) = 9) (bnd (clR PG0 MX d 196 [vR y0, vI y1] σ) (fun q1 => 
    cnd (0 < x0 ∧ x0 < q1.2 (-1) 0 ∧ q1.2 x0 (-1) = 9) (bnd (clR PG0 MX d 255 [vR x0, vI x1, vI x6, vI x8] q1.2) (fun q2 => 
      cnd (wr 2 ≠ 0) (cnd (wr (i_rem x7 2) ≠ 0)
          (rsP PG0 MX d 253 132 [vR x0, vI x1, vL x2, u3, vI x4, vI x5, vI x6, vI x7, vI x8, u9] [vI x4, vR x0] q2.2)
          (rsP PG0 MX d 253 132 [vR x0, vI x1, vL x2, u3, vI x4, vI x5, vI x6, vI x7, vI x8, u9] [vI (x4 + 1), vR x0] q2.2)) none)) none)) none :=
  blkE (cs := pgA_253) rfl [30, 59, 60, 77, 103, 132, 162] 17 _ _ _ _
set_option maxRecDepth 100000 in
theorem sg_253_132 (d : Nat) (σ : HP) (x0 x1 x2 x4 x5 x6 x7 x8 y0 y1 : Int) (u3 u9 : MV) : rsP PG0 MX d 253 132 [vR x0, vI x1, vL x2, u3, vI x4, vI x5, vI x6, vI x7, vI x8, u9] [vI y1, vR y0] σ =
    cnd (0 < y0 ∧ y0 < σ (-1) 0 ∧ σ y0 (-1) = 9) (bnd (clR PG0 MX d 196 [vR y0, vI y1] σ) (fun q1 => 
    cnd (0 < x0 ∧ x0 < q1.2 (-1) 0 ∧ q1.2 x0 (-1) = 9) (bnd (clR PG0 MX d 254 [vR x0, vI x1, vI x6, vI x8] q1.2) (fun q2 => 
      cnd (wr x5 ≤ wr x8)
          (rsP PG0 MX d 253 162 [vR x0, vI x1, vL x2, u3, vI x4, vI x5, vI x6, vI x7, vI x8, u9] [] q2.2)
          (cnd (0 < x0 ∧ x0 < q2.2 (-1) 0 ∧ q2.2 x0 (-1) = 9) (bnd (clR PG0 MX d 205 [vR x0, vI x1, vI x8] q2.2) (fun q3 => 
          cnd (0 < x0 ∧ x0 < q3.2 (-1) 0 ∧ q3.2 x0 (-1) = 9) (bnd (clR PG0 MX d 196 [vR x0, vI q3.1] q3.2) (fun q4 => 
            rsP PG0 MX d 253 162 [vR x0, vI x1, vL x2, u3, vI x4, vI x5, vI x6, vI x7, vI x8, u9] [] q4.2)) none)) none))) none)) none :=
  blkE (cs := pgA_253) rfl [30, 59, 60, 77, 103, 132, 162] 17 _ _ _ _
set_option maxRecDepth 100000 in
theorem sg_253_162 (d : Nat) (σ : HP) (x0 x1 x2 x4 x5 x7 x8 : Int) (u3 u6 u9 : MV) : rsP PG0 MX d 253 162 [vR x0, vI x1, vL x2, u3, vI x4, vI x5, u6, vI x7, vI x8, u9] [] σ =
    rsP PG0 MX d 253 30 [vR x0, vI x1, vL x2, vU, vI x4, vI x5, vI (x8 + 1), vI (x7 + 1), vI (x8 + 1), vU] [] σ :=
  blkE (cs := pgA_253) rfl [30, 59, 60, 77, 103, 132, 162] 9 _ _ _ _
/-- OneAtATimeModel.addsOn(III)V -/
theorem ce_254 (d : Nat) (σ : HP) (x0 x1 x2 x3 : Int) : clR PG0 MX (d + 1) 254 [vR x0, vI x1, vI x2, vI x3] σ = rsP PG0 MX d 254 0 [vR x0, vI x1, vI x2, vI x3, vU] [] σ := rfl
set_option maxRecDepth 100000 in
theorem sg_254_0 (d : Nat) (σ : HP) (x0 x1 x2 x3 : Int) : rsP PG0 MX d 254 0 [vR x0, vI x1, vI x2, vI x3, vU] [] σ =
    rsP PG0 MX d 254 3 [vR x0, vI x1, vI x2, vI x3, vI x2] [] σ :=
  blkE (cs := pgA_254) rfl [3] 4 _ _ _ _
set_option maxRecDepth 100000 in
theorem sg_254_3 (d : Nat) (σ : HP) (x0 x1 x3 x4 : Int) (u2 : MV) : rsP PG0 MX d 254 3 [vR x0, vI x1, u2, vI x3, vI x4] [] σ =
    cnd (wr x3 ≤ wr x4)
      (some (0, σ))
      (cnd (0 < x0 ∧ x0 < σ (-1) 0 ∧ σ x0 (-1) = 9) (bnd (clR PG0 MX d 205 [vR x0, vI x1, vI x4] σ) (fun q1 => 
      cnd (0 < x0 ∧ x0 < q1.2 (-1) 0 ∧ q1.2 x0 (-1) = 9) (bnd (clR PG0 MX d 196 [vR x0, vI q1.1] q1.2) (fun q2 => 
        rsP PG0 MX d 254 3 [vR x0, vI x1, vU, vI x3, vI (x4 + 1)] [] q2.2)) none)) none) :=
  blkE (cs := pgA_254) rfl [3] 13 _ _ _ _
/-- OneAtATimeModel.addsBack(III)V -/
theorem ce_255 (d : Nat) (σ : HP) (x0 x1 x2 x3 : Int) : clR PG0 MX (d + 1) 255 [vR x0, vI x1, vI x2, vI x3] σ = rsP PG0 MX d 255 0 [vR x0, vI x1, vI x2, vI x3, vU] [] σ := rfl
set_option maxRecDepth 100000 in
theorem sg_255_0 (d : Nat) (σ : HP) (x0 x1 x2 x3 : Int) : rsP PG0 MX d 255 0 [vR x0, vI x1, vI x2, vI x3, vU] [] σ =
    rsP PG0 MX d 255 5 [vR x0, vI x1, vI x2, vI x3, vI (x3 - 1)] [] σ :=
  blkE (cs := pgA_255) rfl [5] 6 _ _ _ _
set_option maxRecDepth 100000 in
theorem sg_255_5 (d : Nat) (σ : HP) (x0 x1 x2 x4 : Int) (u3 : MV) : rsP PG0 MX d 255 5 [vR x0, vI x1, vI x2, u3, vI x4] [] σ =
    cnd (wr x4 < wr x2)
      (some (0, σ))
      (cnd (0 < x0 ∧ x0 < σ (-1) 0 ∧ σ x0 (-1) = 9) (bnd (clR PG0 MX d 205 [vR x0, vI x1, vI x4] σ) (fun q1 => 
      cnd (0 < x0 ∧ x0 < q1.2 (-1) 0 ∧ q1.2 x0 (-1) = 9) (bnd (clR PG0 MX d 196 [vR x0, vI q1.1] q1.2) (fun q2 => 
        rsP PG0 MX d 255 5 [vR x0, vI x1, vI x2, vU, vI (x4 + (-1))] [] q2.2)) none)) none) :=
  blkE (cs := pgA_255) rfl [5] 13 _ _ _ _
/-- OneAtATimeModel.evenest(II)J -/
theorem ce_256 (d : Nat) (σ : HP) (x0 x1 x2 : Int) : clR PG0 MX (d + 1) 256 [vR x0, vI x1, vI x2] σ = rsP PG0 MX d 256 0 [vR x0, vI x1, vI x2, vU, vU, vU, vU] [] σ := rfl
set_option maxRecDepth 100000 in
theorem sg_256_0 (d : Nat) (σ : HP) (x0 x1 x2 : Int) : rsP PG0 MX d 256 0 [vR x0, vI x1, vI x2, vU, vU, vU, vU] [] σ =
    cnd (0 < x0 ∧ x0 < σ (-1) 0 ∧ σ x0 (-1) = 9) (bnd (clR PG0 MX d 180 [vR x0, vI x1] σ) (fun q1 => 
    cnd (wr q1.1 = 0)
        (some ((-2), q1.2))
        (bnd (clR PG0 MX d 179 [vL (wr x2), vL 0, vL 1] q1.2) (fun q2 => 
        cnd (wr q2.1 ≠ 0)
            (cnd (0 < x0 ∧ x0 < q2.2 (-1) 0 ∧ q2.2 x0 (-1) = 9) (bnd (clR PG0 MX d 204 [vR x0, vI x1] q2.2) (fun q3 => 
            cnd (wr q3.1 ≤ wr 16)
                (cnd (0 < x0 ∧ x0 < q3.2 (-1) 0 ∧ q3.2 x0 (-1) = 9) (bnd (clR PG0 MX d 252 [vR x0, vI x1] q3.2) (fun q4 => 
                cnd (wr q4.1 ≠ 0)
                    (rsP PG0 MX d 256 48 [vR x0, vI x1, vI x2, vU, vU, vU, vU] [] q4.2)
                    (rsP PG0 MX d 256 44 [vR x0, vI x1, vI x2, vU, vU, vU, vU] [] q4.2))) none)
                (some ((-5), q3.2)))) none)
            (some ((-2), q2.2)))))) none :=
  blkE (cs := pgA_256) rfl [44, 48, 58, 107] 21 _ _ _ _
set_option maxRecDepth 100000 in
theorem sg_256_44 (d : Nat) (σ : HP) (x0 x1 x2 : Int) (u3 u4 u5 u6 : MV) : rsP PG0 MX d 256 44 [vR x0, vI x1, vI x2, u3, u4, u5, u6] [] σ =
    some ((-6), σ) :=
  blkE (cs := pgA_256) rfl [44, 48, 58, 107] 3 _ _ _ _
set_option maxRecDepth 100000 in
theorem sg_256_48 (d : Nat) (σ : HP) (x0 x1 x2 : Int) (u3 u4 u5 u6 : MV) : rsP PG0 MX d 256 48 [vR x0, vI x1, vI x2, u3, u4, u5, u6] [] σ =
    rsP PG0 MX d 256 58 [vR x0, vI x1, vI x2, vI 0, vI 1000, vI 0, u6] [] σ :=
  blkE (cs := pgA_256) rfl [44, 48, 58, 107] 8 _ _ _ _
set_option maxRecDepth 100000 in
theorem sg_256_58 (d : Nat) (σ : HP) (x0 x1 x2 x3 x4 x5 : Int) (u6 : MV) : rsP PG0 MX d 256 58 [vR x0, vI x1, vI x2, vI x3, vI x4, vI x5, u6] [] σ =
    cnd (0 < x0 ∧ x0 < σ (-1) 0 ∧ σ x0 (-1) = 9) (bnd (clR PG0 MX d 204 [vR x0, vI x1] σ) (fun q1 => 
    cnd (wr (i_shl 1 (q1.1 - 1)) ≤ wr x5)
        (cnd (wr x2 ≠ 0)
          (some (wr x3, q1.2))
          (some (wr x4, q1.2)))
        (bnd (clR PG0 MX d 209 [vI x5] q1.2) (fun q2 => 
        cnd (wr 2 ≠ 0) (cnd (wr (i_rem q2.1 2) ≠ wr 1)
            (cnd (0 < x0 ∧ x0 < q2.2 (-1) 0 ∧ q2.2 x0 (-1) = 9) (bnd (clR PG0 MX d 253 [vR x0, vI x1, vL (wr x5)] q2.2) (fun q3 => 
            cnd (0 < x0 ∧ x0 < q3.2 (-1) 0 ∧ q3.2 x0 (-1) = 9) (bnd (clR PG0 MX d 207 [vR x0, vI x1] q3.2) (fun q4 => 
              cnd (0 < x0 ∧ x0 < q4.2 (-1) 0 ∧ q4.2 x0 (-1) = 9) (bnd (clR PG0 MX d 257 [vR x0, vI (q4.1 + 2)] q4.2) (fun q5 => 
                rsP PG0 MX d 256 107 [vR x0, vI x1, vI x2, vI x3, vI x4, vI x5, vI q5.1] [] q5.2)) none)) none)) none)
            (rsP PG0 MX d 256 58 [vR x0, vI x1, vI x2, vI x3, vI x4, vI (x5 + 1), vU] [] q2.2)) none)))) none :=
  blkE (cs := pgA_256) rfl [44, 48, 58, 107] 30 _ _ _ _
set_option maxRecDepth 100000 in
theorem sg_256_107 (d : Nat) (σ : HP) (x0 x1 x2 x3 x4 x5 x6 : Int) : rsP PG0 MX d 256 107 [vR x0, vI x1, vI x2, vI x3, vI x4, vI x5, vI x6] [] σ =
    cnd (wr x4 ≤ wr x6)
      (rsP PG0 MX d 256 58 [vR x0, vI x1, vI x2, vI x3, vI x4, vI (x5 + 1), vU] [] σ)
      (rsP PG0 MX d 256 58 [vR x0, vI x1, vI x2, vI x5, vI x6, vI (x5 + 1), vU] [] σ) :=
  blkE (cs := pgA_256) rfl [44, 48, 58, 107] 11 _ _ _ _
/-- OneAtATimeModel.unevenMade(I)I -/
theorem ce_257 (d : Nat) (σ : HP) (x0 x1 : Int) : clR PG0 MX (d + 1) 257 [vR x0, vI x1] σ = rsP PG0 MX d 257 0 [vR x0, vI x1, vU, vU, vU, vU, vU] [] σ := rfl
set_option maxRecDepth 100000 in
theorem sg_257_0 (d : Nat) (σ : HP) (x0 x1 : Int) : rsP PG0 MX d 257 0 [vR x0, vI x1, vU, vU, vU, vU, vU] [] σ =
    rsP PG0 MX d 257 9 [vR x0, vI x1, vI 0, vI 1000, vI 0, vU, vU] [] σ :=
  blkE (cs := pgA_257) rfl [9, 21] 8 _ _ _ _
set_option maxRecDepth 100000 in
theorem sg_257_9 (d : Nat) (σ : HP) (x0 x1 x2 x3 x4 : Int) (u5 u6 : MV) : rsP PG0 MX d 257 9 [vR x0, vI x1, vI x2, vI x3, vI x4, u5, u6] [] σ =
    cnd (wr x1 ≤ wr x4)
      (some (x2 - x3, σ))
      (rsP PG0 MX d 257 21 [vR x0, vI x1, vI x2, vI x3, vI x4, vI 0, vI 0] [] σ) :=
  blkE (cs := pgA_257) rfl [9, 21] 9 _ _ _ _
set_option maxRecDepth 100000 in
theorem sg_257_21 (d : Nat) (σ : HP) (x0 x1 x2 x3 x4 x5 x6 : Int) : rsP PG0 MX d 257 21 [vR x0, vI x1, vI x2, vI x3, vI x4, vI x5, vI x6] [] σ =
    cnd (32 ≤ x0 ∧ x0 < σ (-1) 0 ∧ σ x0 (-1) = 9) (cnd (wr (σ x0 5) ≤ wr x6)
      (bnd (clR PG0 MX d 1004 [vI x2, vI x5] σ) (fun q1 => 
      bnd (clR PG0 MX d 1005 [vI x3, vI x5] q1.2) (fun q2 => 
        rsP PG0 MX d 257 9 [vR x0, vI x1, vI q1.1, vI q2.1, vI (x4 + 1), vI x5, vI x6] [] q2.2)))
      (cnd (32 ≤ x0 ∧ x0 < σ (-1) 0 ∧ σ x0 (-1) = 9) (cnd (0 < (σ x0 4) ∧ (σ x0 4) < σ (-1) 0 ∧ σ (σ x0 4) (-1) = 20 ∧ 0 ≤ wr x6 ∧ wr x6 < σ (σ x0 4) (-2)) (cnd (wr (σ (σ x0 4) (wr x6)) ≠ wr x4)
        (rsP PG0 MX d 257 21 [vR x0, vI x1, vI x2, vI x3, vI x4, vI (x5 + 0), vI (x6 + 1)] [] σ)
        (rsP PG0 MX d 257 21 [vR x0, vI x1, vI x2, vI x3, vI x4, vI (x5 + 1), vI (x6 + 1)] [] σ)) none) none)) none :=
  blkE (cs := pgA_257) rfl [9, 21] 19 _ _ _ _
/-- OneAtATimeModel.open(I)I -/
theorem ce_258 (d : Nat) (σ : HP) (x0 x1 : Int) : clR PG0 MX (d + 1) 258 [vR x0, vI x1] σ = rsP PG0 MX d 258 0 [vR x0, vI x1, vU, vU, vU] [] σ := rfl
set_option maxRecDepth 100000 in
theorem sg_258_0 (d : Nat) (σ : HP) (x0 x1 : Int) : rsP PG0 MX d 258 0 [vR x0, vI x1, vU, vU, vU] [] σ =
    cnd (0 < x0 ∧ x0 < σ (-1) 0 ∧ σ x0 (-1) = 9) (bnd (clR PG0 MX d 180 [vR x0, vI x1] σ) (fun q1 => 
    cnd (wr q1.1 ≠ 0)
        (cnd (0 < x0 ∧ x0 < q1.2 (-1) 0 ∧ q1.2 x0 (-1) = 9) (bnd (clR PG0 MX d 203 [vR x0, vI x1] q1.2) (fun q2 => 
        rsP PG0 MX d 258 20 [vR x0, vI x1, vI 0, vI 0, vU] [] q2.2)) none)
        (some ((-2), q1.2)))) none :=
  blkE (cs := pgA_258) rfl [20] 13 _ _ _ _
set_option maxRecDepth 100000 in
theorem sg_258_20 (d : Nat) (σ : HP) (x0 x1 x2 x3 : Int) (u4 : MV) : rsP PG0 MX d 258 20 [vR x0, vI x1, vI x2, vI x3, u4] [] σ =
    cnd (0 < x0 ∧ x0 < σ (-1) 0 ∧ σ x0 (-1) = 9) (bnd (clR PG0 MX d 207 [vR x0, vI x1] σ) (fun q1 => 
    cnd (wr q1.1 ≤ wr x3)
        (some (x2, q1.2))
        (cnd (32 ≤ x0 ∧ x0 < q1.2 (-1) 0 ∧ q1.2 x0 (-1) = 9) (cnd (0 < x0 ∧ x0 < q1.2 (-1) 0 ∧ q1.2 x0 (-1) = 9) (bnd (clR PG0 MX d 204 [vR x0, vI x1] q1.2) (fun q2 => 
        cnd (0 < (q1.2 x0 15) ∧ (q1.2 x0 15) < q2.2 (-1) 0 ∧ q2.2 (q1.2 x0 15) (-1) = 20 ∧ 0 ≤ wr q2.1 ∧ wr q2.1 < q2.2 (q1.2 x0 15) (-2)) (cnd (0 < x0 ∧ x0 < q2.2 (-1) 0 ∧ q2.2 x0 (-1) = 9) (bnd (clR PG0 MX d 208 [vR x0, vI x1, vI (i_xor (q2.2 (q1.2 x0 15) (wr q2.1)) (i_shl 1 x3))] q2.2) (fun q3 => 
          cnd (wr q3.1 = 0)
              (rsP PG0 MX d 258 20 [vR x0, vI x1, vI (i_or x2 0), vI (x3 + 1), vU] [] q3.2)
              (cnd (32 ≤ x0 ∧ x0 < q3.2 (-1) 0 ∧ q3.2 x0 (-1) = 9) (cnd (0 < (q3.2 x0 16) ∧ (q3.2 x0 16) < q3.2 (-1) 0 ∧ q3.2 (q3.2 x0 16) (-1) = 20 ∧ 0 ≤ wr (i_xor (q2.2 (q1.2 x0 15) (wr q2.1)) (i_shl 1 x3)) ∧ wr (i_xor (q2.2 (q1.2 x0 15) (wr q2.1)) (i_shl 1 x3)) < q3.2 (q3.2 x0 16) (-2)) (cnd (wr (q3.2 (q3.2 x0 16) (wr (i_xor (q2.2 (q1.2 x0 15) (wr q2.1)) (i_shl 1 x3)))) ≠ 0)
                (rsP PG0 MX d 258 20 [vR x0, vI x1, vI (i_or x2 0), vI (x3 + 1), vU] [] q3.2)
                (rsP PG0 MX d 258 20 [vR x0, vI x1, vI (i_or x2 (i_shl 1 x3)), vI (x3 + 1), vU] [] q3.2)) none) none))) none) none)) none) none))) none :=
  blkE (cs := pgA_258) rfl [20] 37 _ _ _ _
/-- OneAtATimeModel.way(III)I -/
theorem ce_259 (d : Nat) (σ : HP) (x0 x1 x2 x3 : Int) : clR PG0 MX (d + 1) 259 [vR x0, vI x1, vI x2, vI x3] σ = rsP PG0 MX d 259 0 [vR x0, vI x1, vI x2, vI x3, vU, vU, vU, vU] [] σ := rfl
set_option maxRecDepth 100000 in
theorem sg_259_0 (d : Nat) (σ : HP) (x0 x1 x2 x3 : Int) : rsP PG0 MX d 259 0 [vR x0, vI x1, vI x2, vI x3, vU, vU, vU, vU] [] σ =
    cnd (0 < x0 ∧ x0 < σ (-1) 0 ∧ σ x0 (-1) = 9) (bnd (clR PG0 MX d 221 [vR x0, vI x1, vI x2] σ) (fun q1 => 
    cnd (wr q1.1 = 0)
        (some ((-2), q1.2))
        (cnd (0 < x0 ∧ x0 < q1.2 (-1) 0 ∧ q1.2 x0 (-1) = 9) (bnd (clR PG0 MX d 221 [vR x0, vI x1, vI x3] q1.2) (fun q2 => 
        cnd (wr q2.1 ≠ 0)
            (cnd (0 < x0 ∧ x0 < q2.2 (-1) 0 ∧ q2.2 x0 (-1) = 9) (bnd (clR PG0 MX d 203 [vR x0, vI x1] q2.2) (fun q3 => 
            rsP PG0 MX d 259 29 [vR x0, vI x1, vI x2, vI x3, vI 0, vU, vU, vU] [] q3.2)) none)
            (some ((-2), q2.2)))) none))) none :=
  blkE (cs := pgA_259) rfl [29, 61, 82, 112, 168] 17 _ _ _ _
set_option maxRecDepth 100000 in
theorem sg_259_29 (d : Nat) (σ : HP) (x0 x1 x2 x3 x4 : Int) (u5 u6 u7 : MV) : rsP PG0 MX d 259 29 [vR x0, vI x1, vI x2, vI x3, vI x4, u5, u6, u7] [] σ =
    cnd (wr 256 ≤ wr x4)
      (cnd (32 ≤ x0 ∧ x0 < σ (-1) 0 ∧ σ x0 (-1) = 9) (cnd (32 ≤ (σ x0 24) ∧ (σ x0 24) < σ (-1) 0 ∧ σ (σ x0 24) (-1) = 20 ∧ 0 ≤ wr x2 ∧ wr x2 < σ (σ x0 24) (-2)) (rsP PG0 MX d 259 61 [vR x0, vI x1, vI x2, vI x3, vI 0, vU, vU, vU] [] (up σ (σ x0 24) (wr x2) 0)) none) none)
      (cnd (32 ≤ x0 ∧ x0 < σ (-1) 0 ∧ σ x0 (-1) = 9) (cnd (32 ≤ (σ x0 24) ∧ (σ x0 24) < σ (-1) 0 ∧ σ (σ x0 24) (-1) = 20 ∧ 0 ≤ wr x4 ∧ wr x4 < σ (σ x0 24) (-2)) (rsP PG0 MX d 259 29 [vR x0, vI x1, vI x2, vI x3, vI (x4 + 1), vU, vU, vU] [] (up σ (σ x0 24) (wr x4) ((-1)))) none) none) :=
  blkE (cs := pgA_259) rfl [29, 61, 82, 112, 168] 12 _ _ _ _
set_option maxRecDepth 100000 in
theorem sg_259_61 (d : Nat) (σ : HP) (x0 x1 x3 x4 : Int) (u2 u5 u6 u7 : MV) : rsP PG0 MX d 259 61 [vR x0, vI x1, u2, vI x3, vI x4, u5, u6, u7] [] σ =
    cnd (wr 256 ≤ wr x4)
      (cnd (32 ≤ x0 ∧ x0 < σ (-1) 0 ∧ σ x0 (-1) = 9) (cnd (0 < (σ x0 24) ∧ (σ x0 24) < σ (-1) 0 ∧ σ (σ x0 24) (-1) = 20 ∧ 0 ≤ wr x3 ∧ wr x3 < σ (σ x0 24) (-2)) (some (σ (σ x0 24) (wr x3), σ)) none) none)
      (cnd (32 ≤ x0 ∧ x0 < σ (-1) 0 ∧ σ x0 (-1) = 9) (cnd (0 < (σ x0 24) ∧ (σ x0 24) < σ (-1) 0 ∧ σ (σ x0 24) (-1) = 20 ∧ 0 ≤ wr x3 ∧ wr x3 < σ (σ x0 24) (-2)) (cnd (wr (σ (σ x0 24) (wr x3)) ≠ wr ((-1)))
        (cnd (32 ≤ x0 ∧ x0 < σ (-1) 0 ∧ σ x0 (-1) = 9) (cnd (0 < (σ x0 24) ∧ (σ x0 24) < σ (-1) 0 ∧ σ (σ x0 24) (-1) = 20 ∧ 0 ≤ wr x3 ∧ wr x3 < σ (σ x0 24) (-2)) (some (σ (σ x0 24) (wr x3), σ)) none) none)
        (rsP PG0 MX d 259 82 [vR x0, vI x1, vU, vI x3, vI x4, vI 0, vU, vU] [] σ)) none) none) :=
  blkE (cs := pgA_259) rfl [29, 61, 82, 112, 168] 15 _ _ _ _
set_option maxRecDepth 100000 in
theorem sg_259_82 (d : Nat) (σ : HP) (x0 x1 x3 x4 x5 : Int) (u2 u6 u7 : MV) : rsP PG0 MX d 259 82 [vR x0, vI x1, u2, vI x3, vI x4, vI x5, u6, u7] [] σ =
    cnd (0 < x0 ∧ x0 < σ (-1) 0 ∧ σ x0 (-1) = 9) (bnd (clR PG0 MX d 207 [vR x0, vI x1] σ) (fun q1 => 
    cnd (wr (i_shl 1 q1.1) ≤ wr x5)
        (rsP PG0 MX d 259 61 [vR x0, vI x1, vU, vI x3, vI (x4 + 1), vI x5, vU, vU] [] q1.2)
        (cnd (32 ≤ x0 ∧ x0 < q1.2 (-1) 0 ∧ q1.2 x0 (-1) = 9) (cnd (0 < (q1.2 x0 24) ∧ (q1.2 x0 24) < q1.2 (-1) 0 ∧ q1.2 (q1.2 x0 24) (-1) = 20 ∧ 0 ≤ wr x5 ∧ wr x5 < q1.2 (q1.2 x0 24) (-2)) (cnd (wr (q1.2 (q1.2 x0 24) (wr x5)) = wr x4)
          (rsP PG0 MX d 259 112 [vR x0, vI x1, vU, vI x3, vI x4, vI x5, vI 0, vU] [] q1.2)
          (rsP PG0 MX d 259 82 [vR x0, vI x1, vU, vI x3, vI x4, vI (x5 + 1), vU, vU] [] q1.2)) none) none))) none :=
  blkE (cs := pgA_259) rfl [29, 61, 82, 112, 168] 18 _ _ _ _
set_option maxRecDepth 100000 in
theorem sg_259_112 (d : Nat) (σ : HP) (x0 x1 x3 x4 x5 x6 : Int) (u2 u7 : MV) : rsP PG0 MX d 259 112 [vR x0, vI x1, u2, vI x3, vI x4, vI x5, vI x6, u7] [] σ =
    cnd (0 < x0 ∧ x0 < σ (-1) 0 ∧ σ x0 (-1) = 9) (bnd (clR PG0 MX d 207 [vR x0, vI x1] σ) (fun q1 => 
    cnd (wr q1.1 ≤ wr x6)
        (rsP PG0 MX d 259 82 [vR x0, vI x1, vU, vI x3, vI x4, vI (x5 + 1), vU, vU] [] q1.2)
        (cnd (32 ≤ x0 ∧ x0 < q1.2 (-1) 0 ∧ q1.2 x0 (-1) = 9) (cnd (0 < (q1.2 x0 24) ∧ (q1.2 x0 24) < q1.2 (-1) 0 ∧ q1.2 (q1.2 x0 24) (-1) = 20 ∧ 0 ≤ wr (i_xor x5 (i_shl 1 x6)) ∧ wr (i_xor x5 (i_shl 1 x6)) < q1.2 (q1.2 x0 24) (-2)) (cnd (wr (q1.2 (q1.2 x0 24) (wr (i_xor x5 (i_shl 1 x6)))) ≠ wr ((-1)))
          (rsP PG0 MX d 259 112 [vR x0, vI x1, vU, vI x3, vI x4, vI x5, vI (x6 + 1), vU] [] q1.2)
          (cnd (wr (i_xor x5 (i_shl 1 x6)) = wr x3)
            (rsP PG0 MX d 259 168 [vR x0, vI x1, vU, vI x3, vI x4, vI x5, vI x6, vI (i_xor x5 (i_shl 1 x6))] [] q1.2)
            (cnd (0 < x0 ∧ x0 < q1.2 (-1) 0 ∧ q1.2 x0 (-1) = 9) (bnd (clR PG0 MX d 208 [vR x0, vI x1, vI (i_xor x5 (i_shl 1 x6))] q1.2) (fun q2 => 
            cnd (wr q2.1 = 0)
                (rsP PG0 MX d 259 112 [vR x0, vI x1, vU, vI x3, vI x4, vI x5, vI (x6 + 1), vU] [] q2.2)
                (cnd (32 ≤ x0 ∧ x0 < q2.2 (-1) 0 ∧ q2.2 x0 (-1) = 9) (cnd (0 < (q2.2 x0 16) ∧ (q2.2 x0 16) < q2.2 (-1) 0 ∧ q2.2 (q2.2 x0 16) (-1) = 20 ∧ 0 ≤ wr (i_xor x5 (i_shl 1 x6)) ∧ wr (i_xor x5 (i_shl 1 x6)) < q2.2 (q2.2 x0 16) (-2)) (cnd (wr (q2.2 (q2.2 x0 16) (wr (i_xor x5 (i_shl 1 x6)))) ≠ 0)
                  (rsP PG0 MX d 259 112 [vR x0, vI x1, vU, vI x3, vI x4, vI x5, vI (x6 + 1), vU] [] q2.2)
                  (rsP PG0 MX d 259 168 [vR x0, vI x1, vU, vI x3, vI x4, vI x5, vI x6, vI (i_xor x5 (i_shl 1 x6))] [] q2.2)) none) none))) none))) none) none))) none :=
  blkE (cs := pgA_259) rfl [29, 61, 82, 112, 168] 34 _ _ _ _
set_option maxRecDepth 100000 in
theorem sg_259_168 (d : Nat) (σ : HP) (x0 x1 x3 x4 x5 x6 x7 : Int) (u2 : MV) : rsP PG0 MX d 259 168 [vR x0, vI x1, u2, vI x3, vI x4, vI x5, vI x6, vI x7] [] σ =
    cnd (32 ≤ x0 ∧ x0 < σ (-1) 0 ∧ σ x0 (-1) = 9) (cnd (32 ≤ (σ x0 24) ∧ (σ x0 24) < σ (-1) 0 ∧ σ (σ x0 24) (-1) = 20 ∧ 0 ≤ wr x7 ∧ wr x7 < σ (σ x0 24) (-2)) (rsP PG0 MX d 259 112 [vR x0, vI x1, vU, vI x3, vI x4, vI x5, vI (x6 + 1), vU] [] (up σ (σ x0 24) (wr x7) (x4 + 1))) none) none :=
  blkE (cs := pgA_259) rfl [29, 61, 82, 112, 168] 11 _ _ _ _
/-- OneAtATimeModel.tracks(IIII)I -/
theorem ce_260 (d : Nat) (σ : HP) (x0 x1 x2 x3 x4 : Int) : clR PG0 MX (d + 1) 260 [vR x0, vI x1, vI x2, vI x3, vI x4] σ = rsP PG0 MX d 260 0 [vR x0, vI x1, vI x2, vI x3, vI x4, vU, vU, vU, vU] [] σ := rfl
set_option maxRecDepth 100000 in
theorem sg_260_0 (d : Nat) (σ : HP) (x0 x1 x2 x3 x4 : Int) : rsP PG0 MX d 260 0 [vR x0, vI x1, vI x2, vI x3, vI x4, vU, vU, vU, vU] [] σ =
    cnd (0 < x0 ∧ x0 < σ (-1) 0 ∧ σ x0 (-1) = 9) (bnd (clR PG0 MX d 180 [vR x0, vI x1] σ) (fun q1 => 
    cnd (wr q1.1 = 0)
        (rsP PG0 MX d 260 65 [vR x0, vI x1, vI x2, vI x3, vI x4, vU, vU, vU, vU] [] q1.2)
        (cnd (0 < x0 ∧ x0 < q1.2 (-1) 0 ∧ q1.2 x0 (-1) = 9) (bnd (clR PG0 MX d 207 [vR x0, vI x1] q1.2) (fun q2 => 
        cnd (wr q2.1 < wr 2)
            (rsP PG0 MX d 260 65 [vR x0, vI x1, vI x2, vI x3, vI x4, vU, vU, vU, vU] [] q2.2)
            (cnd (wr x2 < wr 1)
              (rsP PG0 MX d 260 65 [vR x0, vI x1, vI x2, vI x3, vI x4, vU, vU, vU, vU] [] q2.2)
              (bnd (clR PG0 MX d 179 [vL (wr x4), vL 1, vL 50000] q2.2) (fun q3 => 
              cnd (wr q3.1 = 0)
                  (rsP PG0 MX d 260 65 [vR x0, vI x1, vI x2, vI x3, vI x4, vU, vU, vU, vU] [] q3.2)
                  (cnd (0 < x0 ∧ x0 < q3.2 (-1) 0 ∧ q3.2 x0 (-1) = 9) (bnd (clR PG0 MX d 207 [vR x0, vI x1] q3.2) (fun q4 => 
                  bnd (clR PG0 MX d 179 [vL (wr x3), vL 1, vL (wr (q4.1 - 1))] q4.2) (fun q5 => 
                    cnd (wr q5.1 = 0)
                        (rsP PG0 MX d 260 65 [vR x0, vI x1, vI x2, vI x3, vI x4, vU, vU, vU, vU] [] q5.2)
                        (rsP PG0 MX d 260 52 [vR x0, vI x1, vI x2, vI x3, vI x4, vU, vU, vU, vU] [] q5.2)))) none)))))) none))) none :=
  blkE (cs := pgA_260) rfl [52, 65, 96, 156, 177] 31 _ _ _ _
set_option maxRecDepth 100000 in
theorem sg_260_52 (d : Nat) (σ : HP) (x0 x1 x2 x3 x4 : Int) (u5 u6 u7 u8 : MV) : rsP PG0 MX d 260 52 [vR x0, vI x1, vI x2, vI x3, vI x4, u5, u6, u7, u8] [] σ =
    cnd (0 < x0 ∧ x0 < σ (-1) 0 ∧ σ x0 (-1) = 9) (bnd (clR PG0 MX d 207 [vR x0, vI x1] σ) (fun q1 => 
    bnd (clR PG0 MX d 261 [vI q1.1, vI x3] q1.2) (fun q2 => 
      cnd (wr q2.1 = wr 1)
          (cnd (0 < x0 ∧ x0 < q2.2 (-1) 0 ∧ q2.2 x0 (-1) = 9) (bnd (clR PG0 MX d 207 [vR x0, vI x1] q2.2) (fun q3 => 
          cnd (wr q3.1 ≠ 0) (cnd (wr x2 ≤ wr (i_div 256 q3.1))
              (cnd (0 < x0 ∧ x0 < q3.2 (-1) 0 ∧ q3.2 x0 (-1) = 9) (bnd (clR PG0 MX d 181 [vR x0, vI x1, vI 3] q3.2) (fun q4 => 
              rsP PG0 MX d 260 96 [vR x0, vI x1, vI x2, vI x3, vI x4, vI q3.1, vI q4.1, u7, u8] [] q4.2)) none)
              (some ((-5), q3.2))) none)) none)
          (rsP PG0 MX d 260 65 [vR x0, vI x1, vI x2, vI x3, vI x4, u5, u6, u7, u8] [] q2.2)))) none :=
  blkE (cs := pgA_260) rfl [52, 65, 96, 156, 177] 23 _ _ _ _
set_option maxRecDepth 100000 in
theorem sg_260_65 (d : Nat) (σ : HP) (u0 u1 u2 u3 u4 u5 u6 u7 u8 : MV) : rsP PG0 MX d 260 65 [u0, u1, u2, u3, u4, u5, u6, u7, u8] [] σ =
    some ((-2), σ) :=
  blkE (cs := pgA_260) rfl [52, 65, 96, 156, 177] 3 _ _ _ _
set_option maxRecDepth 100000 in
theorem sg_260_96 (d : Nat) (σ : HP) (x0 x1 x2 x3 x4 x5 x6 : Int) (u7 u8 : MV) : rsP PG0 MX d 260 96 [vR x0, vI x1, vI x2, vI x3, vI x4, vI x5, vI x6, u7, u8] [] σ =
    cnd (0 < x0 ∧ x0 < σ (-1) 0 ∧ σ x0 (-1) = 9) (bnd (clR PG0 MX d 262 [vR x0, vI x5, vI x6] σ) (fun q1 => 
    cnd (wr q1.1 = 0)
        (cnd (0 < x0 ∧ x0 < q1.2 (-1) 0 ∧ q1.2 x0 (-1) = 9) (bnd (clR PG0 MX d 247 [vR x0] q1.2) (fun q2 => 
        cnd (0 < x0 ∧ x0 < q2.2 (-1) 0 ∧ q2.2 x0 (-1) = 9) (bnd (clR PG0 MX d 264 [vR x0, vI x5, vI x6, vI 1] q2.2) (fun q3 => 
          cnd (32 ≤ x0 ∧ x0 < q3.2 (-1) 0 ∧ q3.2 x0 (-1) = 9) (cnd (32 ≤ (q3.2 x0 20) ∧ (q3.2 x0 20) < q3.2 (-1) 0 ∧ q3.2 (q3.2 x0 20) (-1) = 20 ∧ 0 ≤ wr 0 ∧ wr 0 < q3.2 (q3.2 x0 20) (-2)) (cnd (32 ≤ x0 ∧ x0 < (up q3.2 (q3.2 x0 20) (wr 0) x6) (-1) 0 ∧ (up q3.2 (q3.2 x0 20) (wr 0) x6) x0 (-1) = 9) (cnd (0 < x0 ∧ x0 < (up (up q3.2 (q3.2 x0 20) (wr 0) x6) x0 21 0) (-1) 0 ∧ (up (up q3.2 (q3.2 x0 20) (wr 0) x6) x0 21 0) x0 (-1) = 9) (bnd (clR PG0 MX d 263 [vR x0, vI x5, vI x6, vI x3] (up (up q3.2 (q3.2 x0 20) (wr 0) x6) x0 21 0)) (fun q4 => 
            cnd (0 < x0 ∧ x0 < q4.2 (-1) 0 ∧ q4.2 x0 (-1) = 9) (bnd (clR PG0 MX d 265 [vR x0, vI x5, vI 0, vI x2, vI q4.1, vI x4] q4.2) (fun q5 => 
              rsP PG0 MX d 260 156 [vR x0, vI x1, vI x2, vI x3, vI x4, vI x5, vI x6, vI q5.1, u8] [] q5.2)) none)) none) none) none) none)) none)) none)
        (some ((-1), q1.2)))) none :=
  blkE (cs := pgA_260) rfl [52, 65, 96, 156, 177] 34 _ _ _ _
set_option maxRecDepth 100000 in
theorem sg_260_156 (d : Nat) (σ : HP) (x0 x1 x2 x3 x4 x5 x6 x7 : Int) (u8 : MV) : rsP PG0 MX d 260 156 [vR x0, vI x1, vI x2, vI x3, vI x4, vI x5, vI x6, vI x7, u8] [] σ =
    cnd (wr x7 = wr 1)
      (rsP PG0 MX d 260 177 [vR x0, vI x1, vI x2, vI x3, vI x4, vI x5, vI x6, vI x7, vI x2] [] σ)
      (cnd (wr x7 ≠ 0)
        (some ((-3), σ))
        (some ((-1), σ))) :=
  blkE (cs := pgA_260) rfl [52, 65, 96, 156, 177] 9 _ _ _ _
set_option maxRecDepth 100000 in
theorem sg_260_177 (d : Nat) (σ : HP) (x0 x1 x2 x3 x5 x6 x8 : Int) (u4 u7 : MV) : rsP PG0 MX d 260 177 [vR x0, vI x1, vI x2, vI x3, u4, vI x5, vI x6, u7, vI x8] [] σ =
    cnd (wr (x5 * x2) ≤ wr x8)
      (cnd (32 ≤ x0 ∧ x0 < σ (-1) 0 ∧ σ x0 (-1) = 9) (cnd (32 ≤ x0 ∧ x0 < (up σ x0 5 (x5 * x2)) (-1) 0 ∧ (up σ x0 5 (x5 * x2)) x0 (-1) = 9) (cnd (0 < x0 ∧ x0 < (up σ x0 5 (x5 * x2)) (-1) 0 ∧ (up σ x0 5 (x5 * x2)) x0 (-1) = 9) (bnd (clR PG0 MX d 245 [vR x0, vI x1, vI x6, vI ((up σ x0 5 (x5 * x2)) x0 5)] (up σ x0 5 (x5 * x2))) (fun q1 => 
      some (q1.1, q1.2))) none) none) none)
      (cnd (32 ≤ x0 ∧ x0 < σ (-1) 0 ∧ σ x0 (-1) = 9) (cnd (32 ≤ x0 ∧ x0 < σ (-1) 0 ∧ σ x0 (-1) = 9) (cnd (0 < (σ x0 4) ∧ (σ x0 4) < σ (-1) 0 ∧ σ (σ x0 4) (-1) = 20 ∧ 0 ≤ wr (x8 - x2) ∧ wr (x8 - x2) < σ (σ x0 4) (-2)) (cnd (wr x5 ≠ 0) (cnd (32 ≤ (σ x0 4) ∧ (σ x0 4) < σ (-1) 0 ∧ σ (σ x0 4) (-1) = 20 ∧ 0 ≤ wr x8 ∧ wr x8 < σ (σ x0 4) (-2)) (rsP PG0 MX d 260 177 [vR x0, vI x1, vI x2, vI x3, vU, vI x5, vI x6, vU, vI (x8 + 1)] [] (up σ (σ x0 4) (wr x8) (i_rem ((σ (σ x0 4) (wr (x8 - x2))) + x3) x5))) none) none) none) none) none) :=
  blkE (cs := pgA_260) rfl [52, 65, 96, 156, 177] 23 _ _ _ _
/-- OneAtATimeModel.common(II)I -/
theorem ce_261 (d : Nat) (σ : HP) (x0 x1 : Int) : clR PG0 MX (d + 1) 261 [vI x0, vI x1] σ = rsP PG0 MX d 261 0 [vI x0, vI x1] [] σ := rfl
set_option maxRecDepth 100000 in
theorem sg_261_0 (d : Nat) (σ : HP) (x0 x1 : Int) : rsP PG0 MX d 261 0 [vI x0, vI x1] [] σ =
    cnd (wr x1 ≠ 0)
      (cnd (wr x1 ≠ 0) (bnd (clR PG0 MX d 261 [vI x1, vI (i_rem x0 x1)] σ) (fun q1 => 
      some (q1.1, q1.2))) none)
      (some (x0, σ)) :=
  blkE (cs := pgA_261) rfl [] 9 _ _ _ _
/-- OneAtATimeModel.isRound(II)Z -/
theorem ce_262 (d : Nat) (σ : HP) (x0 x1 x2 : Int) : clR PG0 MX (d + 1) 262 [vR x0, vI x1, vI x2] σ = rsP PG0 MX d 262 0 [vR x0, vI x1, vI x2, vU] [] σ := rfl
set_option maxRecDepth 100000 in
theorem sg_262_0 (d : Nat) (σ : HP) (x0 x1 x2 : Int) : rsP PG0 MX d 262 0 [vR x0, vI x1, vI x2, vU] [] σ =
    rsP PG0 MX d 262 2 [vR x0, vI x1, vI x2, vI 1] [] σ :=
  blkE (cs := pgA_262) rfl [2] 4 _ _ _ _
set_option maxRecDepth 100000 in
theorem sg_262_2 (d : Nat) (σ : HP) (x0 x1 x2 x3 : Int) : rsP PG0 MX d 262 2 [vR x0, vI x1, vI x2, vI x3] [] σ =
    cnd (wr x1 ≤ wr x3)
      (some (0, σ))
      (cnd (0 < x0 ∧ x0 < σ (-1) 0 ∧ σ x0 (-1) = 9) (bnd (clR PG0 MX d 263 [vR x0, vI x1, vI x2, vI x3] σ) (fun q1 => 
      cnd (wr q1.1 ≠ wr x2)
          (rsP PG0 MX d 262 2 [vR x0, vI x1, vI x2, vI (x3 + 1)] [] q1.2)
          (some (1, q1.2)))) none) :=
  blkE (cs := pgA_262) rfl [2] 14 _ _ _ _
/-- OneAtATimeModel.rolledBy(III)I -/
theorem ce_263 (d : Nat) (σ : HP) (x0 x1 x2 x3 : Int) : clR PG0 MX (d + 1) 263 [vR x0, vI x1, vI x2, vI x3] σ = rsP PG0 MX d 263 0 [vR x0, vI x1, vI x2, vI x3, vU] [] σ := rfl
set_option maxRecDepth 100000 in
theorem sg_263_0 (d : Nat) (σ : HP) (x0 x1 x2 x3 : Int) : rsP PG0 MX d 263 0 [vR x0, vI x1, vI x2, vI x3, vU] [] σ =
    some (i_and (i_or (i_shl x2 x3) (i_shr (i_shl x2 x3) x1)) ((i_shl 1 x1) - 1), σ) :=
  blkE (cs := pgA_263) rfl [] 17 _ _ _ _
/-- OneAtATimeModel.goes(IIZ)V -/
theorem ce_264 (d : Nat) (σ : HP) (x0 x1 x2 x3 : Int) : clR PG0 MX (d + 1) 264 [vR x0, vI x1, vI x2, vI x3] σ = rsP PG0 MX d 264 0 [vR x0, vI x1, vI x2, vI x3, vU] [] σ := rfl
set_option maxRecDepth 100000 in
theorem sg_264_0 (d : Nat) (σ : HP) (x0 x1 x2 x3 : Int) : rsP PG0 MX d 264 0 [vR x0, vI x1, vI x2, vI x3, vU] [] σ =
    rsP PG0 MX d 264 3 [vR x0, vI x1, vI x2, vI x3, vI 0] [] σ :=
  blkE (cs := pgA_264) rfl [3] 4 _ _ _ _
set_option maxRecDepth 100000 in
theorem sg_264_3 (d : Nat) (σ : HP) (x0 x1 x2 x3 x4 : Int) : rsP PG0 MX d 264 3 [vR x0, vI x1, vI x2, vI x3, vI x4] [] σ =
    cnd (wr x1 ≤ wr x4)
      (some (0, σ))
      (cnd (32 ≤ x0 ∧ x0 < σ (-1) 0 ∧ σ x0 (-1) = 9) (cnd (0 < x0 ∧ x0 < σ (-1) 0 ∧ σ x0 (-1) = 9) (bnd (clR PG0 MX d 263 [vR x0, vI x1, vI x2, vI x4] σ) (fun q1 => 
      bif decide (x3 = 0 ∨ x3 = 1) && decide (32 ≤ (σ x0 19) ∧ (σ x0 19) < q1.2 (-1) 0 ∧ q1.2 (σ x0 19) (-1) = 22 ∧ 0 ≤ wr q1.1 ∧ wr q1.1 < q1.2 (σ x0 19) (-2)) then rsP PG0 MX d 264 3 [vR x0, vI x1, vI x2, vI x3, vI (x4 + 1)] [] (up q1.2 (σ x0 19) (wr q1.1) x3) else none)) none) none) :=
  blkE (cs := pgA_264) rfl [3] 16 _ _ _ _
/-- OneAtATimeModel.tracksOn(IIIII)I -/
theorem ce_265 (d : Nat) (σ : HP) (x0 x1 x2 x3 x4 x5 : Int) : clR PG0 MX (d + 1) 265 [vR x0, vI x1, vI x2, vI x3, vI x4, vI x5] σ = rsP PG0 MX d 265 0 [vR x0, vI x1, vI x2, vI x3, vI x4, vI x5, vU, vU, vU, vU] [] σ := rfl
set_option maxRecDepth 100000 in
theorem sg_265_0 (d : Nat) (σ : HP) (x0 x1 x2 x3 x4 x5 : Int) : rsP PG0 MX d 265 0 [vR x0, vI x1, vI x2, vI x3, vI x4, vI x5, vU, vU, vU, vU] [] σ =
    cnd (wr x2 ≠ wr x3)
      (rsP PG0 MX d 265 10 [vR x0, vI x1, vI x2, vI x3, vI x4, vI x5, vI 0, vU, vU, vU] [] σ)
      (some (1, σ)) :=
  blkE (cs := pgA_265) rfl [10, 41, 81, 121, 134] 7 _ _ _ _
set_option maxRecDepth 100000 in
theorem sg_265_10 (d : Nat) (σ : HP) (x0 x1 x2 x3 x4 x5 x6 : Int) (u7 u8 u9 : MV) : rsP PG0 MX d 265 10 [vR x0, vI x1, vI x2, vI x3, vI x4, vI x5, vI x6, u7, u8, u9] [] σ =
    cnd (wr x1 ≤ wr x6)
      (some (0, σ))
      (cnd (32 ≤ x0 ∧ x0 < σ (-1) 0 ∧ σ x0 (-1) = 9) (cnd (0 < (σ x0 20) ∧ (σ x0 20) < σ (-1) 0 ∧ σ (σ x0 20) (-1) = 20 ∧ 0 ≤ wr x2 ∧ wr x2 < σ (σ x0 20) (-2)) (cnd (wr x2 ≠ wr (x3 - 1))
        (rsP PG0 MX d 265 41 [vR x0, vI x1, vI x2, vI x3, vI x4, vI x5, vI x6, vI (i_xor (σ (σ x0 20) (wr x2)) (i_shl 1 x6)), vU, vU] [vI 0] σ)
        (rsP PG0 MX d 265 41 [vR x0, vI x1, vI x2, vI x3, vI x4, vI x5, vI x6, vI (i_xor (σ (σ x0 20) (wr x2)) (i_shl 1 x6)), vU, vU] [vI 1] σ)) none) none) :=
  blkE (cs := pgA_265) rfl [10, 41, 81, 121, 134] 21 _ _ _ _
set_option maxRecDepth 100000 in
theorem sg_265_41 (d : Nat) (σ : HP) (x0 x1 x2 x3 x4 x5 x6 x7 y0 : Int) (u8 u9 : MV) : rsP PG0 MX d 265 41 [vR x0, vI x1, vI x2, vI x3, vI x4, vI x5, vI x6, vI x7, u8, u9] [vI y0] σ =
    cnd (wr y0 = 0)
      (cnd (32 ≤ x0 ∧ x0 < σ (-1) 0 ∧ σ x0 (-1) = 9) (cnd (32 ≤ (σ x0 19) ∧ (σ x0 19) < σ (-1) 0 ∧ σ (σ x0 19) (-1) = 22 ∧ 0 ≤ wr x7 ∧ wr x7 < σ (σ x0 19) (-2)) (cnd (wr (σ (σ x0 19) (wr x7)) ≠ 0)
        (rsP PG0 MX d 265 10 [vR x0, vI x1, vI x2, vI x3, vI x4, vI x5, vI (x6 + 1), vU, vU, vU] [] σ)
        (cnd (0 < x0 ∧ x0 < σ (-1) 0 ∧ σ x0 (-1) = 9) (bnd (clR PG0 MX d 262 [vR x0, vI x1, vI x7] σ) (fun q1 => 
        cnd (wr q1.1 = 0)
            (rsP PG0 MX d 265 81 [vR x0, vI x1, vI x2, vI x3, vI x4, vI x5, vI x6, vI x7, vI y0, vU] [] q1.2)
            (rsP PG0 MX d 265 10 [vR x0, vI x1, vI x2, vI x3, vI x4, vI x5, vI (x6 + 1), vU, vU, vU] [] q1.2))) none)) none) none)
      (cnd (wr x7 = wr x4)
        (rsP PG0 MX d 265 81 [vR x0, vI x1, vI x2, vI x3, vI x4, vI x5, vI x6, vI x7, vI y0, vU] [] σ)
        (rsP PG0 MX d 265 10 [vR x0, vI x1, vI x2, vI x3, vI x4, vI x5, vI (x6 + 1), vU, vU, vU] [] σ)) :=
  blkE (cs := pgA_265) rfl [10, 41, 81, 121, 134] 18 _ _ _ _
set_option maxRecDepth 100000 in
theorem sg_265_81 (d : Nat) (σ : HP) (x0 x1 x2 x3 x4 x5 x6 x7 x8 : Int) (u9 : MV) : rsP PG0 MX d 265 81 [vR x0, vI x1, vI x2, vI x3, vI x4, vI x5, vI x6, vI x7, vI x8, u9] [] σ =
    cnd (32 ≤ x0 ∧ x0 < σ (-1) 0 ∧ σ x0 (-1) = 9) (cnd (wr (σ x0 21) ≠ wr x5)
      (cnd (32 ≤ x0 ∧ x0 < σ (-1) 0 ∧ σ x0 (-1) = 9) (cnd (32 ≤ x0 ∧ x0 < σ (-1) 0 ∧ σ x0 (-1) = 9) (cnd (32 ≤ x0 ∧ x0 < (up σ x0 21 ((σ x0 21) + 1)) (-1) 0 ∧ (up σ x0 21 ((σ x0 21) + 1)) x0 (-1) = 9) (cnd (32 ≤ ((up σ x0 21 ((σ x0 21) + 1)) x0 4) ∧ ((up σ x0 21 ((σ x0 21) + 1)) x0 4) < (up σ x0 21 ((σ x0 21) + 1)) (-1) 0 ∧ (up σ x0 21 ((σ x0 21) + 1)) ((up σ x0 21 ((σ x0 21) + 1)) x0 4) (-1) = 20 ∧ 0 ≤ wr x2 ∧ wr x2 < (up σ x0 21 ((σ x0 21) + 1)) ((up σ x0 21 ((σ x0 21) + 1)) x0 4) (-2)) (cnd (32 ≤ x0 ∧ x0 < (up (up σ x0 21 ((σ x0 21) + 1)) ((up σ x0 21 ((σ x0 21) + 1)) x0 4) (wr x2) x6) (-1) 0 ∧ (up (up σ x0 21 ((σ x0 21) + 1)) ((up σ x0 21 ((σ x0 21) + 1)) x0 4) (wr x2) x6) x0 (-1) = 9) (cnd (32 ≤ ((up (up σ x0 21 ((σ x0 21) + 1)) ((up σ x0 21 ((σ x0 21) + 1)) x0 4) (wr x2) x6) x0 20) ∧ ((up (up σ x0 21 ((σ x0 21) + 1)) ((up σ x0 21 ((σ x0 21) + 1)) x0 4) (wr x2) x6) x0 20) < (up (up σ x0 21 ((σ x0 21) + 1)) ((up σ x0 21 ((σ x0 21) + 1)) x0 4) (wr x2) x6) (-1) 0 ∧ (up (up σ x0 21 ((σ x0 21) + 1)) ((up σ x0 21 ((σ x0 21) + 1)) x0 4) (wr x2) x6) ((up (up σ x0 21 ((σ x0 21) + 1)) ((up σ x0 21 ((σ x0 21) + 1)) x0 4) (wr x2) x6) x0 20) (-1) = 20 ∧ 0 ≤ wr (x2 + 1) ∧ wr (x2 + 1) < (up (up σ x0 21 ((σ x0 21) + 1)) ((up σ x0 21 ((σ x0 21) + 1)) x0 4) (wr x2) x6) ((up (up σ x0 21 ((σ x0 21) + 1)) ((up σ x0 21 ((σ x0 21) + 1)) x0 4) (wr x2) x6) x0 20) (-2)) (rsP PG0 MX d 265 121 [vR x0, vI x1, vI x2, vI x3, vI x4, vI x5, vI x6, vI x7, vI x8, vU] [] (up (up (up σ x0 21 ((σ x0 21) + 1)) ((up σ x0 21 ((σ x0 21) + 1)) x0 4) (wr x2) x6) ((up (up σ x0 21 ((σ x0 21) + 1)) ((up σ x0 21 ((σ x0 21) + 1)) x0 4) (wr x2) x6) x0 20) (wr (x2 + 1)) x7)) none) none) none) none) none) none)
      (some ((-3), σ))) none :=
  blkE (cs := pgA_265) rfl [10, 41, 81, 121, 134] 24 _ _ _ _
set_option maxRecDepth 100000 in
theorem sg_265_121 (d : Nat) (σ : HP) (x0 x1 x2 x3 x4 x5 x6 x7 x8 : Int) (u9 : MV) : rsP PG0 MX d 265 121 [vR x0, vI x1, vI x2, vI x3, vI x4, vI x5, vI x6, vI x7, vI x8, u9] [] σ =
    cnd (wr x8 ≠ 0)
      (rsP PG0 MX d 265 134 [vR x0, vI x1, vI x2, vI x3, vI x4, vI x5, vI x6, vI x7, vI x8, u9] [] σ)
      (cnd (0 < x0 ∧ x0 < σ (-1) 0 ∧ σ x0 (-1) = 9) (bnd (clR PG0 MX d 264 [vR x0, vI x1, vI x7, vI 1] σ) (fun q1 => 
      rsP PG0 MX d 265 134 [vR x0, vI x1, vI x2, vI x3, vI x4, vI x5, vI x6, vI x7, vI x8, u9] [] q1.2)) none) :=
  blkE (cs := pgA_265) rfl [10, 41, 81, 121, 134] 9 _ _ _ _
set_option maxRecDepth 100000 in
theorem sg_265_134 (d : Nat) (σ : HP) (x0 x1 x2 x3 x4 x5 x6 x7 x8 : Int) (u9 : MV) : rsP PG0 MX d 265 134 [vR x0, vI x1, vI x2, vI x3, vI x4, vI x5, vI x6, vI x7, vI x8, u9] [] σ =
    cnd (0 < x0 ∧ x0 < σ (-1) 0 ∧ σ x0 (-1) = 9) (bnd (clR PG0 MX d 265 [vR x0, vI x1, vI (x2 + 1), vI x3, vI x4, vI x5] σ) (fun q1 => 
    cnd (wr q1.1 = 0)
        (cnd (wr x8 ≠ 0)
          (rsP PG0 MX d 265 10 [vR x0, vI x1, vI x2, vI x3, vI x4, vI x5, vI (x6 + 1), vU, vU, vU] [] q1.2)
          (cnd (0 < x0 ∧ x0 < q1.2 (-1) 0 ∧ q1.2 x0 (-1) = 9) (bnd (clR PG0 MX d 264 [vR x0, vI x1, vI x7, vI 0] q1.2) (fun q2 => 
          rsP PG0 MX d 265 10 [vR x0, vI x1, vI x2, vI x3, vI x4, vI x5, vI (x6 + 1), vU, vU, vU] [] q2.2)) none))
        (some (q1.1, q1.2)))) none :=
  blkE (cs := pgA_265) rfl [10, 41, 81, 121, 134] 23 _ _ _ _
/-- OneAtATimeModel.product(III)I -/
theorem ce_266 (d : Nat) (σ : HP) (x0 x1 x2 x3 : Int) : clR PG0 MX (d + 1) 266 [vR x0, vI x1, vI x2, vI x3] σ = rsP PG0 MX d 266 0 [vR x0, vI x1, vI x2, vI x3, vU, vU, vU, vU] [] σ := rfl
set_option maxRecDepth 100000 in
theorem sg_266_0 (d : Nat) (σ : HP) (x0 x1 x2 x3 : Int) : rsP PG0 MX d 266 0 [vR x0, vI x1, vI x2, vI x3, vU, vU, vU, vU] [] σ =
    cnd (0 < x0 ∧ x0 < σ (-1) 0 ∧ σ x0 (-1) = 9) (bnd (clR PG0 MX d 180 [vR x0, vI x1] σ) (fun q1 => 
    cnd (wr q1.1 = 0)
        (some ((-2), q1.2))
        (cnd (0 < x0 ∧ x0 < q1.2 (-1) 0 ∧ q1.2 x0 (-1) = 9) (bnd (clR PG0 MX d 180 [vR x0, vI x2] q1.2) (fun q2 => 
        cnd (wr q2.1 = 0)
            (some ((-2), q2.2))
            (bnd (clR PG0 MX d 178 [vI x3] q2.2) (fun q3 => 
            cnd (wr q3.1 ≠ 0)
                (cnd (0 < x0 ∧ x0 < q3.2 (-1) 0 ∧ q3.2 x0 (-1) = 9) (bnd (clR PG0 MX d 207 [vR x0, vI x1] q3.2) (fun q4 => 
                rsP PG0 MX d 266 33 [vR x0, vI x1, vI x2, vI x3, vI q4.1, vU, vU, vU] [] q4.2)) none)
                (some ((-2), q3.2)))))) none))) none :=
  blkE (cs := pgA_266) rfl [33, 87, 120, 183] 17 _ _ _ _
set_option maxRecDepth 100000 in
theorem sg_266_33 (d : Nat) (σ : HP) (x0 x1 x2 x3 x4 : Int) (u5 u6 u7 : MV) : rsP PG0 MX d 266 33 [vR x0, vI x1, vI x2, vI x3, vI x4, u5, u6, u7] [] σ =
    cnd (0 < x0 ∧ x0 < σ (-1) 0 ∧ σ x0 (-1) = 9) (bnd (clR PG0 MX d 204 [vR x0, vI x1] σ) (fun q1 => 
    cnd (0 < x0 ∧ x0 < q1.2 (-1) 0 ∧ q1.2 x0 (-1) = 9) (bnd (clR PG0 MX d 204 [vR x0, vI x2] q1.2) (fun q2 => 
      cnd (0 < x0 ∧ x0 < q2.2 (-1) 0 ∧ q2.2 x0 (-1) = 9) (bnd (clR PG0 MX d 207 [vR x0, vI x2] q2.2) (fun q3 => 
        cnd (wr 8 < wr (x4 + q3.1))
            (some ((-5), q3.2))
            (cnd (wr ((q1.1 * (q2.1 + 1)) + q2.1) ≤ wr 256)
              (cnd (32 ≤ x0 ∧ x0 < q3.2 (-1) 0 ∧ q3.2 x0 (-1) = 9) (rsP PG0 MX d 266 87 [vR x0, vI x1, vI x2, vI x3, vI x4, vI q1.1, vI q2.1, vI 0] [] (up q3.2 x0 5 0)) none)
              (some ((-5), q3.2))))) none)) none)) none :=
  blkE (cs := pgA_266) rfl [33, 87, 120, 183] 31 _ _ _ _
set_option maxRecDepth 100000 in
theorem sg_266_87 (d : Nat) (σ : HP) (x0 x1 x2 x3 x4 x5 x6 x7 : Int) : rsP PG0 MX d 266 87 [vR x0, vI x1, vI x2, vI x3, vI x4, vI x5, vI x6, vI x7] [] σ =
    cnd (wr x6 < wr x7)
      (cnd (0 < x0 ∧ x0 < σ (-1) 0 ∧ σ x0 (-1) = 9) (bnd (clR PG0 MX d 207 [vR x0, vI x2] σ) (fun q1 => 
      cnd (0 < x0 ∧ x0 < q1.2 (-1) 0 ∧ q1.2 x0 (-1) = 9) (bnd (clR PG0 MX d 181 [vR x0, vI x1, vI 3] q1.2) (fun q2 => 
        cnd (0 < x0 ∧ x0 < q2.2 (-1) 0 ∧ q2.2 x0 (-1) = 9) (bnd (clR PG0 MX d 181 [vR x0, vI x2, vI 3] q2.2) (fun q3 => 
          cnd (0 < x0 ∧ x0 < q3.2 (-1) 0 ∧ q3.2 x0 (-1) = 9) (bnd (clR PG0 MX d 182 [vR x0, vI x3, vI (x4 + q1.1), vI 0, vI (x4 + q1.1), vI (i_or q2.1 (i_shl q3.1 x4))] q3.2) (fun q4 => 
            rsP PG0 MX d 266 183 [vR x0, vI x1, vI x2, vI x3, vI x4, vI x5, vI x6, vI (x4 + q1.1)] [] q4.2)) none)) none)) none)) none)
      (cnd (wr 2 ≠ 0) (cnd (wr (i_rem x7 2) ≠ 0)
        (cnd (0 < x0 ∧ x0 < σ (-1) 0 ∧ σ x0 (-1) = 9) (bnd (clR PG0 MX d 255 [vR x0, vI x1, vI 0, vI x5] σ) (fun q5 => 
        rsP PG0 MX d 266 120 [vR x0, vI x1, vI x2, vI x3, vI x4, vI x5, vI x6, vI x7] [] q5.2)) none)
        (cnd (0 < x0 ∧ x0 < σ (-1) 0 ∧ σ x0 (-1) = 9) (bnd (clR PG0 MX d 254 [vR x0, vI x1, vI 0, vI x5] σ) (fun q6 => 
        rsP PG0 MX d 266 120 [vR x0, vI x1, vI x2, vI x3, vI x4, vI x5, vI x6, vI x7] [] q6.2)) none)) none) :=
  blkE (cs := pgA_266) rfl [33, 87, 120, 183] 28 _ _ _ _
set_option maxRecDepth 100000 in
theorem sg_266_120 (d : Nat) (σ : HP) (x0 x1 x2 x3 x4 x5 x6 x7 : Int) : rsP PG0 MX d 266 120 [vR x0, vI x1, vI x2, vI x3, vI x4, vI x5, vI x6, vI x7] [] σ =
    cnd (wr x6 ≤ wr x7)
      (rsP PG0 MX d 266 87 [vR x0, vI x1, vI x2, vI x3, vI x4, vI x5, vI x6, vI (x7 + 1)] [] σ)
      (cnd (0 < x0 ∧ x0 < σ (-1) 0 ∧ σ x0 (-1) = 9) (bnd (clR PG0 MX d 205 [vR x0, vI x2, vI x7] σ) (fun q1 => 
      cnd (0 < x0 ∧ x0 < q1.2 (-1) 0 ∧ q1.2 x0 (-1) = 9) (bnd (clR PG0 MX d 196 [vR x0, vI (x4 + q1.1)] q1.2) (fun q2 => 
        rsP PG0 MX d 266 87 [vR x0, vI x1, vI x2, vI x3, vI x4, vI x5, vI x6, vI (x7 + 1)] [] q2.2)) none)) none) :=
  blkE (cs := pgA_266) rfl [33, 87, 120, 183] 15 _ _ _ _
set_option maxRecDepth 100000 in
theorem sg_266_183 (d : Nat) (σ : HP) (x0 x1 x2 x3 x4 x5 x6 x7 : Int) : rsP PG0 MX d 266 183 [vR x0, vI x1, vI x2, vI x3, vI x4, vI x5, vI x6, vI x7] [] σ =
    cnd (32 ≤ x0 ∧ x0 < σ (-1) 0 ∧ σ x0 (-1) = 9) (cnd (0 < x0 ∧ x0 < σ (-1) 0 ∧ σ x0 (-1) = 9) (bnd (clR PG0 MX d 197 [vR x0, vI (σ x0 5)] σ) (fun q1 => 
    some (q1.1, q1.2))) none) none :=
  blkE (cs := pgA_266) rfl [33, 87, 120, 183] 6 _ _ _ _
