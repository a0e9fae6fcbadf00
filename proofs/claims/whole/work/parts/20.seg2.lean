/-- OneAtATime.evenest(II)J -/
theorem ce_128 (d : Nat) (σ : HP) (x0 x1 x2 : Int) : clR PG0 MX (d + 1) 128 [vR x0, vI x1, vI x2] σ = rsP PG0 MX d 128 0 [vR x0, vI x1, vI x2, vU] [] σ := rfl
set_option maxRecDepth 100000 in
theorem sg_128_0 (d : Nat) (σ : HP) (x0 x1 x2 : Int) : rsP PG0 MX d 128 0 [vR x0, vI x1, vI x2, vU] [] σ =
    cnd (0 < x0 ∧ x0 < σ (-1) 0 ∧ σ x0 (-1) = 8) (bnd (clR PG0 MX d 41 [vR x0, vI x1] σ) (fun q1 => 
    cnd (q1.1 ≤ 0)
        (some ((-2), q1.2))
        (bnd (clR PG0 MX d 82 [vI x2] q1.2) (fun q2 => 
        cnd (wr q2.1 ≠ 0)
            (cnd (32 ≤ q1.1 ∧ q1.1 < q2.2 (-1) 0 ∧ q2.2 q1.1 (-1) = 0) (cnd (wr (q2.2 q1.1 6) ≤ wr 16)
              (cnd (0 < x0 ∧ x0 < q2.2 (-1) 0 ∧ q2.2 x0 (-1) = 8) (bnd (clR PG0 MX d 120 [vR x0, vR q1.1] q2.2) (fun q3 => 
              cnd (wr q3.1 ≠ 0)
                  (cnd (32 ≤ x0 ∧ x0 < q3.2 (-1) 0 ∧ q3.2 x0 (-1) = 8) (cnd (0 < (q3.2 x0 8) ∧ (q3.2 x0 8) < q3.2 (-1) 0 ∧ q3.2 (q3.2 x0 8) (-1) = 2) (bnd (clR PG0 MX d 129 [vR (q3.2 x0 8), vR q1.1] q3.2) (fun q4 => 
                  rsP PG0 MX d 128 54 [vR x0, vI x1, vI x2, vR q1.1] [] q4.2)) none) none)
                  (some ((-6), q3.2)))) none)
              (some ((-5), q2.2))) none)
            (some ((-2), q2.2)))))) none :=
  blkE (cs := pgA_128) rfl [54] 23 _ _ _ _
set_option maxRecDepth 100000 in
theorem sg_128_54 (d : Nat) (σ : HP) (x0 x1 x2 x3 : Int) : rsP PG0 MX d 128 54 [vR x0, vI x1, vI x2, vR x3] [] σ =
    cnd (wr x2 ≠ 0)
      (cnd (32 ≤ x0 ∧ x0 < σ (-1) 0 ∧ σ x0 (-1) = 8) (cnd (32 ≤ (σ x0 8) ∧ (σ x0 8) < σ (-1) 0 ∧ σ (σ x0 8) (-1) = 2) (some (σ (σ x0 8) 4, σ)) none) none)
      (cnd (32 ≤ x0 ∧ x0 < σ (-1) 0 ∧ σ x0 (-1) = 8) (cnd (32 ≤ (σ x0 8) ∧ (σ x0 8) < σ (-1) 0 ∧ σ (σ x0 8) (-1) = 2) (some (wr (σ (σ x0 8) 3), σ)) none) none) :=
  blkE (cs := pgA_128) rfl [54] 9 _ _ _ _
/-- OneAtATime$Evenness.seek(LOneAtATime$BitList;)V -/
theorem ce_129 (d : Nat) (σ : HP) (x0 x1 : Int) : clR PG0 MX (d + 1) 129 [vR x0, vR x1] σ = rsP PG0 MX d 129 0 [vR x0, vR x1, vU, vU] [] σ := rfl
set_option maxRecDepth 100000 in
theorem sg_129_0 (d : Nat) (σ : HP) (x0 x1 : Int) : rsP PG0 MX d 129 0 [vR x0, vR x1, vU, vU] [] σ =
    cnd (0 < x0 ∧ x0 < σ (-1) 0 ∧ σ x0 (-1) = 2) (bnd (clR PG0 MX d 130 [vR x0, vR x1] σ) (fun q1 => 
    cnd (32 ≤ x0 ∧ x0 < q1.2 (-1) 0 ∧ q1.2 x0 (-1) = 2) (cnd (32 ≤ x0 ∧ x0 < (up q1.2 x0 3 256) (-1) 0 ∧ (up q1.2 x0 3 256) x0 (-1) = 2) (rsP PG0 MX d 129 21 [vR x0, vR x1, vI 1, vI 0] [] (up (up q1.2 x0 3 256) x0 4 0)) none) none)) none :=
  blkE (cs := pgA_129) rfl [21] 15 _ _ _ _
set_option maxRecDepth 100000 in
theorem sg_129_21 (d : Nat) (σ : HP) (x0 x1 x2 x3 : Int) : rsP PG0 MX d 129 21 [vR x0, vR x1, vI x2, vI x3] [] σ =
    cnd (wr x2 = 0)
      (some (0, σ))
      (cnd (wr 65536 ≤ wr x3)
        (some (0, σ))
        (cnd (0 < x0 ∧ x0 < σ (-1) 0 ∧ σ x0 (-1) = 2) (bnd (clR PG0 MX d 131 [vR x0, vR x1] σ) (fun q1 => 
        cnd (32 ≤ x1 ∧ x1 < q1.2 (-1) 0 ∧ q1.2 x1 (-1) = 0) (cnd (0 < x0 ∧ x0 < q1.2 (-1) 0 ∧ q1.2 x0 (-1) = 2) (bnd (clR PG0 MX d 134 [vR x0, vI (q1.2 x1 3)] q1.2) (fun q2 => 
          rsP PG0 MX d 129 21 [vR x0, vR x1, vI q2.1, vI (x3 + 1)] [] q2.2)) none) none)) none)) :=
  blkE (cs := pgA_129) rfl [21] 17 _ _ _ _
/-- OneAtATime$Evenness.countTold(LOneAtATime$BitList;)V -/
theorem ce_130 (d : Nat) (σ : HP) (x0 x1 : Int) : clR PG0 MX (d + 1) 130 [vR x0, vR x1] σ = rsP PG0 MX d 130 0 [vR x0, vR x1, vU] [] σ := rfl
set_option maxRecDepth 100000 in
theorem sg_130_0 (d : Nat) (σ : HP) (x0 x1 : Int) : rsP PG0 MX d 130 0 [vR x0, vR x1, vU] [] σ =
    cnd (32 ≤ x0 ∧ x0 < σ (-1) 0 ∧ σ x0 (-1) = 2) (bnd (clR PG0 MX d 46 [vR (σ x0 0), vI 0] σ) (fun q1 => 
    cnd (32 ≤ x0 ∧ x0 < q1.2 (-1) 0 ∧ q1.2 x0 (-1) = 2) (bnd (clR PG0 MX d 46 [vR (q1.2 x0 1), vI 0] q1.2) (fun q2 => 
      rsP PG0 MX d 130 18 [vR x0, vR x1, vI 0] [] q2.2)) none)) none :=
  blkE (cs := pgA_130) rfl [18] 12 _ _ _ _
set_option maxRecDepth 100000 in
theorem sg_130_18 (d : Nat) (σ : HP) (x0 x1 x2 : Int) : rsP PG0 MX d 130 18 [vR x0, vR x1, vI x2] [] σ =
    cnd (32 ≤ x1 ∧ x1 < σ (-1) 0 ∧ σ x1 (-1) = 0) (cnd (wr ((σ x1 6) - 1) ≤ wr x2)
      (some (0, σ))
      (cnd (32 ≤ x0 ∧ x0 < σ (-1) 0 ∧ σ x0 (-1) = 2) (cnd (32 ≤ x1 ∧ x1 < σ (-1) 0 ∧ σ x1 (-1) = 0) (cnd (0 < (σ x1 0) ∧ (σ x1 0) < σ (-1) 0 ∧ σ (σ x1 0) (-1) = 20 ∧ 0 ≤ wr x2 ∧ wr x2 < σ (σ x1 0) (-2)) (cnd (0 < (σ x0 0) ∧ (σ x0 0) < σ (-1) 0 ∧ σ (σ x0 0) (-1) = 20 ∧ 0 ≤ wr (σ (σ x1 0) (wr x2)) ∧ wr (σ (σ x1 0) (wr x2)) < σ (σ x0 0) (-2)) (cnd (32 ≤ (σ x0 0) ∧ (σ x0 0) < σ (-1) 0 ∧ σ (σ x0 0) (-1) = 20 ∧ 0 ≤ wr (σ (σ x1 0) (wr x2)) ∧ wr (σ (σ x1 0) (wr x2)) < σ (σ x0 0) (-2)) (rsP PG0 MX d 130 18 [vR x0, vR x1, vI (x2 + 1)] [] (up σ (σ x0 0) (wr (σ (σ x1 0) (wr x2))) ((σ (σ x0 0) (wr (σ (σ x1 0) (wr x2)))) + 1))) none) none) none) none) none)) none :=
  blkE (cs := pgA_130) rfl [18] 21 _ _ _ _
/-- OneAtATime$Evenness.weigh(LOneAtATime$BitList;)V -/
theorem ce_131 (d : Nat) (σ : HP) (x0 x1 : Int) : clR PG0 MX (d + 1) 131 [vR x0, vR x1] σ = rsP PG0 MX d 131 0 [vR x0, vR x1, vU, vU, vU, vU, vU, vU] [] σ := rfl
set_option maxRecDepth 100000 in
theorem sg_131_0 (d : Nat) (σ : HP) (x0 x1 : Int) : rsP PG0 MX d 131 0 [vR x0, vR x1, vU, vU, vU, vU, vU, vU] [] σ =
    rsP PG0 MX d 131 4 [vR x0, vR x1, vI 0, vI 0, vU, vU, vU, vU] [] σ :=
  blkE (cs := pgA_131) rfl [4, 46] 6 _ _ _ _
set_option maxRecDepth 100000 in
theorem sg_131_4 (d : Nat) (σ : HP) (x0 x1 x2 x3 : Int) (u4 u5 u6 u7 : MV) : rsP PG0 MX d 131 4 [vR x0, vR x1, vI x2, vI x3, u4, u5, u6, u7] [] σ =
    cnd (32 ≤ x1 ∧ x1 < σ (-1) 0 ∧ σ x1 (-1) = 0) (cnd (wr (σ x1 3) ≤ wr x3)
      (cnd (wr 2 ≠ 0) (cnd (wr (i_rem x2 2) = 0)
        (rsP PG0 MX d 131 46 [vR x0, vR x1, vI x2, vI (x2 + 2), vI (x2 + 2), vI 0, vU, vU] [] σ)
        (some (0, σ))) none)
      (cnd (32 ≤ x0 ∧ x0 < σ (-1) 0 ∧ σ x0 (-1) = 2) (cnd (0 < (σ x0 1) ∧ (σ x0 1) < σ (-1) 0 ∧ σ (σ x0 1) (-1) = 20 ∧ 0 ≤ wr x3 ∧ wr x3 < σ (σ x0 1) (-2)) (rsP PG0 MX d 131 4 [vR x0, vR x1, vI (x2 + (σ (σ x0 1) (wr x3))), vI (x3 + 1), vU, vU, vU, vU] [] σ) none) none)) none :=
  blkE (cs := pgA_131) rfl [4, 46] 20 _ _ _ _
set_option maxRecDepth 100000 in
theorem sg_131_46 (d : Nat) (σ : HP) (x0 x1 x3 x4 x5 : Int) (u2 u6 u7 : MV) : rsP PG0 MX d 131 46 [vR x0, vR x1, u2, vI x3, vI x4, vI x5, u6, u7] [] σ =
    cnd (32 ≤ x1 ∧ x1 < σ (-1) 0 ∧ σ x1 (-1) = 0) (cnd (wr (σ x1 3) ≤ wr x5)
      (cnd (32 ≤ x0 ∧ x0 < σ (-1) 0 ∧ σ x0 (-1) = 2) (cnd (wr (σ x0 3) < wr (x3 - x4))
        (some (0, σ))
        (cnd (0 < x0 ∧ x0 < σ (-1) 0 ∧ σ x0 (-1) = 2) (bnd (clR PG0 MX d 132 [vR x0, vR x1] σ) (fun q1 => 
        cnd (32 ≤ x0 ∧ x0 < q1.2 (-1) 0 ∧ q1.2 x0 (-1) = 2) (cnd (wr (q1.2 x0 3) ≤ wr (x3 - x4))
            (cnd (32 ≤ x0 ∧ x0 < q1.2 (-1) 0 ∧ q1.2 x0 (-1) = 2) (bnd (clR PG0 MX d 1007 [vL (q1.2 x0 4), vL q1.1] q1.2) (fun q2 => 
            cnd (32 ≤ x0 ∧ x0 < q2.2 (-1) 0 ∧ q2.2 x0 (-1) = 2) (cnd (32 ≤ x0 ∧ x0 < (up q2.2 x0 4 q2.1) (-1) 0 ∧ (up q2.2 x0 4 q2.1) x0 (-1) = 2) (some (0, up (up q2.2 x0 4 q2.1) x0 3 (x3 - x4))) none) none)) none)
            (cnd (32 ≤ x0 ∧ x0 < q1.2 (-1) 0 ∧ q1.2 x0 (-1) = 2) (cnd (32 ≤ x0 ∧ x0 < (up q1.2 x0 4 q1.1) (-1) 0 ∧ (up q1.2 x0 4 q1.1) x0 (-1) = 2) (some (0, up (up q1.2 x0 4 q1.1) x0 3 (x3 - x4))) none) none)) none)) none)) none)
      (cnd (32 ≤ x0 ∧ x0 < σ (-1) 0 ∧ σ x0 (-1) = 2) (cnd (0 < (σ x0 0) ∧ (σ x0 0) < σ (-1) 0 ∧ σ (σ x0 0) (-1) = 20 ∧ 0 ≤ wr x5 ∧ wr x5 < σ (σ x0 0) (-2)) (cnd (32 ≤ x0 ∧ x0 < σ (-1) 0 ∧ σ x0 (-1) = 2) (cnd (0 < (σ x0 1) ∧ (σ x0 1) < σ (-1) 0 ∧ σ (σ x0 1) (-1) = 20 ∧ 0 ≤ wr x5 ∧ wr x5 < σ (σ x0 1) (-2)) (bnd (clR PG0 MX d 1004 [vI x3, vI ((4 * (σ (σ x0 0) (wr x5))) - (2 * (σ (σ x0 1) (wr x5))))] σ) (fun q3 => 
      bnd (clR PG0 MX d 1005 [vI x4, vI ((4 * (σ (σ x0 0) (wr x5))) - (2 * (σ (σ x0 1) (wr x5))))] q3.2) (fun q4 => 
        rsP PG0 MX d 131 46 [vR x0, vR x1, vU, vI q3.1, vI q4.1, vI (x5 + 1), vI ((4 * (σ (σ x0 0) (wr x5))) - (2 * (σ (σ x0 1) (wr x5)))), vU] [] q4.2))) none) none) none) none)) none :=
  blkE (cs := pgA_131) rfl [4, 46] 31 _ _ _ _
/-- OneAtATime$Evenness.firstCuts(LOneAtATime$BitList;)J -/
theorem ce_132 (d : Nat) (σ : HP) (x0 x1 : Int) : clR PG0 MX (d + 1) 132 [vR x0, vR x1] σ = rsP PG0 MX d 132 0 [vR x0, vR x1, vU, vU, vU, vU] [] σ := rfl
set_option maxRecDepth 100000 in
theorem sg_132_0 (d : Nat) (σ : HP) (x0 x1 : Int) : rsP PG0 MX d 132 0 [vR x0, vR x1, vU, vU, vU, vU] [] σ =
    cnd (32 ≤ x0 ∧ x0 < σ (-1) 0 ∧ σ x0 (-1) = 2) (cnd (32 ≤ x0 ∧ x0 < σ (-1) 0 ∧ σ x0 (-1) = 2) (bnd (clR PG0 MX d 1002 [vR (σ x0 1), vI 0, vR (σ x0 2), vI 0, vI 8] σ) (fun q1 => 
    rsP PG0 MX d 132 20 [vR x0, vR x1, vL 0, vU, vI 0, vU] [] q1.2)) none) none :=
  blkE (cs := pgA_132) rfl [20] 14 _ _ _ _
set_option maxRecDepth 100000 in
theorem sg_132_20 (d : Nat) (σ : HP) (x0 x1 x2 x4 : Int) (u3 u5 : MV) : rsP PG0 MX d 132 20 [vR x0, vR x1, vL x2, u3, vI x4, u5] [] σ =
    cnd (32 ≤ x1 ∧ x1 < σ (-1) 0 ∧ σ x1 (-1) = 0) (cnd (wr ((σ x1 6) - 1) ≤ wr x4)
      (some (x2, σ))
      (cnd (32 ≤ x1 ∧ x1 < σ (-1) 0 ∧ σ x1 (-1) = 0) (cnd (0 < (σ x1 0) ∧ (σ x1 0) < σ (-1) 0 ∧ σ (σ x1 0) (-1) = 20 ∧ 0 ≤ wr x4 ∧ wr x4 < σ (σ x1 0) (-2)) (cnd (32 ≤ x0 ∧ x0 < σ (-1) 0 ∧ σ x0 (-1) = 2) (cnd (0 < (σ x0 2) ∧ (σ x0 2) < σ (-1) 0 ∧ σ (σ x0 2) (-1) = 20 ∧ 0 ≤ wr (σ (σ x1 0) (wr x4)) ∧ wr (σ (σ x1 0) (wr x4)) < σ (σ x0 2) (-2)) (cnd (wr (σ (σ x0 2) (wr (σ (σ x1 0) (wr x4)))) ≤ 0)
        (rsP PG0 MX d 132 20 [vR x0, vR x1, vL x2, vU, vI (x4 + 1), vU] [] σ)
        (cnd (32 ≤ x0 ∧ x0 < σ (-1) 0 ∧ σ x0 (-1) = 2) (cnd (0 < (σ x0 2) ∧ (σ x0 2) < σ (-1) 0 ∧ σ (σ x0 2) (-1) = 20 ∧ 0 ≤ wr (σ (σ x1 0) (wr x4)) ∧ wr (σ (σ x1 0) (wr x4)) < σ (σ x0 2) (-2)) (cnd (32 ≤ (σ x0 2) ∧ (σ x0 2) < σ (-1) 0 ∧ σ (σ x0 2) (-1) = 20 ∧ 0 ≤ wr (σ (σ x1 0) (wr x4)) ∧ wr (σ (σ x1 0) (wr x4)) < σ (σ x0 2) (-2)) (rsP PG0 MX d 132 20 [vR x0, vR x1, vL (l_or x2 (l_shl 1 x4)), vU, vI (x4 + 1), vU] [] (up σ (σ x0 2) (wr (σ (σ x1 0) (wr x4))) ((σ (σ x0 2) (wr (σ (σ x1 0) (wr x4)))) - 1))) none) none) none)) none) none) none) none)) none :=
  blkE (cs := pgA_132) rfl [20] 34 _ _ _ _
/-- OneAtATime$Evenness.nextChoice(I)Z -/
theorem ce_134 (d : Nat) (σ : HP) (x0 x1 : Int) : clR PG0 MX (d + 1) 134 [vR x0, vI x1] σ = rsP PG0 MX d 134 0 [vR x0, vI x1, vU] [] σ := rfl
set_option maxRecDepth 100000 in
theorem sg_134_0 (d : Nat) (σ : HP) (x0 x1 : Int) : rsP PG0 MX d 134 0 [vR x0, vI x1, vU] [] σ =
    rsP PG0 MX d 134 2 [vR x0, vI x1, vI 0] [] σ :=
  blkE (cs := pgA_134) rfl [2] 4 _ _ _ _
set_option maxRecDepth 100000 in
theorem sg_134_2 (d : Nat) (σ : HP) (x0 x1 x2 : Int) : rsP PG0 MX d 134 2 [vR x0, vI x1, vI x2] [] σ =
    cnd (wr x1 ≤ wr x2)
      (some (0, σ))
      (cnd (32 ≤ x0 ∧ x0 < σ (-1) 0 ∧ σ x0 (-1) = 2) (cnd (0 < (σ x0 1) ∧ (σ x0 1) < σ (-1) 0 ∧ σ (σ x0 1) (-1) = 20 ∧ 0 ≤ wr x2 ∧ wr x2 < σ (σ x0 1) (-2)) (cnd (32 ≤ x0 ∧ x0 < σ (-1) 0 ∧ σ x0 (-1) = 2) (cnd (0 < (σ x0 0) ∧ (σ x0 0) < σ (-1) 0 ∧ σ (σ x0 0) (-1) = 20 ∧ 0 ≤ wr x2 ∧ wr x2 < σ (σ x0 0) (-2)) (cnd (wr (σ (σ x0 0) (wr x2)) ≤ wr (σ (σ x0 1) (wr x2)))
        (cnd (32 ≤ x0 ∧ x0 < σ (-1) 0 ∧ σ x0 (-1) = 2) (cnd (32 ≤ (σ x0 1) ∧ (σ x0 1) < σ (-1) 0 ∧ σ (σ x0 1) (-1) = 20 ∧ 0 ≤ wr x2 ∧ wr x2 < σ (σ x0 1) (-2)) (rsP PG0 MX d 134 2 [vR x0, vI x1, vI (x2 + 1)] [] (up σ (σ x0 1) (wr x2) 0)) none) none)
        (cnd (32 ≤ x0 ∧ x0 < σ (-1) 0 ∧ σ x0 (-1) = 2) (cnd (0 < (σ x0 1) ∧ (σ x0 1) < σ (-1) 0 ∧ σ (σ x0 1) (-1) = 20 ∧ 0 ≤ wr x2 ∧ wr x2 < σ (σ x0 1) (-2)) (cnd (32 ≤ (σ x0 1) ∧ (σ x0 1) < σ (-1) 0 ∧ σ (σ x0 1) (-1) = 20 ∧ 0 ≤ wr x2 ∧ wr x2 < σ (σ x0 1) (-2)) (some (1, up σ (σ x0 1) (wr x2) ((σ (σ x0 1) (wr x2)) + 1))) none) none) none)) none) none) none) none) :=
  blkE (cs := pgA_134) rfl [2] 23 _ _ _ _
/-- OneAtATime.tracks(IIII)I -/
theorem ce_135 (d : Nat) (σ : HP) (x0 x1 x2 x3 x4 : Int) : clR PG0 MX (d + 1) 135 [vR x0, vI x1, vI x2, vI x3, vI x4] σ = rsP PG0 MX d 135 0 [vR x0, vI x1, vI x2, vI x3, vI x4, vU, vU] [] σ := rfl
set_option maxRecDepth 100000 in
theorem sg_135_0 (d : Nat) (σ : HP) (x0 x1 x2 x3 x4 : Int) : rsP PG0 MX d 135 0 [vR x0, vI x1, vI x2, vI x3, vI x4, vU, vU] [] σ =
    cnd (0 < x0 ∧ x0 < σ (-1) 0 ∧ σ x0 (-1) = 8) (bnd (clR PG0 MX d 41 [vR x0, vI x1] σ) (fun q1 => 
    cnd (q1.1 ≤ 0)
        (some ((-2), q1.2))
        (cnd (32 ≤ q1.1 ∧ q1.1 < q1.2 (-1) 0 ∧ q1.2 q1.1 (-1) = 0) (cnd (wr (q1.2 q1.1 3) < wr 2)
          (some ((-2), q1.2))
          (cnd (wr x2 < wr 1)
            (some ((-2), q1.2))
            (cnd (wr x4 < wr 1)
              (some ((-2), q1.2))
              (cnd (wr x4 ≤ wr 50000)
                (cnd (wr x3 < wr 1)
                  (some ((-2), q1.2))
                  (cnd (32 ≤ q1.1 ∧ q1.1 < q1.2 (-1) 0 ∧ q1.2 q1.1 (-1) = 0) (cnd (wr (q1.2 q1.1 3) ≤ wr x3)
                    (some ((-2), q1.2))
                    (cnd (32 ≤ q1.1 ∧ q1.1 < q1.2 (-1) 0 ∧ q1.2 q1.1 (-1) = 0) (bnd (clR PG0 MX d 136 [vI x3, vI (q1.2 q1.1 3)] q1.2) (fun q2 => 
                    cnd (wr q2.1 = 0)
                        (cnd (wr 256 < wr x2)
                          (some ((-5), q2.2))
                          (cnd (32 ≤ q1.1 ∧ q1.1 < q2.2 (-1) 0 ∧ q2.2 q1.1 (-1) = 0) (cnd (wr ((q2.2 q1.1 3) * x2) ≤ wr 256)
                            (cnd (32 ≤ x0 ∧ x0 < q2.2 (-1) 0 ∧ q2.2 x0 (-1) = 8) (cnd (32 ≤ x0 ∧ x0 < q2.2 (-1) 0 ∧ q2.2 x0 (-1) = 8) (cnd (0 < (q2.2 x0 6) ∧ (q2.2 x0 6) < q2.2 (-1) 0 ∧ q2.2 (q2.2 x0 6) (-1) = 6) (bnd (clR PG0 MX d 137 [vR (q2.2 x0 6), vR q1.1, vI x2, vI x3, vI x4, vR (q2.2 x0 1)] q2.2) (fun q3 => 
                            cnd (0 ≤ wr q3.1)
                                (cnd (32 ≤ x0 ∧ x0 < q3.2 (-1) 0 ∧ q3.2 x0 (-1) = 8) (bnd (clR PG0 MX d 142 [vR (q3.2 x0 1), vI x2, vI x3] q3.2) (fun q4 => 
                                rsP PG0 MX d 135 130 [vR x0, vI x1, vI x2, vI x3, vI x4, vR q1.1, vI q3.1] [] q4.2)) none)
                                (some (q3.1, q3.2)))) none) none) none)
                            (some ((-5), q2.2))) none))
                        (some ((-2), q2.2)))) none)) none))
                (some ((-2), q1.2)))))) none))) none :=
  blkE (cs := pgA_135) rfl [130] 59 _ _ _ _
set_option maxRecDepth 100000 in
theorem sg_135_130 (d : Nat) (σ : HP) (x0 x1 x2 x3 x4 x5 x6 : Int) : rsP PG0 MX d 135 130 [vR x0, vI x1, vI x2, vI x3, vI x4, vR x5, vI x6] [] σ =
    cnd (0 < x0 ∧ x0 < σ (-1) 0 ∧ σ x0 (-1) = 8) (bnd (clR PG0 MX d 32 [vR x0, vI x1] σ) (fun q1 => 
    some (q1.1, q1.2))) none :=
  blkE (cs := pgA_135) rfl [130] 5 _ _ _ _
/-- OneAtATime.haveCommonDivisor(II)Z -/
theorem ce_136 (d : Nat) (σ : HP) (x0 x1 : Int) : clR PG0 MX (d + 1) 136 [vI x0, vI x1] σ = rsP PG0 MX d 136 0 [vI x0, vI x1, vU] [] σ := rfl
set_option maxRecDepth 100000 in
theorem sg_136_0 (d : Nat) (σ : HP) (x0 x1 : Int) : rsP PG0 MX d 136 0 [vI x0, vI x1, vU] [] σ =
    rsP PG0 MX d 136 2 [vI x0, vI x1, vI 2] [] σ :=
  blkE (cs := pgA_136) rfl [2] 4 _ _ _ _
set_option maxRecDepth 100000 in
theorem sg_136_2 (d : Nat) (σ : HP) (x0 x1 x2 : Int) : rsP PG0 MX d 136 2 [vI x0, vI x1, vI x2] [] σ =
    cnd (wr 8 < wr x2)
      (some (0, σ))
      (cnd (wr x2 ≠ 0) (cnd (wr (i_rem x0 x2) ≠ 0)
        (rsP PG0 MX d 136 2 [vI x0, vI x1, vI (x2 + 1)] [] σ)
        (cnd (wr x2 ≠ 0) (cnd (wr (i_rem x1 x2) ≠ 0)
          (rsP PG0 MX d 136 2 [vI x0, vI x1, vI (x2 + 1)] [] σ)
          (some (1, σ))) none)) none) :=
  blkE (cs := pgA_136) rfl [2] 15 _ _ _ _
/-- OneAtATime$Search.forTracks(LOneAtATime$BitList;IIILOneAtATime$BitList;)I -/
theorem ce_137 (d : Nat) (σ : HP) (x0 x1 x2 x3 x4 x5 : Int) : clR PG0 MX (d + 1) 137 [vR x0, vR x1, vI x2, vI x3, vI x4, vR x5] σ = rsP PG0 MX d 137 0 [vR x0, vR x1, vI x2, vI x3, vI x4, vR x5, vU, vU, vU, vU, vU, vU] [] σ := rfl
set_option maxRecDepth 100000 in
theorem sg_137_0 (d : Nat) (σ : HP) (x0 x1 x2 x3 x4 x5 : Int) : rsP PG0 MX d 137 0 [vR x0, vR x1, vI x2, vI x3, vI x4, vR x5, vU, vU, vU, vU, vU, vU] [] σ =
    cnd (32 ≤ x1 ∧ x1 < σ (-1) 0 ∧ σ x1 (-1) = 0) (cnd (0 < (σ x1 1) ∧ (σ x1 1) < σ (-1) 0 ∧ σ (σ x1 1) (-1) = 20 ∧ 0 ≤ wr 0 ∧ wr 0 < σ (σ x1 1) (-2)) (cnd (32 ≤ x1 ∧ x1 < σ (-1) 0 ∧ σ x1 (-1) = 0) (cnd (0 < x0 ∧ x0 < σ (-1) 0 ∧ σ x0 (-1) = 6) (bnd (clR PG0 MX d 138 [vR x0, vI (σ x1 3)] σ) (fun q1 => 
    cnd (32 ≤ x0 ∧ x0 < q1.2 (-1) 0 ∧ q1.2 x0 (-1) = 6) (cnd (0 < (q1.2 x0 0) ∧ (q1.2 x0 0) < q1.2 (-1) 0 ∧ q1.2 (q1.2 x0 0) (-1) = 20 ∧ 0 ≤ wr (σ (σ x1 1) (wr 0)) ∧ wr (σ (σ x1 1) (wr 0)) < q1.2 (q1.2 x0 0) (-2)) (cnd (wr (q1.2 (q1.2 x0 0) (wr (σ (σ x1 1) (wr 0)))) ≠ wr 1)
        (cnd (0 < x5 ∧ x5 < q1.2 (-1) 0 ∧ q1.2 x5 (-1) = 0) (bnd (clR PG0 MX d 104 [vR x5, vR x1, vI (σ (σ x1 1) (wr 0))] q1.2) (fun q2 => 
        cnd (32 ≤ x1 ∧ x1 < q2.2 (-1) 0 ∧ q2.2 x1 (-1) = 0) (cnd (0 < x0 ∧ x0 < q2.2 (-1) 0 ∧ q2.2 x0 (-1) = 6) (bnd (clR PG0 MX d 140 [vR x0, vI (σ (σ x1 1) (wr 0)), vI (q2.2 x1 3), vI 1] q2.2) (fun q3 => 
          cnd (32 ≤ x0 ∧ x0 < q3.2 (-1) 0 ∧ q3.2 x0 (-1) = 6) (cnd (32 ≤ (q3.2 x0 1) ∧ (q3.2 x0 1) < q3.2 (-1) 0 ∧ q3.2 (q3.2 x0 1) (-1) = 20 ∧ 0 ≤ wr 0 ∧ wr 0 < q3.2 (q3.2 x0 1) (-2)) (cnd (32 ≤ x0 ∧ x0 < (up q3.2 (q3.2 x0 1) (wr 0) 0) (-1) 0 ∧ (up q3.2 (q3.2 x0 1) (wr 0) 0) x0 (-1) = 6) (cnd (32 ≤ ((up q3.2 (q3.2 x0 1) (wr 0) 0) x0 2) ∧ ((up q3.2 (q3.2 x0 1) (wr 0) 0) x0 2) < (up q3.2 (q3.2 x0 1) (wr 0) 0) (-1) 0 ∧ (up q3.2 (q3.2 x0 1) (wr 0) 0) ((up q3.2 (q3.2 x0 1) (wr 0) 0) x0 2) (-1) = 20 ∧ 0 ≤ wr 0 ∧ wr 0 < (up q3.2 (q3.2 x0 1) (wr 0) 0) ((up q3.2 (q3.2 x0 1) (wr 0) 0) x0 2) (-2)) (cnd (32 ≤ x1 ∧ x1 < (up (up q3.2 (q3.2 x0 1) (wr 0) 0) ((up q3.2 (q3.2 x0 1) (wr 0) 0) x0 2) (wr 0) 0) (-1) 0 ∧ (up (up q3.2 (q3.2 x0 1) (wr 0) 0) ((up q3.2 (q3.2 x0 1) (wr 0) 0) x0 2) (wr 0) 0) x1 (-1) = 0) (bnd (clR PG0 MX d 139 [vI (σ (σ x1 1) (wr 0)), vI x3, vI ((up (up q3.2 (q3.2 x0 1) (wr 0) 0) ((up q3.2 (q3.2 x0 1) (wr 0) 0) x0 2) (wr 0) 0) x1 3)] (up (up q3.2 (q3.2 x0 1) (wr 0) 0) ((up q3.2 (q3.2 x0 1) (wr 0) 0) x0 2) (wr 0) 0)) (fun q4 => 
            rsP PG0 MX d 137 74 [vR x0, vR x1, vI x2, vI x3, vI x4, vR x5, vI (σ (σ x1 1) (wr 0)), vI q4.1, vU, vU, vU, vU] [] q4.2)) none) none) none) none) none)) none) none)) none)
        (some ((-1), q1.2))) none) none)) none) none) none) none :=
  blkE (cs := pgA_137) rfl [74, 80, 103, 127] 43 _ _ _ _
set_option maxRecDepth 100000 in
theorem sg_137_74 (d : Nat) (σ : HP) (x0 x1 x2 x3 x4 x5 x6 x7 : Int) (u8 u9 u10 u11 : MV) : rsP PG0 MX d 137 74 [vR x0, vR x1, vI x2, vI x3, vI x4, vR x5, vI x6, vI x7, u8, u9, u10, u11] [] σ =
    rsP PG0 MX d 137 80 [vR x0, vR x1, vI x2, vI x3, vI x4, vR x5, vI x6, vI x7, vI 0, vI 0, u10, u11] [] σ :=
  blkE (cs := pgA_137) rfl [74, 80, 103, 127] 6 _ _ _ _
set_option maxRecDepth 100000 in
theorem sg_137_80 (d : Nat) (σ : HP) (x0 x2 x4 x5 x7 x8 x9 : Int) (u1 u3 u6 u10 u11 : MV) : rsP PG0 MX d 137 80 [vR x0, u1, vI x2, u3, vI x4, vR x5, u6, vI x7, vI x8, vI x9, u10, u11] [] σ =
    cnd (wr 1000000 ≤ wr x9)
      (some ((-3), σ))
      (cnd (32 ≤ x5 ∧ x5 < σ (-1) 0 ∧ σ x5 (-1) = 0) (cnd (wr (σ x5 6) ≠ wr (x2 - 1))
        (rsP PG0 MX d 137 103 [vR x0, vU, vI x2, vU, vI x4, vR x5, vU, vI x7, vI x8, vI x9, vU, vU] [vI 0] σ)
        (rsP PG0 MX d 137 103 [vR x0, vU, vI x2, vU, vI x4, vR x5, vU, vI x7, vI x8, vI x9, vU, vU] [vI 1] σ)) none) :=
  blkE (cs := pgA_137) rfl [74, 80, 103, 127] 13 _ _ _ _
set_option maxRecDepth 100000 in
theorem sg_137_103 (d : Nat) (σ : HP) (x0 x2 x4 x5 x7 x8 x9 y0 : Int) (u1 u3 u6 u10 u11 : MV) : rsP PG0 MX d 137 103 [vR x0, u1, vI x2, u3, vI x4, vR x5, u6, vI x7, vI x8, vI x9, u10, u11] [vI y0] σ =
    cnd (wr y0 = 0)
      (cnd (0 < x0 ∧ x0 < σ (-1) 0 ∧ σ x0 (-1) = 6) (bnd (clR PG0 MX d 114 [vR x0, vR x5, vI 0] σ) (fun q1 => 
      rsP PG0 MX d 137 127 [vR x0, vU, vI x2, vU, vI x4, vR x5, vU, vI x7, vI x8, vI x9, vI y0, vU] [vI q1.1] q1.2)) none)
      (bnd (clR PG0 MX d 141 [vR x5, vI x7] σ) (fun q2 => 
      rsP PG0 MX d 137 127 [vR x0, vU, vI x2, vU, vI x4, vR x5, vU, vI x7, vI x8, vI x9, vI y0, vU] [vI q2.1] q2.2)) :=
  blkE (cs := pgA_137) rfl [74, 80, 103, 127] 9 _ _ _ _
set_option maxRecDepth 100000 in
theorem sg_137_127 (d : Nat) (σ : HP) (x0 x2 x4 x5 x7 x8 x9 x10 y0 : Int) (u1 u3 u6 u11 : MV) : rsP PG0 MX d 137 127 [vR x0, u1, vI x2, u3, vI x4, vR x5, u6, vI x7, vI x8, vI x9, vI x10, u11] [vI y0] σ =
    cnd (wr y0 ≠ wr ((-1)))
      (cnd (wr x8 ≠ wr x4)
        (cnd (0 < x0 ∧ x0 < σ (-1) 0 ∧ σ x0 (-1) = 6) (bnd (clR PG0 MX d 116 [vR x0, vR x5, vI y0] σ) (fun q1 => 
        cnd (wr x10 = 0)
            (cnd (0 < x5 ∧ x5 < q1.2 (-1) 0 ∧ q1.2 x5 (-1) = 0) (bnd (clR PG0 MX d 112 [vR x5] q1.2) (fun q2 => 
            cnd (32 ≤ x5 ∧ x5 < q2.2 (-1) 0 ∧ q2.2 x5 (-1) = 0) (cnd (0 < x0 ∧ x0 < q2.2 (-1) 0 ∧ q2.2 x0 (-1) = 6) (bnd (clR PG0 MX d 140 [vR x0, vI q2.1, vI (q2.2 x5 3), vI 1] q2.2) (fun q3 => 
              rsP PG0 MX d 137 80 [vR x0, vU, vI x2, vU, vI x4, vR x5, vU, vI x7, vI (x8 + 1), vI (x9 + 1), vU, vU] [] q3.2)) none) none)) none)
            (cnd (32 ≤ x5 ∧ x5 < q1.2 (-1) 0 ∧ q1.2 x5 (-1) = 0) (some (q1.2 x5 6, q1.2)) none))) none)
        (some ((-3), σ)))
      (cnd (32 ≤ x5 ∧ x5 < σ (-1) 0 ∧ σ x5 (-1) = 0) (cnd (wr (σ x5 6) ≠ 0)
        (cnd (0 < x5 ∧ x5 < σ (-1) 0 ∧ σ x5 (-1) = 0) (bnd (clR PG0 MX d 112 [vR x5] σ) (fun q4 => 
        cnd (32 ≤ x5 ∧ x5 < q4.2 (-1) 0 ∧ q4.2 x5 (-1) = 0) (cnd (0 < x0 ∧ x0 < q4.2 (-1) 0 ∧ q4.2 x0 (-1) = 6) (bnd (clR PG0 MX d 140 [vR x0, vI q4.1, vI (q4.2 x5 3), vI 0] q4.2) (fun q5 => 
          cnd (0 < x5 ∧ x5 < q5.2 (-1) 0 ∧ q5.2 x5 (-1) = 0) (bnd (clR PG0 MX d 113 [vR x5] q5.2) (fun q6 => 
            rsP PG0 MX d 137 80 [vR x0, vU, vI x2, vU, vI x4, vR x5, vU, vI x7, vI x8, vI (x9 + 1), vU, vU] [] q6.2)) none)) none) none)) none)
        (some ((-1), σ))) none) :=
  blkE (cs := pgA_137) rfl [74, 80, 103, 127] 25 _ _ _ _
/-- OneAtATime$Search.barRolledToThemselves(I)V -/
theorem ce_138 (d : Nat) (σ : HP) (x0 x1 : Int) : clR PG0 MX (d + 1) 138 [vR x0, vI x1] σ = rsP PG0 MX d 138 0 [vR x0, vI x1, vU, vU] [] σ := rfl
set_option maxRecDepth 100000 in
theorem sg_138_0 (d : Nat) (σ : HP) (x0 x1 : Int) : rsP PG0 MX d 138 0 [vR x0, vI x1, vU, vU] [] σ =
    rsP PG0 MX d 138 2 [vR x0, vI x1, vI 0, vU] [] σ :=
  blkE (cs := pgA_138) rfl [2, 18] 4 _ _ _ _
set_option maxRecDepth 100000 in
theorem sg_138_2 (d : Nat) (σ : HP) (x0 x1 x2 : Int) (u3 : MV) : rsP PG0 MX d 138 2 [vR x0, vI x1, vI x2, u3] [] σ =
    cnd (wr (i_shl 1 x1) ≤ wr x2)
      (some (0, σ))
      (cnd (32 ≤ x0 ∧ x0 < σ (-1) 0 ∧ σ x0 (-1) = 6) (cnd (32 ≤ (σ x0 0) ∧ (σ x0 0) < σ (-1) 0 ∧ σ (σ x0 0) (-1) = 20 ∧ 0 ≤ wr x2 ∧ wr x2 < σ (σ x0 0) (-2)) (rsP PG0 MX d 138 18 [vR x0, vI x1, vI x2, vI 1] [] (up σ (σ x0 0) (wr x2) 0)) none) none) :=
  blkE (cs := pgA_138) rfl [2, 18] 14 _ _ _ _
set_option maxRecDepth 100000 in
theorem sg_138_18 (d : Nat) (σ : HP) (x0 x1 x2 x3 : Int) : rsP PG0 MX d 138 18 [vR x0, vI x1, vI x2, vI x3] [] σ =
    cnd (wr x1 ≤ wr x3)
      (rsP PG0 MX d 138 2 [vR x0, vI x1, vI (x2 + 1), vI x3] [] σ)
      (bnd (clR PG0 MX d 139 [vI x2, vI x3, vI x1] σ) (fun q1 => 
      cnd (wr q1.1 ≠ wr x2)
          (rsP PG0 MX d 138 18 [vR x0, vI x1, vI x2, vI (x3 + 1)] [] q1.2)
          (cnd (32 ≤ x0 ∧ x0 < q1.2 (-1) 0 ∧ q1.2 x0 (-1) = 6) (cnd (32 ≤ (q1.2 x0 0) ∧ (q1.2 x0 0) < q1.2 (-1) 0 ∧ q1.2 (q1.2 x0 0) (-1) = 20 ∧ 0 ≤ wr x2 ∧ wr x2 < q1.2 (q1.2 x0 0) (-2)) (rsP PG0 MX d 138 18 [vR x0, vI x1, vI x2, vI (x3 + 1)] [] (up q1.2 (q1.2 x0 0) (wr x2) 1)) none) none))) :=
  blkE (cs := pgA_138) rfl [2, 18] 18 _ _ _ _
/-- OneAtATime$Search.rolled(III)I -/
theorem ce_139 (d : Nat) (σ : HP) (x0 x1 x2 : Int) : clR PG0 MX (d + 1) 139 [vI x0, vI x1, vI x2] σ = rsP PG0 MX d 139 0 [vI x0, vI x1, vI x2, vU] [] σ := rfl
set_option maxRecDepth 100000 in
theorem sg_139_0 (d : Nat) (σ : HP) (x0 x1 x2 : Int) : rsP PG0 MX d 139 0 [vI x0, vI x1, vI x2, vU] [] σ =
    some (i_and (i_or (i_shl x0 x1) (i_shr x0 (x2 - x1))) ((i_shl 1 x2) - 1), σ) :=
  blkE (cs := pgA_139) rfl [] 19 _ _ _ _
/-- OneAtATime$Search.barRolls(III)V -/
theorem ce_140 (d : Nat) (σ : HP) (x0 x1 x2 x3 : Int) : clR PG0 MX (d + 1) 140 [vR x0, vI x1, vI x2, vI x3] σ = rsP PG0 MX d 140 0 [vR x0, vI x1, vI x2, vI x3, vU] [] σ := rfl
set_option maxRecDepth 100000 in
theorem sg_140_0 (d : Nat) (σ : HP) (x0 x1 x2 x3 : Int) : rsP PG0 MX d 140 0 [vR x0, vI x1, vI x2, vI x3, vU] [] σ =
    rsP PG0 MX d 140 3 [vR x0, vI x1, vI x2, vI x3, vI 0] [] σ :=
  blkE (cs := pgA_140) rfl [3] 4 _ _ _ _
set_option maxRecDepth 100000 in
theorem sg_140_3 (d : Nat) (σ : HP) (x0 x1 x2 x3 x4 : Int) : rsP PG0 MX d 140 3 [vR x0, vI x1, vI x2, vI x3, vI x4] [] σ =
    cnd (wr x2 ≤ wr x4)
      (some (0, σ))
      (cnd (32 ≤ x0 ∧ x0 < σ (-1) 0 ∧ σ x0 (-1) = 6) (bnd (clR PG0 MX d 139 [vI x1, vI x4, vI x2] σ) (fun q1 => 
      cnd (32 ≤ (σ x0 0) ∧ (σ x0 0) < q1.2 (-1) 0 ∧ q1.2 (σ x0 0) (-1) = 20 ∧ 0 ≤ wr q1.1 ∧ wr q1.1 < q1.2 (σ x0 0) (-2)) (rsP PG0 MX d 140 3 [vR x0, vI x1, vI x2, vI x3, vI (x4 + 1)] [] (up q1.2 (σ x0 0) (wr q1.1) x3)) none)) none) :=
  blkE (cs := pgA_140) rfl [3] 15 _ _ _ _
/-- OneAtATime$Search.bitTo(LOneAtATime$BitList;I)I -/
theorem ce_141 (d : Nat) (σ : HP) (x0 x1 : Int) : clR PG0 MX (d + 1) 141 [vR x0, vI x1] σ = rsP PG0 MX d 141 0 [vR x0, vI x1, vU] [] σ := rfl
set_option maxRecDepth 100000 in
theorem sg_141_0 (d : Nat) (σ : HP) (x0 x1 : Int) : rsP PG0 MX d 141 0 [vR x0, vI x1, vU] [] σ =
    cnd (0 < x0 ∧ x0 < σ (-1) 0 ∧ σ x0 (-1) = 0) (bnd (clR PG0 MX d 112 [vR x0] σ) (fun q1 => 
    bnd (clR PG0 MX d 50 [vI (i_xor q1.1 x1)] q1.2) (fun q2 => 
      cnd (wr q2.1 ≠ wr 1)
          (some ((-1), q2.2))
          (bnd (clR PG0 MX d 101 [vI (i_xor q1.1 x1)] q2.2) (fun q3 => 
          some (q3.1, q3.2)))))) none :=
  blkE (cs := pgA_141) rfl [] 14 _ _ _ _
/-- OneAtATime$Maker.toldRolled(LOneAtATime$BitList;II)V -/
theorem ce_142 (d : Nat) (σ : HP) (x0 x1 x2 : Int) : clR PG0 MX (d + 1) 142 [vR x0, vI x1, vI x2] σ = rsP PG0 MX d 142 0 [vR x0, vI x1, vI x2, vU, vU, vU, vU] [] σ := rfl
set_option maxRecDepth 100000 in
theorem sg_142_0 (d : Nat) (σ : HP) (x0 x1 x2 : Int) : rsP PG0 MX d 142 0 [vR x0, vI x1, vI x2, vU, vU, vU, vU] [] σ =
    rsP PG0 MX d 142 5 [vR x0, vI x1, vI x2, vI 0, vI 1, vU, vU] [] σ :=
  blkE (cs := pgA_142) rfl [5, 42, 90] 6 _ _ _ _
set_option maxRecDepth 100000 in
theorem sg_142_5 (d : Nat) (σ : HP) (x0 x1 x2 x3 x4 : Int) (u5 u6 : MV) : rsP PG0 MX d 142 5 [vR x0, vI x1, vI x2, vI x3, vI x4, u5, u6] [] σ =
    cnd (32 ≤ x0 ∧ x0 < σ (-1) 0 ∧ σ x0 (-1) = 0) (cnd (wr (σ x0 3) ≤ wr x4)
      (some (0, σ))
      (cnd (32 ≤ x0 ∧ x0 < σ (-1) 0 ∧ σ x0 (-1) = 0) (cnd (wr (x3 + x2) < wr (σ x0 3))
        (rsP PG0 MX d 142 42 [vR x0, vI x1, vI x2, vI (x3 + x2), vI x4, vI 0, vU] [] σ)
        (cnd (32 ≤ x0 ∧ x0 < σ (-1) 0 ∧ σ x0 (-1) = 0) (rsP PG0 MX d 142 42 [vR x0, vI x1, vI x2, vI ((x3 + x2) - (σ x0 3)), vI x4, vI 0, vU] [] σ) none)) none)) none :=
  blkE (cs := pgA_142) rfl [5, 42, 90] 22 _ _ _ _
set_option maxRecDepth 100000 in
theorem sg_142_42 (d : Nat) (σ : HP) (x0 x1 x2 x3 x4 x5 : Int) (u6 : MV) : rsP PG0 MX d 142 42 [vR x0, vI x1, vI x2, vI x3, vI x4, vI x5, u6] [] σ =
    cnd (wr x1 ≤ wr x5)
      (rsP PG0 MX d 142 5 [vR x0, vI x1, vI x2, vI x3, vI (x4 + 1), vU, vU] [] σ)
      (cnd (32 ≤ x0 ∧ x0 < σ (-1) 0 ∧ σ x0 (-1) = 0) (cnd (wr (σ x0 6) ≤ wr x5)
        (rsP PG0 MX d 142 5 [vR x0, vI x1, vI x2, vI x3, vI (x4 + 1), vU, vU] [] σ)
        (cnd (32 ≤ x0 ∧ x0 < σ (-1) 0 ∧ σ x0 (-1) = 0) (cnd (0 < (σ x0 0) ∧ (σ x0 0) < σ (-1) 0 ∧ σ (σ x0 0) (-1) = 20 ∧ 0 ≤ wr x5 ∧ wr x5 < σ (σ x0 0) (-2)) (cnd (32 ≤ x0 ∧ x0 < σ (-1) 0 ∧ σ x0 (-1) = 0) (cnd (wr ((σ (σ x0 0) (wr x5)) + x3) < wr (σ x0 3))
          (rsP PG0 MX d 142 90 [vR x0, vI x1, vI x2, vI x3, vI x4, vI x5, vI ((σ (σ x0 0) (wr x5)) + x3)] [vI ((σ (σ x0 0) (wr x5)) + x3), vR x0] σ)
          (cnd (32 ≤ x0 ∧ x0 < σ (-1) 0 ∧ σ x0 (-1) = 0) (rsP PG0 MX d 142 90 [vR x0, vI x1, vI x2, vI x3, vI x4, vI x5, vI ((σ (σ x0 0) (wr x5)) + x3)] [vI (((σ (σ x0 0) (wr x5)) + x3) - (σ x0 3)), vR x0] σ) none)) none) none) none)) none) :=
  blkE (cs := pgA_142) rfl [5, 42, 90] 26 _ _ _ _
set_option maxRecDepth 100000 in
theorem sg_142_90 (d : Nat) (σ : HP) (x0 x1 x2 x3 x4 x5 x6 y0 y1 : Int) : rsP PG0 MX d 142 90 [vR x0, vI x1, vI x2, vI x3, vI x4, vI x5, vI x6] [vI y1, vR y0] σ =
    cnd (0 < y0 ∧ y0 < σ (-1) 0 ∧ σ y0 (-1) = 0) (bnd (clR PG0 MX d 31 [vR y0, vI y1] σ) (fun q1 => 
    rsP PG0 MX d 142 42 [vR x0, vI x1, vI x2, vI x3, vI x4, vI (x5 + 1), vI x6] [] q1.2)) none :=
  blkE (cs := pgA_142) rfl [5, 42, 90] 5 _ _ _ _
/-- OneAtATime.product(III)I -/
theorem ce_143 (d : Nat) (σ : HP) (x0 x1 x2 x3 : Int) : clR PG0 MX (d + 1) 143 [vR x0, vI x1, vI x2, vI x3] σ = rsP PG0 MX d 143 0 [vR x0, vI x1, vI x2, vI x3, vU, vU, vU] [] σ := rfl
set_option maxRecDepth 100000 in
theorem sg_143_0 (d : Nat) (σ : HP) (x0 x1 x2 x3 : Int) : rsP PG0 MX d 143 0 [vR x0, vI x1, vI x2, vI x3, vU, vU, vU] [] σ =
    cnd (0 < x0 ∧ x0 < σ (-1) 0 ∧ σ x0 (-1) = 8) (bnd (clR PG0 MX d 41 [vR x0, vI x1] σ) (fun q1 => 
    cnd (0 < x0 ∧ x0 < q1.2 (-1) 0 ∧ q1.2 x0 (-1) = 8) (bnd (clR PG0 MX d 41 [vR x0, vI x2] q1.2) (fun q2 => 
      cnd (q1.1 ≤ 0)
          (some ((-2), q2.2))
          (cnd (q2.1 ≤ 0)
            (some ((-2), q2.2))
            (bnd (clR PG0 MX d 16 [vI x3] q2.2) (fun q3 => 
            cnd (wr q3.1 ≠ 0)
                (cnd (32 ≤ q1.1 ∧ q1.1 < q3.2 (-1) 0 ∧ q3.2 q1.1 (-1) = 0) (cnd (32 ≤ q2.1 ∧ q2.1 < q3.2 (-1) 0 ∧ q3.2 q2.1 (-1) = 0) (cnd (32 ≤ q2.1 ∧ q2.1 < q3.2 (-1) 0 ∧ q3.2 q2.1 (-1) = 0) (cnd (32 ≤ q1.1 ∧ q1.1 < q3.2 (-1) 0 ∧ q3.2 q1.1 (-1) = 0) (cnd (32 ≤ q2.1 ∧ q2.1 < q3.2 (-1) 0 ∧ q3.2 q2.1 (-1) = 0) (cnd (wr 8 < wr ((q3.2 q1.1 3) + (q3.2 q2.1 3)))
                  (some ((-5), q3.2))
                  (cnd (wr (((q3.2 q1.1 6) * ((q3.2 q2.1 6) + 1)) + (q3.2 q2.1 6)) ≤ wr 256)
                    (cnd (32 ≤ x0 ∧ x0 < q3.2 (-1) 0 ∧ q3.2 x0 (-1) = 8) (bnd (clR PG0 MX d 144 [vR q1.1, vR q2.1, vR (q3.2 x0 1)] q3.2) (fun q4 => 
                    rsP PG0 MX d 143 93 [vR x0, vI x1, vI x2, vI x3, vR q1.1, vR q2.1, vI (((q3.2 q1.1 6) * ((q3.2 q2.1 6) + 1)) + (q3.2 q2.1 6))] [] q4.2)) none)
                    (some ((-5), q3.2)))) none) none) none) none) none)
                (some ((-2), q3.2))))))) none)) none :=
  blkE (cs := pgA_143) rfl [93] 43 _ _ _ _
set_option maxRecDepth 100000 in
theorem sg_143_93 (d : Nat) (σ : HP) (x0 x1 x2 x3 x4 x5 x6 : Int) : rsP PG0 MX d 143 93 [vR x0, vI x1, vI x2, vI x3, vR x4, vR x5, vI x6] [] σ =
    cnd (0 < x0 ∧ x0 < σ (-1) 0 ∧ σ x0 (-1) = 8) (bnd (clR PG0 MX d 32 [vR x0, vI x3] σ) (fun q1 => 
    some (q1.1, q1.2))) none :=
  blkE (cs := pgA_143) rfl [93] 5 _ _ _ _
/-- OneAtATime$Maker.multiplied(LOneAtATime$BitList;LOneAtATime$BitList;LOneAtATime$BitList;)V -/
theorem ce_144 (d : Nat) (σ : HP) (x0 x1 x2 : Int) : clR PG0 MX (d + 1) 144 [vR x0, vR x1, vR x2] σ = rsP PG0 MX d 144 0 [vR x0, vR x1, vR x2, vU, vU] [] σ := rfl
set_option maxRecDepth 100000 in
theorem sg_144_0 (d : Nat) (σ : HP) (x0 x1 x2 : Int) : rsP PG0 MX d 144 0 [vR x0, vR x1, vR x2, vU, vU] [] σ =
    cnd (32 ≤ x0 ∧ x0 < σ (-1) 0 ∧ σ x0 (-1) = 0) (cnd (32 ≤ x1 ∧ x1 < σ (-1) 0 ∧ σ x1 (-1) = 0) (cnd (32 ≤ x0 ∧ x0 < σ (-1) 0 ∧ σ x0 (-1) = 0) (cnd (0 < (σ x0 1) ∧ (σ x0 1) < σ (-1) 0 ∧ σ (σ x0 1) (-1) = 20 ∧ 0 ≤ wr 0 ∧ wr 0 < σ (σ x0 1) (-2)) (cnd (32 ≤ x1 ∧ x1 < σ (-1) 0 ∧ σ x1 (-1) = 0) (cnd (0 < (σ x1 1) ∧ (σ x1 1) < σ (-1) 0 ∧ σ (σ x1 1) (-1) = 20 ∧ 0 ≤ wr 0 ∧ wr 0 < σ (σ x1 1) (-2)) (cnd (32 ≤ x0 ∧ x0 < σ (-1) 0 ∧ σ x0 (-1) = 0) (cnd (0 < x2 ∧ x2 < σ (-1) 0 ∧ σ x2 (-1) = 0) (bnd (clR PG0 MX d 28 [vR x2, vI ((σ x0 3) + (σ x1 3)), vI 0, vI ((σ x0 3) + (σ x1 3)), vI (i_or (σ (σ x0 1) (wr 0)) (i_shl (σ (σ x1 1) (wr 0)) (σ x0 3)))] σ) (fun q1 => 
    rsP PG0 MX d 144 38 [vR x0, vR x1, vR x2, vI ((σ x0 3) + (σ x1 3)), vI 0] [] q1.2)) none) none) none) none) none) none) none) none :=
  blkE (cs := pgA_144) rfl [38, 78] 27 _ _ _ _
set_option maxRecDepth 100000 in
theorem sg_144_38 (d : Nat) (σ : HP) (x0 x1 x2 x4 : Int) (u3 : MV) : rsP PG0 MX d 144 38 [vR x0, vR x1, vR x2, u3, vI x4] [] σ =
    cnd (32 ≤ x1 ∧ x1 < σ (-1) 0 ∧ σ x1 (-1) = 0) (cnd (wr (σ x1 6) < wr x4)
      (some (0, σ))
      (cnd (wr 2 ≠ 0) (cnd (wr (i_rem x4 2) ≠ 0)
        (cnd (32 ≤ x0 ∧ x0 < σ (-1) 0 ∧ σ x0 (-1) = 0) (cnd (0 < x2 ∧ x2 < σ (-1) 0 ∧ σ x2 (-1) = 0) (bnd (clR PG0 MX d 123 [vR x2, vR x0, vI 0, vI (σ x0 6)] σ) (fun q1 => 
        rsP PG0 MX d 144 78 [vR x0, vR x1, vR x2, vU, vI x4] [] q1.2)) none) none)
        (cnd (32 ≤ x0 ∧ x0 < σ (-1) 0 ∧ σ x0 (-1) = 0) (cnd (0 < x2 ∧ x2 < σ (-1) 0 ∧ σ x2 (-1) = 0) (bnd (clR PG0 MX d 107 [vR x2, vR x0, vI 0, vI (σ x0 6), vI 0] σ) (fun q2 => 
        rsP PG0 MX d 144 78 [vR x0, vR x1, vR x2, vU, vI x4] [] q2.2)) none) none)) none)) none :=
  blkE (cs := pgA_144) rfl [38, 78] 18 _ _ _ _
set_option maxRecDepth 100000 in
theorem sg_144_78 (d : Nat) (σ : HP) (x0 x1 x2 x4 : Int) (u3 : MV) : rsP PG0 MX d 144 78 [vR x0, vR x1, vR x2, u3, vI x4] [] σ =
    cnd (32 ≤ x0 ∧ x0 < σ (-1) 0 ∧ σ x0 (-1) = 0) (cnd (0 < x2 ∧ x2 < σ (-1) 0 ∧ σ x2 (-1) = 0) (bnd (clR PG0 MX d 107 [vR x2, vR x1, vI x4, vI (x4 + 1), vI (σ x0 3)] σ) (fun q1 => 
    rsP PG0 MX d 144 38 [vR x0, vR x1, vR x2, vU, vI (x4 + 1)] [] q1.2)) none) none :=
  blkE (cs := pgA_144) rfl [38, 78] 13 _ _ _ _
/-- OneAtATime.twists(III)I -/
theorem ce_145 (d : Nat) (σ : HP) (x0 x1 x2 x3 : Int) : clR PG0 MX (d + 1) 145 [vR x0, vI x1, vI x2, vI x3] σ = rsP PG0 MX d 145 0 [vR x0, vI x1, vI x2, vI x3, vU] [] σ := rfl
set_option maxRecDepth 100000 in
theorem sg_145_0 (d : Nat) (σ : HP) (x0 x1 x2 x3 : Int) : rsP PG0 MX d 145 0 [vR x0, vI x1, vI x2, vI x3, vU] [] σ =
    cnd (0 < x0 ∧ x0 < σ (-1) 0 ∧ σ x0 (-1) = 8) (bnd (clR PG0 MX d 41 [vR x0, vI x1] σ) (fun q1 => 
    cnd (q1.1 ≤ 0)
        (some ((-2), q1.2))
        (cnd (wr x2 < 0)
          (some ((-2), q1.2))
          (cnd (wr x3 ≤ wr x2)
            (some ((-2), q1.2))
            (cnd (32 ≤ q1.1 ∧ q1.1 < q1.2 (-1) 0 ∧ q1.2 q1.1 (-1) = 0) (cnd (wr x3 < wr (q1.2 q1.1 6))
              (cnd (0 < q1.1 ∧ q1.1 < q1.2 (-1) 0 ∧ q1.2 q1.1 (-1) = 0) (bnd (clR PG0 MX d 146 [vR q1.1, vI x2, vI x3] q1.2) (fun q2 => 
              cnd (wr q2.1 ≠ 0)
                  (cnd (32 ≤ x0 ∧ x0 < q2.2 (-1) 0 ∧ q2.2 x0 (-1) = 8) (bnd (clR PG0 MX d 147 [vR q1.1, vI x2, vI x3, vR (q2.2 x0 1)] q2.2) (fun q3 => 
                  cnd (0 < x0 ∧ x0 < q3.2 (-1) 0 ∧ q3.2 x0 (-1) = 8) (bnd (clR PG0 MX d 32 [vR x0, vI x1] q3.2) (fun q4 => 
                    some (q4.1, q4.2))) none)) none)
                  (some ((-6), q2.2)))) none)
              (some ((-2), q1.2))) none))))) none :=
  blkE (cs := pgA_145) rfl [] 31 _ _ _ _
/-- OneAtATime$BitList.canTwist(II)Z -/
theorem ce_146 (d : Nat) (σ : HP) (x0 x1 x2 : Int) : clR PG0 MX (d + 1) 146 [vR x0, vI x1, vI x2] σ = rsP PG0 MX d 146 0 [vR x0, vI x1, vI x2] [] σ := rfl
set_option maxRecDepth 100000 in
theorem sg_146_0 (d : Nat) (σ : HP) (x0 x1 x2 : Int) : rsP PG0 MX d 146 0 [vR x0, vI x1, vI x2] [] σ =
    cnd (32 ≤ x0 ∧ x0 < σ (-1) 0 ∧ σ x0 (-1) = 0) (cnd (0 < (σ x0 1) ∧ (σ x0 1) < σ (-1) 0 ∧ σ (σ x0 1) (-1) = 20 ∧ 0 ≤ wr x1 ∧ wr x1 < σ (σ x0 1) (-2)) (cnd (32 ≤ x0 ∧ x0 < σ (-1) 0 ∧ σ x0 (-1) = 0) (cnd (0 < (σ x0 1) ∧ (σ x0 1) < σ (-1) 0 ∧ σ (σ x0 1) (-1) = 20 ∧ 0 ≤ wr x2 ∧ wr x2 < σ (σ x0 1) (-2)) (bnd (clR PG0 MX d 50 [vI (i_xor (σ (σ x0 1) (wr x1)) (σ (σ x0 1) (wr x2)))] σ) (fun q1 => 
    cnd (wr q1.1 ≠ wr 1)
        (some (0, q1.2))
        (cnd (32 ≤ x0 ∧ x0 < q1.2 (-1) 0 ∧ q1.2 x0 (-1) = 0) (cnd (0 < (q1.2 x0 1) ∧ (q1.2 x0 1) < q1.2 (-1) 0 ∧ q1.2 (q1.2 x0 1) (-1) = 20 ∧ 0 ≤ wr (x1 + 1) ∧ wr (x1 + 1) < q1.2 (q1.2 x0 1) (-2)) (cnd (32 ≤ x0 ∧ x0 < q1.2 (-1) 0 ∧ q1.2 x0 (-1) = 0) (cnd (0 < (q1.2 x0 1) ∧ (q1.2 x0 1) < q1.2 (-1) 0 ∧ q1.2 (q1.2 x0 1) (-1) = 20 ∧ 0 ≤ wr (x2 + 1) ∧ wr (x2 + 1) < q1.2 (q1.2 x0 1) (-2)) (bnd (clR PG0 MX d 50 [vI (i_xor (q1.2 (q1.2 x0 1) (wr (x1 + 1))) (q1.2 (q1.2 x0 1) (wr (x2 + 1))))] q1.2) (fun q2 => 
        cnd (wr q2.1 ≠ wr 1)
            (some (0, q2.2))
            (some (1, q2.2)))) none) none) none) none))) none) none) none) none :=
  blkE (cs := pgA_146) rfl [] 32 _ _ _ _
/-- OneAtATime$Maker.twisted(LOneAtATime$BitList;IILOneAtATime$BitList;)V -/
theorem ce_147 (d : Nat) (σ : HP) (x0 x1 x2 x3 : Int) : clR PG0 MX (d + 1) 147 [vR x0, vI x1, vI x2, vR x3] σ = rsP PG0 MX d 147 0 [vR x0, vI x1, vI x2, vR x3] [] σ := rfl
set_option maxRecDepth 100000 in
theorem sg_147_0 (d : Nat) (σ : HP) (x0 x1 x2 x3 : Int) : rsP PG0 MX d 147 0 [vR x0, vI x1, vI x2, vR x3] [] σ =
    cnd (32 ≤ x0 ∧ x0 < σ (-1) 0 ∧ σ x0 (-1) = 0) (cnd (0 < (σ x0 1) ∧ (σ x0 1) < σ (-1) 0 ∧ σ (σ x0 1) (-1) = 20 ∧ 0 ≤ wr 0 ∧ wr 0 < σ (σ x0 1) (-2)) (cnd (0 < x3 ∧ x3 < σ (-1) 0 ∧ σ x3 (-1) = 0) (bnd (clR PG0 MX d 104 [vR x3, vR x0, vI (σ (σ x0 1) (wr 0))] σ) (fun q1 => 
    cnd (0 < x3 ∧ x3 < q1.2 (-1) 0 ∧ q1.2 x3 (-1) = 0) (bnd (clR PG0 MX d 107 [vR x3, vR x0, vI 0, vI x1, vI 0] q1.2) (fun q2 => 
      cnd (32 ≤ x0 ∧ x0 < q2.2 (-1) 0 ∧ q2.2 x0 (-1) = 0) (cnd (0 < (q2.2 x0 1) ∧ (q2.2 x0 1) < q2.2 (-1) 0 ∧ q2.2 (q2.2 x0 1) (-1) = 20 ∧ 0 ≤ wr x1 ∧ wr x1 < q2.2 (q2.2 x0 1) (-2)) (cnd (32 ≤ x0 ∧ x0 < q2.2 (-1) 0 ∧ q2.2 x0 (-1) = 0) (cnd (0 < (q2.2 x0 1) ∧ (q2.2 x0 1) < q2.2 (-1) 0 ∧ q2.2 (q2.2 x0 1) (-1) = 20 ∧ 0 ≤ wr x2 ∧ wr x2 < q2.2 (q2.2 x0 1) (-2)) (bnd (clR PG0 MX d 101 [vI (i_xor (q2.2 (q2.2 x0 1) (wr x1)) (q2.2 (q2.2 x0 1) (wr x2)))] q2.2) (fun q3 => 
        cnd (0 < x3 ∧ x3 < q3.2 (-1) 0 ∧ q3.2 x3 (-1) = 0) (bnd (clR PG0 MX d 31 [vR x3, vI q3.1] q3.2) (fun q4 => 
          rsP PG0 MX d 147 39 [vR x0, vI x1, vI x2, vR x3] [] q4.2)) none)) none) none) none) none)) none)) none) none) none :=
  blkE (cs := pgA_147) rfl [39] 27 _ _ _ _
set_option maxRecDepth 100000 in
theorem sg_147_39 (d : Nat) (σ : HP) (x0 x1 x2 x3 : Int) : rsP PG0 MX d 147 39 [vR x0, vI x1, vI x2, vR x3] [] σ =
    cnd (0 < x3 ∧ x3 < σ (-1) 0 ∧ σ x3 (-1) = 0) (bnd (clR PG0 MX d 123 [vR x3, vR x0, vI (x1 + 1), vI x2] σ) (fun q1 => 
    cnd (32 ≤ x0 ∧ x0 < q1.2 (-1) 0 ∧ q1.2 x0 (-1) = 0) (cnd (0 < (q1.2 x0 1) ∧ (q1.2 x0 1) < q1.2 (-1) 0 ∧ q1.2 (q1.2 x0 1) (-1) = 20 ∧ 0 ≤ wr (x1 + 1) ∧ wr (x1 + 1) < q1.2 (q1.2 x0 1) (-2)) (cnd (32 ≤ x0 ∧ x0 < q1.2 (-1) 0 ∧ q1.2 x0 (-1) = 0) (cnd (0 < (q1.2 x0 1) ∧ (q1.2 x0 1) < q1.2 (-1) 0 ∧ q1.2 (q1.2 x0 1) (-1) = 20 ∧ 0 ≤ wr (x2 + 1) ∧ wr (x2 + 1) < q1.2 (q1.2 x0 1) (-2)) (bnd (clR PG0 MX d 101 [vI (i_xor (q1.2 (q1.2 x0 1) (wr (x1 + 1))) (q1.2 (q1.2 x0 1) (wr (x2 + 1))))] q1.2) (fun q2 => 
      cnd (0 < x3 ∧ x3 < q2.2 (-1) 0 ∧ q2.2 x3 (-1) = 0) (bnd (clR PG0 MX d 31 [vR x3, vI q2.1] q2.2) (fun q3 => 
        cnd (32 ≤ x0 ∧ x0 < q3.2 (-1) 0 ∧ q3.2 x0 (-1) = 0) (cnd (0 < x3 ∧ x3 < q3.2 (-1) 0 ∧ q3.2 x3 (-1) = 0) (bnd (clR PG0 MX d 107 [vR x3, vR x0, vI (x2 + 1), vI (q3.2 x0 6), vI 0] q3.2) (fun q4 => 
          some (0, q4.2))) none) none)) none)) none) none) none) none)) none :=
  blkE (cs := pgA_147) rfl [39] 34 _ _ _ _
/-- OneAtATime.twistable(I)I -/
theorem ce_148 (d : Nat) (σ : HP) (x0 x1 : Int) : clR PG0 MX (d + 1) 148 [vR x0, vI x1] σ = rsP PG0 MX d 148 0 [vR x0, vI x1, vU] [] σ := rfl
set_option maxRecDepth 100000 in
theorem sg_148_0 (d : Nat) (σ : HP) (x0 x1 : Int) : rsP PG0 MX d 148 0 [vR x0, vI x1, vU] [] σ =
    cnd (0 < x0 ∧ x0 < σ (-1) 0 ∧ σ x0 (-1) = 8) (bnd (clR PG0 MX d 41 [vR x0, vI x1] σ) (fun q1 => 
    cnd (0 < q1.1)
        (bnd (clR PG0 MX d 149 [vR q1.1] q1.2) (fun q2 => 
        some (q2.1, q2.2)))
        (some ((-2), q1.2)))) none :=
  blkE (cs := pgA_148) rfl [] 10 _ _ _ _
/-- OneAtATime$Survey.twistablePairs(LOneAtATime$BitList;)I -/
theorem ce_149 (d : Nat) (σ : HP) (x0 : Int) : clR PG0 MX (d + 1) 149 [vR x0] σ = rsP PG0 MX d 149 0 [vR x0, vU, vU, vU] [] σ := rfl
set_option maxRecDepth 100000 in
theorem sg_149_0 (d : Nat) (σ : HP) (x0 : Int) : rsP PG0 MX d 149 0 [vR x0, vU, vU, vU] [] σ =
    rsP PG0 MX d 149 4 [vR x0, vI 0, vI 0, vU] [] σ :=
  blkE (cs := pgA_149) rfl [4, 16] 6 _ _ _ _
set_option maxRecDepth 100000 in
theorem sg_149_4 (d : Nat) (σ : HP) (x0 x1 x2 : Int) (u3 : MV) : rsP PG0 MX d 149 4 [vR x0, vI x1, vI x2, u3] [] σ =
    cnd (32 ≤ x0 ∧ x0 < σ (-1) 0 ∧ σ x0 (-1) = 0) (cnd (wr (σ x0 6) ≤ wr x2)
      (some (x1, σ))
      (rsP PG0 MX d 149 16 [vR x0, vI x1, vI x2, vI (x2 + 2)] [] σ)) none :=
  blkE (cs := pgA_149) rfl [4, 16] 10 _ _ _ _
set_option maxRecDepth 100000 in
theorem sg_149_16 (d : Nat) (σ : HP) (x0 x1 x2 x3 : Int) : rsP PG0 MX d 149 16 [vR x0, vI x1, vI x2, vI x3] [] σ =
    cnd (32 ≤ x0 ∧ x0 < σ (-1) 0 ∧ σ x0 (-1) = 0) (cnd (wr (σ x0 6) ≤ wr x3)
      (rsP PG0 MX d 149 4 [vR x0, vI x1, vI (x2 + 1), vI x3] [] σ)
      (cnd (0 < x0 ∧ x0 < σ (-1) 0 ∧ σ x0 (-1) = 0) (bnd (clR PG0 MX d 146 [vR x0, vI x2, vI x3] σ) (fun q1 => 
      cnd (wr q1.1 = 0)
          (rsP PG0 MX d 149 16 [vR x0, vI x1, vI x2, vI (x3 + 1)] [] q1.2)
          (rsP PG0 MX d 149 16 [vR x0, vI (x1 + 1), vI x2, vI (x3 + 1)] [] q1.2))) none)) none :=
  blkE (cs := pgA_149) rfl [4, 16] 14 _ _ _ _
/-- OneAtATime.detour(III)I -/
theorem ce_150 (d : Nat) (σ : HP) (x0 x1 x2 x3 : Int) : clR PG0 MX (d + 1) 150 [vR x0, vI x1, vI x2, vI x3] σ = rsP PG0 MX d 150 0 [vR x0, vI x1, vI x2, vI x3, vU] [] σ := rfl
set_option maxRecDepth 100000 in
theorem sg_150_0 (d : Nat) (σ : HP) (x0 x1 x2 x3 : Int) : rsP PG0 MX d 150 0 [vR x0, vI x1, vI x2, vI x3, vU] [] σ =
    cnd (0 < x0 ∧ x0 < σ (-1) 0 ∧ σ x0 (-1) = 8) (bnd (clR PG0 MX d 41 [vR x0, vI x1] σ) (fun q1 => 
    cnd (q1.1 ≤ 0)
        (some ((-2), q1.2))
        (cnd (wr x2 < 0)
          (some ((-2), q1.2))
          (cnd (32 ≤ q1.1 ∧ q1.1 < q1.2 (-1) 0 ∧ q1.2 q1.1 (-1) = 0) (cnd (wr (q1.2 q1.1 6) ≤ wr x2)
            (some ((-2), q1.2))
            (cnd (0 < q1.1 ∧ q1.1 < q1.2 (-1) 0 ∧ q1.2 q1.1 (-1) = 0) (bnd (clR PG0 MX d 30 [vR q1.1, vI x3] q1.2) (fun q2 => 
            cnd (wr q2.1 ≠ 0)
                (cnd (32 ≤ q1.1 ∧ q1.1 < q2.2 (-1) 0 ∧ q2.2 q1.1 (-1) = 0) (cnd (wr ((q2.2 q1.1 6) + 2) ≤ wr 256)
                  (cnd (32 ≤ x0 ∧ x0 < q2.2 (-1) 0 ∧ q2.2 x0 (-1) = 8) (bnd (clR PG0 MX d 151 [vR q1.1, vI x2, vI x3, vR (q2.2 x0 1)] q2.2) (fun q3 => 
                  cnd (0 < x0 ∧ x0 < q3.2 (-1) 0 ∧ q3.2 x0 (-1) = 8) (bnd (clR PG0 MX d 32 [vR x0, vI x1] q3.2) (fun q4 => 
                    some (q4.1, q4.2))) none)) none)
                  (some ((-5), q2.2))) none)
                (some ((-2), q2.2)))) none)) none)))) none :=
  blkE (cs := pgA_150) rfl [] 33 _ _ _ _
/-- OneAtATime$Maker.detoured(LOneAtATime$BitList;IILOneAtATime$BitList;)V -/
theorem ce_151 (d : Nat) (σ : HP) (x0 x1 x2 x3 : Int) : clR PG0 MX (d + 1) 151 [vR x0, vI x1, vI x2, vR x3] σ = rsP PG0 MX d 151 0 [vR x0, vI x1, vI x2, vR x3] [] σ := rfl
set_option maxRecDepth 100000 in
theorem sg_151_0 (d : Nat) (σ : HP) (x0 x1 x2 x3 : Int) : rsP PG0 MX d 151 0 [vR x0, vI x1, vI x2, vR x3] [] σ =
    cnd (32 ≤ x0 ∧ x0 < σ (-1) 0 ∧ σ x0 (-1) = 0) (cnd (0 < (σ x0 1) ∧ (σ x0 1) < σ (-1) 0 ∧ σ (σ x0 1) (-1) = 20 ∧ 0 ≤ wr 0 ∧ wr 0 < σ (σ x0 1) (-2)) (cnd (0 < x3 ∧ x3 < σ (-1) 0 ∧ σ x3 (-1) = 0) (bnd (clR PG0 MX d 104 [vR x3, vR x0, vI (σ (σ x0 1) (wr 0))] σ) (fun q1 => 
    cnd (0 < x3 ∧ x3 < q1.2 (-1) 0 ∧ q1.2 x3 (-1) = 0) (bnd (clR PG0 MX d 107 [vR x3, vR x0, vI 0, vI x1, vI 0] q1.2) (fun q2 => 
      cnd (0 < x3 ∧ x3 < q2.2 (-1) 0 ∧ q2.2 x3 (-1) = 0) (bnd (clR PG0 MX d 31 [vR x3, vI x2] q2.2) (fun q3 => 
        cnd (0 < x3 ∧ x3 < q3.2 (-1) 0 ∧ q3.2 x3 (-1) = 0) (bnd (clR PG0 MX d 107 [vR x3, vR x0, vI x1, vI (x1 + 1), vI 0] q3.2) (fun q4 => 
          rsP PG0 MX d 151 34 [vR x0, vI x1, vI x2, vR x3] [] q4.2)) none)) none)) none)) none) none) none :=
  blkE (cs := pgA_151) rfl [34] 26 _ _ _ _
set_option maxRecDepth 100000 in
theorem sg_151_34 (d : Nat) (σ : HP) (x0 x1 x2 x3 : Int) : rsP PG0 MX d 151 34 [vR x0, vI x1, vI x2, vR x3] [] σ =
    cnd (0 < x3 ∧ x3 < σ (-1) 0 ∧ σ x3 (-1) = 0) (bnd (clR PG0 MX d 31 [vR x3, vI x2] σ) (fun q1 => 
    cnd (32 ≤ x0 ∧ x0 < q1.2 (-1) 0 ∧ q1.2 x0 (-1) = 0) (cnd (0 < x3 ∧ x3 < q1.2 (-1) 0 ∧ q1.2 x3 (-1) = 0) (bnd (clR PG0 MX d 107 [vR x3, vR x0, vI (x1 + 1), vI (q1.2 x0 6), vI 0] q1.2) (fun q2 => 
      some (0, q2.2))) none) none)) none :=
  blkE (cs := pgA_151) rfl [34] 14 _ _ _ _
/-- OneAtATime.mirror(I)I -/
theorem ce_152 (d : Nat) (σ : HP) (x0 x1 : Int) : clR PG0 MX (d + 1) 152 [vR x0, vI x1] σ = rsP PG0 MX d 152 0 [vR x0, vI x1, vU] [] σ := rfl
set_option maxRecDepth 100000 in
theorem sg_152_0 (d : Nat) (σ : HP) (x0 x1 : Int) : rsP PG0 MX d 152 0 [vR x0, vI x1, vU] [] σ =
    cnd (0 < x0 ∧ x0 < σ (-1) 0 ∧ σ x0 (-1) = 8) (bnd (clR PG0 MX d 41 [vR x0, vI x1] σ) (fun q1 => 
    cnd (0 < q1.1)
        (cnd (32 ≤ x0 ∧ x0 < q1.2 (-1) 0 ∧ q1.2 x0 (-1) = 8) (bnd (clR PG0 MX d 153 [vR q1.1, vR (q1.2 x0 1)] q1.2) (fun q2 => 
        cnd (0 < x0 ∧ x0 < q2.2 (-1) 0 ∧ q2.2 x0 (-1) = 8) (bnd (clR PG0 MX d 32 [vR x0, vI x1] q2.2) (fun q3 => 
          cnd (32 ≤ q1.1 ∧ q1.1 < q3.2 (-1) 0 ∧ q3.2 q1.1 (-1) = 0) (cnd (0 < (q3.2 q1.1 1) ∧ (q3.2 q1.1 1) < q3.2 (-1) 0 ∧ q3.2 (q3.2 q1.1 1) (-1) = 20 ∧ 0 ≤ wr 0 ∧ wr 0 < q3.2 (q3.2 q1.1 1) (-2)) (some (q3.2 (q3.2 q1.1 1) (wr 0), q3.2)) none) none)) none)) none)
        (some ((-2), q1.2)))) none :=
  blkE (cs := pgA_152) rfl [] 20 _ _ _ _
/-- OneAtATime$Maker.mirrored(LOneAtATime$BitList;LOneAtATime$BitList;)V -/
theorem ce_153 (d : Nat) (σ : HP) (x0 x1 : Int) : clR PG0 MX (d + 1) 153 [vR x0, vR x1] σ = rsP PG0 MX d 153 0 [vR x0, vR x1, vU, vU] [] σ := rfl
set_option maxRecDepth 100000 in
theorem sg_153_0 (d : Nat) (σ : HP) (x0 x1 : Int) : rsP PG0 MX d 153 0 [vR x0, vR x1, vU, vU] [] σ =
    rsP PG0 MX d 153 4 [vR x0, vR x1, vI 0, vI 0] [] σ :=
  blkE (cs := pgA_153) rfl [4, 44] 6 _ _ _ _
set_option maxRecDepth 100000 in
theorem sg_153_4 (d : Nat) (σ : HP) (x0 x1 x2 x3 : Int) : rsP PG0 MX d 153 4 [vR x0, vR x1, vI x2, vI x3] [] σ =
    cnd (32 ≤ x0 ∧ x0 < σ (-1) 0 ∧ σ x0 (-1) = 0) (cnd (wr (σ x0 3) ≤ wr x3)
      (cnd (0 < x1 ∧ x1 < σ (-1) 0 ∧ σ x1 (-1) = 0) (bnd (clR PG0 MX d 104 [vR x1, vR x0, vI x2] σ) (fun q1 => 
      rsP PG0 MX d 153 44 [vR x0, vR x1, vI x2, vI 0] [] q1.2)) none)
      (cnd (0 < x0 ∧ x0 < σ (-1) 0 ∧ σ x0 (-1) = 0) (bnd (clR PG0 MX d 64 [vR x0, vI 0, vI x3] σ) (fun q2 => 
      cnd (32 ≤ x0 ∧ x0 < q2.2 (-1) 0 ∧ q2.2 x0 (-1) = 0) (rsP PG0 MX d 153 4 [vR x0, vR x1, vI (i_or x2 (i_shl q2.1 (((q2.2 x0 3) - 1) - x3))), vI (x3 + 1)] [] q2.2) none)) none)) none :=
  blkE (cs := pgA_153) rfl [4, 44] 22 _ _ _ _
set_option maxRecDepth 100000 in
theorem sg_153_44 (d : Nat) (σ : HP) (x0 x1 x3 : Int) (u2 : MV) : rsP PG0 MX d 153 44 [vR x0, vR x1, u2, vI x3] [] σ =
    cnd (32 ≤ x0 ∧ x0 < σ (-1) 0 ∧ σ x0 (-1) = 0) (cnd (wr (σ x0 6) ≤ wr x3)
      (some (0, σ))
      (cnd (32 ≤ x0 ∧ x0 < σ (-1) 0 ∧ σ x0 (-1) = 0) (cnd (32 ≤ x0 ∧ x0 < σ (-1) 0 ∧ σ x0 (-1) = 0) (cnd (0 < (σ x0 0) ∧ (σ x0 0) < σ (-1) 0 ∧ σ (σ x0 0) (-1) = 20 ∧ 0 ≤ wr x3 ∧ wr x3 < σ (σ x0 0) (-2)) (cnd (0 < x1 ∧ x1 < σ (-1) 0 ∧ σ x1 (-1) = 0) (bnd (clR PG0 MX d 31 [vR x1, vI (((σ x0 3) - 1) - (σ (σ x0 0) (wr x3)))] σ) (fun q1 => 
      rsP PG0 MX d 153 44 [vR x0, vR x1, vU, vI (x3 + 1)] [] q1.2)) none) none) none) none)) none :=
  blkE (cs := pgA_153) rfl [4, 44] 19 _ _ _ _
/-- OneAtATime.starts(II)I -/
theorem ce_154 (d : Nat) (σ : HP) (x0 x1 x2 : Int) : clR PG0 MX (d + 1) 154 [vR x0, vI x1, vI x2] σ = rsP PG0 MX d 154 0 [vR x0, vI x1, vI x2, vU, vU] [] σ := rfl
set_option maxRecDepth 100000 in
theorem sg_154_0 (d : Nat) (σ : HP) (x0 x1 x2 : Int) : rsP PG0 MX d 154 0 [vR x0, vI x1, vI x2, vU, vU] [] σ =
    cnd (0 < x0 ∧ x0 < σ (-1) 0 ∧ σ x0 (-1) = 8) (bnd (clR PG0 MX d 41 [vR x0, vI x1] σ) (fun q1 => 
    cnd (q1.1 ≤ 0)
        (some ((-2), q1.2))
        (cnd (0 < q1.1 ∧ q1.1 < q1.2 (-1) 0 ∧ q1.2 q1.1 (-1) = 0) (bnd (clR PG0 MX d 68 [vR q1.1, vI x2] q1.2) (fun q2 => 
        cnd (wr q2.1 ≠ 0)
            (cnd (32 ≤ q1.1 ∧ q1.1 < q2.2 (-1) 0 ∧ q2.2 q1.1 (-1) = 0) (cnd (0 < (q2.2 q1.1 1) ∧ (q2.2 q1.1 1) < q2.2 (-1) 0 ∧ q2.2 (q2.2 q1.1 1) (-1) = 20 ∧ 0 ≤ wr 0 ∧ wr 0 < q2.2 (q2.2 q1.1 1) (-2)) (cnd (32 ≤ x0 ∧ x0 < q2.2 (-1) 0 ∧ q2.2 x0 (-1) = 8) (cnd (0 < (q2.2 x0 1) ∧ (q2.2 x0 1) < q2.2 (-1) 0 ∧ q2.2 (q2.2 x0 1) (-1) = 0) (bnd (clR PG0 MX d 104 [vR (q2.2 x0 1), vR q1.1, vI x2] q2.2) (fun q3 => 
            cnd (32 ≤ x0 ∧ x0 < q3.2 (-1) 0 ∧ q3.2 x0 (-1) = 8) (cnd (32 ≤ q1.1 ∧ q1.1 < q3.2 (-1) 0 ∧ q3.2 q1.1 (-1) = 0) (cnd (0 < (q3.2 x0 1) ∧ (q3.2 x0 1) < q3.2 (-1) 0 ∧ q3.2 (q3.2 x0 1) (-1) = 0) (bnd (clR PG0 MX d 107 [vR (q3.2 x0 1), vR q1.1, vI 0, vI (q3.2 q1.1 6), vI 0] q3.2) (fun q4 => 
              rsP PG0 MX d 154 52 [vR x0, vI x1, vI x2, vR q1.1, vI (q2.2 (q2.2 q1.1 1) (wr 0))] [] q4.2)) none) none) none)) none) none) none) none)
            (some ((-2), q2.2)))) none))) none :=
  blkE (cs := pgA_154) rfl [52] 30 _ _ _ _
set_option maxRecDepth 100000 in
theorem sg_154_52 (d : Nat) (σ : HP) (x0 x1 x2 x3 x4 : Int) : rsP PG0 MX d 154 52 [vR x0, vI x1, vI x2, vR x3, vI x4] [] σ =
    cnd (0 < x0 ∧ x0 < σ (-1) 0 ∧ σ x0 (-1) = 8) (bnd (clR PG0 MX d 32 [vR x0, vI x1] σ) (fun q1 => 
    some (x4, q1.2))) none :=
  blkE (cs := pgA_154) rfl [52] 7 _ _ _ _
/-- OneAtATime.swaps(III)I -/
theorem ce_155 (d : Nat) (σ : HP) (x0 x1 x2 x3 : Int) : clR PG0 MX (d + 1) 155 [vR x0, vI x1, vI x2, vI x3] σ = rsP PG0 MX d 155 0 [vR x0, vI x1, vI x2, vI x3, vU, vU] [] σ := rfl
set_option maxRecDepth 100000 in
theorem sg_155_0 (d : Nat) (σ : HP) (x0 x1 x2 x3 : Int) : rsP PG0 MX d 155 0 [vR x0, vI x1, vI x2, vI x3, vU, vU] [] σ =
    cnd (0 < x0 ∧ x0 < σ (-1) 0 ∧ σ x0 (-1) = 8) (bnd (clR PG0 MX d 41 [vR x0, vI x1] σ) (fun q1 => 
    cnd (q1.1 ≤ 0)
        (some ((-2), q1.2))
        (cnd (0 < q1.1 ∧ q1.1 < q1.2 (-1) 0 ∧ q1.2 q1.1 (-1) = 0) (bnd (clR PG0 MX d 30 [vR q1.1, vI x2] q1.2) (fun q2 => 
        cnd (wr q2.1 = 0)
            (some ((-2), q2.2))
            (cnd (0 < q1.1 ∧ q1.1 < q2.2 (-1) 0 ∧ q2.2 q1.1 (-1) = 0) (bnd (clR PG0 MX d 30 [vR q1.1, vI x3] q2.2) (fun q3 => 
            cnd (wr q3.1 ≠ 0)
                (cnd (wr x2 ≠ wr x3)
                  (cnd (0 < q1.1 ∧ q1.1 < q3.2 (-1) 0 ∧ q3.2 q1.1 (-1) = 0) (bnd (clR PG0 MX d 72 [vR q1.1, vI x2] q3.2) (fun q4 => 
                  cnd (0 < q1.1 ∧ q1.1 < q4.2 (-1) 0 ∧ q4.2 q1.1 (-1) = 0) (bnd (clR PG0 MX d 72 [vR q1.1, vI x3] q4.2) (fun q5 => 
                    rsP PG0 MX d 155 55 [vR x0, vI x1, vI x2, vI x3, vR q1.1, vU] [vI (q4.1 + q5.1)] q5.2)) none)) none)
                  (rsP PG0 MX d 155 55 [vR x0, vI x1, vI x2, vI x3, vR q1.1, vU] [vI 0] q3.2))
                (some ((-2), q3.2)))) none))) none))) none :=
  blkE (cs := pgA_155) rfl [55] 26 _ _ _ _
set_option maxRecDepth 100000 in
theorem sg_155_55 (d : Nat) (σ : HP) (x0 x1 x2 x3 x4 y0 : Int) (u5 : MV) : rsP PG0 MX d 155 55 [vR x0, vI x1, vI x2, vI x3, vR x4, u5] [vI y0] σ =
    cnd (32 ≤ x0 ∧ x0 < σ (-1) 0 ∧ σ x0 (-1) = 8) (bnd (clR PG0 MX d 156 [vR x4, vI x2, vI x3, vR (σ x0 1)] σ) (fun q1 => 
    cnd (0 < x0 ∧ x0 < q1.2 (-1) 0 ∧ q1.2 x0 (-1) = 8) (bnd (clR PG0 MX d 32 [vR x0, vI x1] q1.2) (fun q2 => 
      some (y0, q2.2))) none)) none :=
  blkE (cs := pgA_155) rfl [55] 14 _ _ _ _
/-- OneAtATime$Maker.swapped(LOneAtATime$BitList;IILOneAtATime$BitList;)V -/
theorem ce_156 (d : Nat) (σ : HP) (x0 x1 x2 x3 : Int) : clR PG0 MX (d + 1) 156 [vR x0, vI x1, vI x2, vR x3] σ = rsP PG0 MX d 156 0 [vR x0, vI x1, vI x2, vR x3, vU, vU, vU] [] σ := rfl
set_option maxRecDepth 100000 in
theorem sg_156_0 (d : Nat) (σ : HP) (x0 x1 x2 x3 : Int) : rsP PG0 MX d 156 0 [vR x0, vI x1, vI x2, vR x3, vU, vU, vU] [] σ =
    cnd (32 ≤ x0 ∧ x0 < σ (-1) 0 ∧ σ x0 (-1) = 0) (cnd (0 < (σ x0 1) ∧ (σ x0 1) < σ (-1) 0 ∧ σ (σ x0 1) (-1) = 20 ∧ 0 ≤ wr 0 ∧ wr 0 < σ (σ x0 1) (-2)) (cnd (0 < x0 ∧ x0 < σ (-1) 0 ∧ σ x0 (-1) = 0) (bnd (clR PG0 MX d 64 [vR x0, vI 0, vI x1] σ) (fun q1 => 
    cnd (0 < x0 ∧ x0 < q1.2 (-1) 0 ∧ q1.2 x0 (-1) = 0) (bnd (clR PG0 MX d 64 [vR x0, vI 0, vI x2] q1.2) (fun q2 => 
      cnd (wr q1.1 = wr q2.1)
          (rsP PG0 MX d 156 35 [vR x0, vI x1, vI x2, vR x3, vI (σ (σ x0 1) (wr 0)), vU, vU] [] q2.2)
          (rsP PG0 MX d 156 35 [vR x0, vI x1, vI x2, vR x3, vI (i_xor (i_xor (σ (σ x0 1) (wr 0)) (i_shl 1 x1)) (i_shl 1 x2)), vU, vU] [] q2.2))) none)) none) none) none :=
  blkE (cs := pgA_156) rfl [35, 45] 26 _ _ _ _
set_option maxRecDepth 100000 in
theorem sg_156_35 (d : Nat) (σ : HP) (x0 x1 x2 x3 x4 : Int) (u5 u6 : MV) : rsP PG0 MX d 156 35 [vR x0, vI x1, vI x2, vR x3, vI x4, u5, u6] [] σ =
    cnd (0 < x3 ∧ x3 < σ (-1) 0 ∧ σ x3 (-1) = 0) (bnd (clR PG0 MX d 104 [vR x3, vR x0, vI x4] σ) (fun q1 => 
    rsP PG0 MX d 156 45 [vR x0, vI x1, vI x2, vR x3, vI x4, vI 0, vU] [] q1.2)) none :=
  blkE (cs := pgA_156) rfl [35, 45] 8 _ _ _ _
set_option maxRecDepth 100000 in
theorem sg_156_45 (d : Nat) (σ : HP) (x0 x1 x2 x3 x5 : Int) (u4 u6 : MV) : rsP PG0 MX d 156 45 [vR x0, vI x1, vI x2, vR x3, u4, vI x5, u6] [] σ =
    cnd (32 ≤ x0 ∧ x0 < σ (-1) 0 ∧ σ x0 (-1) = 0) (cnd (wr (σ x0 6) ≤ wr x5)
      (some (0, σ))
      (cnd (32 ≤ x0 ∧ x0 < σ (-1) 0 ∧ σ x0 (-1) = 0) (cnd (0 < (σ x0 0) ∧ (σ x0 0) < σ (-1) 0 ∧ σ (σ x0 0) (-1) = 20 ∧ 0 ≤ wr x5 ∧ wr x5 < σ (σ x0 0) (-2)) (cnd (wr (σ (σ x0 0) (wr x5)) ≠ wr x1)
        (cnd (wr (σ (σ x0 0) (wr x5)) ≠ wr x2)
          (cnd (0 < x3 ∧ x3 < σ (-1) 0 ∧ σ x3 (-1) = 0) (bnd (clR PG0 MX d 31 [vR x3, vI (σ (σ x0 0) (wr x5))] σ) (fun q1 => 
          rsP PG0 MX d 156 45 [vR x0, vI x1, vI x2, vR x3, vU, vI (x5 + 1), vI (σ (σ x0 0) (wr x5))] [] q1.2)) none)
          (cnd (0 < x3 ∧ x3 < σ (-1) 0 ∧ σ x3 (-1) = 0) (bnd (clR PG0 MX d 31 [vR x3, vI x1] σ) (fun q2 => 
          rsP PG0 MX d 156 45 [vR x0, vI x1, vI x2, vR x3, vU, vI (x5 + 1), vI (σ (σ x0 0) (wr x5))] [] q2.2)) none))
        (cnd (0 < x3 ∧ x3 < σ (-1) 0 ∧ σ x3 (-1) = 0) (bnd (clR PG0 MX d 31 [vR x3, vI x2] σ) (fun q3 => 
        rsP PG0 MX d 156 45 [vR x0, vI x1, vI x2, vR x3, vU, vI (x5 + 1), vI (σ (σ x0 0) (wr x5))] [] q3.2)) none)) none) none)) none :=
  blkE (cs := pgA_156) rfl [35, 45] 23 _ _ _ _
/-- OneAtATime.reverse(I)I -/
theorem ce_157 (d : Nat) (σ : HP) (x0 x1 : Int) : clR PG0 MX (d + 1) 157 [vR x0, vI x1] σ = rsP PG0 MX d 157 0 [vR x0, vI x1, vU] [] σ := rfl
set_option maxRecDepth 100000 in
theorem sg_157_0 (d : Nat) (σ : HP) (x0 x1 : Int) : rsP PG0 MX d 157 0 [vR x0, vI x1, vU] [] σ =
    cnd (0 < x0 ∧ x0 < σ (-1) 0 ∧ σ x0 (-1) = 8) (bnd (clR PG0 MX d 41 [vR x0, vI x1] σ) (fun q1 => 
    cnd (0 < q1.1)
        (cnd (32 ≤ x0 ∧ x0 < q1.2 (-1) 0 ∧ q1.2 x0 (-1) = 8) (cnd (0 < q1.1 ∧ q1.1 < q1.2 (-1) 0 ∧ q1.2 q1.1 (-1) = 0) (bnd (clR PG0 MX d 112 [vR q1.1] q1.2) (fun q2 => 
        cnd (0 < (q1.2 x0 1) ∧ (q1.2 x0 1) < q2.2 (-1) 0 ∧ q2.2 (q1.2 x0 1) (-1) = 0) (bnd (clR PG0 MX d 104 [vR (q1.2 x0 1), vR q1.1, vI q2.1] q2.2) (fun q3 => 
          cnd (32 ≤ x0 ∧ x0 < q3.2 (-1) 0 ∧ q3.2 x0 (-1) = 8) (cnd (32 ≤ q1.1 ∧ q1.1 < q3.2 (-1) 0 ∧ q3.2 q1.1 (-1) = 0) (cnd (0 < (q3.2 x0 1) ∧ (q3.2 x0 1) < q3.2 (-1) 0 ∧ q3.2 (q3.2 x0 1) (-1) = 0) (bnd (clR PG0 MX d 123 [vR (q3.2 x0 1), vR q1.1, vI 0, vI (q3.2 q1.1 6)] q3.2) (fun q4 => 
            rsP PG0 MX d 157 38 [vR x0, vI x1, vR q1.1] [] q4.2)) none) none) none)) none)) none) none)
        (some ((-2), q1.2)))) none :=
  blkE (cs := pgA_157) rfl [38] 21 _ _ _ _
set_option maxRecDepth 100000 in
theorem sg_157_38 (d : Nat) (σ : HP) (x0 x1 x2 : Int) : rsP PG0 MX d 157 38 [vR x0, vI x1, vR x2] [] σ =
    cnd (0 < x0 ∧ x0 < σ (-1) 0 ∧ σ x0 (-1) = 8) (bnd (clR PG0 MX d 32 [vR x0, vI x1] σ) (fun q1 => 
    cnd (32 ≤ x2 ∧ x2 < q1.2 (-1) 0 ∧ q1.2 x2 (-1) = 0) (cnd (0 < (q1.2 x2 1) ∧ (q1.2 x2 1) < q1.2 (-1) 0 ∧ q1.2 (q1.2 x2 1) (-1) = 20 ∧ 0 ≤ wr 0 ∧ wr 0 < q1.2 (q1.2 x2 1) (-2)) (some (q1.2 (q1.2 x2 1) (wr 0), q1.2)) none) none)) none :=
  blkE (cs := pgA_157) rfl [38] 10 _ _ _ _
/-- OneAtATime.rolls(II)I -/
theorem ce_158 (d : Nat) (σ : HP) (x0 x1 x2 : Int) : clR PG0 MX (d + 1) 158 [vR x0, vI x1, vI x2] σ = rsP PG0 MX d 158 0 [vR x0, vI x1, vI x2, vU] [] σ := rfl
set_option maxRecDepth 100000 in
theorem sg_158_0 (d : Nat) (σ : HP) (x0 x1 x2 : Int) : rsP PG0 MX d 158 0 [vR x0, vI x1, vI x2, vU] [] σ =
    cnd (0 < x0 ∧ x0 < σ (-1) 0 ∧ σ x0 (-1) = 8) (bnd (clR PG0 MX d 41 [vR x0, vI x1] σ) (fun q1 => 
    cnd (q1.1 ≤ 0)
        (some ((-2), q1.2))
        (cnd (wr x2 < 0)
          (some ((-2), q1.2))
          (cnd (32 ≤ q1.1 ∧ q1.1 < q1.2 (-1) 0 ∧ q1.2 q1.1 (-1) = 0) (cnd (wr x2 < wr (q1.2 q1.1 6))
            (cnd (0 < q1.1 ∧ q1.1 < q1.2 (-1) 0 ∧ q1.2 q1.1 (-1) = 0) (bnd (clR PG0 MX d 43 [vR q1.1] q1.2) (fun q2 => 
            cnd (wr q2.1 ≠ 0)
                (cnd (32 ≤ x0 ∧ x0 < q2.2 (-1) 0 ∧ q2.2 x0 (-1) = 8) (cnd (32 ≤ q1.1 ∧ q1.1 < q2.2 (-1) 0 ∧ q2.2 q1.1 (-1) = 0) (cnd (0 < (q2.2 q1.1 1) ∧ (q2.2 q1.1 1) < q2.2 (-1) 0 ∧ q2.2 (q2.2 q1.1 1) (-1) = 20 ∧ 0 ≤ wr x2 ∧ wr x2 < q2.2 (q2.2 q1.1 1) (-2)) (cnd (0 < (q2.2 x0 1) ∧ (q2.2 x0 1) < q2.2 (-1) 0 ∧ q2.2 (q2.2 x0 1) (-1) = 0) (bnd (clR PG0 MX d 104 [vR (q2.2 x0 1), vR q1.1, vI (q2.2 (q2.2 q1.1 1) (wr x2))] q2.2) (fun q3 => 
                cnd (32 ≤ x0 ∧ x0 < q3.2 (-1) 0 ∧ q3.2 x0 (-1) = 8) (cnd (32 ≤ q1.1 ∧ q1.1 < q3.2 (-1) 0 ∧ q3.2 q1.1 (-1) = 0) (cnd (0 < (q3.2 x0 1) ∧ (q3.2 x0 1) < q3.2 (-1) 0 ∧ q3.2 (q3.2 x0 1) (-1) = 0) (bnd (clR PG0 MX d 107 [vR (q3.2 x0 1), vR q1.1, vI x2, vI (q3.2 q1.1 6), vI 0] q3.2) (fun q4 => 
                  rsP PG0 MX d 158 63 [vR x0, vI x1, vI x2, vR q1.1] [] q4.2)) none) none) none)) none) none) none) none)
                (some ((-6), q2.2)))) none)
            (some ((-2), q1.2))) none)))) none :=
  blkE (cs := pgA_158) rfl [63] 33 _ _ _ _
set_option maxRecDepth 100000 in
theorem sg_158_63 (d : Nat) (σ : HP) (x0 x1 x2 x3 : Int) : rsP PG0 MX d 158 63 [vR x0, vI x1, vI x2, vR x3] [] σ =
    cnd (32 ≤ x0 ∧ x0 < σ (-1) 0 ∧ σ x0 (-1) = 8) (cnd (0 < (σ x0 1) ∧ (σ x0 1) < σ (-1) 0 ∧ σ (σ x0 1) (-1) = 0) (bnd (clR PG0 MX d 107 [vR (σ x0 1), vR x3, vI 0, vI x2, vI 0] σ) (fun q1 => 
    cnd (0 < x0 ∧ x0 < q1.2 (-1) 0 ∧ q1.2 x0 (-1) = 8) (bnd (clR PG0 MX d 32 [vR x0, vI x1] q1.2) (fun q2 => 
      cnd (32 ≤ x3 ∧ x3 < q2.2 (-1) 0 ∧ q2.2 x3 (-1) = 0) (cnd (0 < (q2.2 x3 1) ∧ (q2.2 x3 1) < q2.2 (-1) 0 ∧ q2.2 (q2.2 x3 1) (-1) = 20 ∧ 0 ≤ wr 0 ∧ wr 0 < q2.2 (q2.2 x3 1) (-2)) (some (q2.2 (q2.2 x3 1) (wr 0), q2.2)) none) none)) none)) none) none :=
  blkE (cs := pgA_158) rfl [63] 17 _ _ _ _
/-- OneAtATime.adds(II)I -/
theorem ce_159 (d : Nat) (σ : HP) (x0 x1 x2 : Int) : clR PG0 MX (d + 1) 159 [vR x0, vI x1, vI x2] σ = rsP PG0 MX d 159 0 [vR x0, vI x1, vI x2, vU] [] σ := rfl
set_option maxRecDepth 100000 in
theorem sg_159_0 (d : Nat) (σ : HP) (x0 x1 x2 : Int) : rsP PG0 MX d 159 0 [vR x0, vI x1, vI x2, vU] [] σ =
    cnd (0 < x0 ∧ x0 < σ (-1) 0 ∧ σ x0 (-1) = 8) (bnd (clR PG0 MX d 41 [vR x0, vI x1] σ) (fun q1 => 
    cnd (q1.1 ≤ 0)
        (some ((-2), q1.2))
        (cnd (0 < q1.1 ∧ q1.1 < q1.2 (-1) 0 ∧ q1.2 q1.1 (-1) = 0) (bnd (clR PG0 MX d 30 [vR q1.1, vI x2] q1.2) (fun q2 => 
        cnd (wr q2.1 ≠ 0)
            (cnd (32 ≤ q1.1 ∧ q1.1 < q2.2 (-1) 0 ∧ q2.2 q1.1 (-1) = 0) (cnd (wr (q2.2 q1.1 6) < wr 256)
              (cnd (32 ≤ x0 ∧ x0 < q2.2 (-1) 0 ∧ q2.2 x0 (-1) = 8) (cnd (0 < (q2.2 x0 1) ∧ (q2.2 x0 1) < q2.2 (-1) 0 ∧ q2.2 (q2.2 x0 1) (-1) = 0) (bnd (clR PG0 MX d 35 [vR (q2.2 x0 1), vR q1.1] q2.2) (fun q3 => 
              cnd (32 ≤ x0 ∧ x0 < q3.2 (-1) 0 ∧ q3.2 x0 (-1) = 8) (cnd (0 < (q3.2 x0 1) ∧ (q3.2 x0 1) < q3.2 (-1) 0 ∧ q3.2 (q3.2 x0 1) (-1) = 0) (bnd (clR PG0 MX d 31 [vR (q3.2 x0 1), vI x2] q3.2) (fun q4 => 
                rsP PG0 MX d 159 50 [vR x0, vI x1, vI x2, vR q1.1] [] q4.2)) none) none)) none) none)
              (some ((-5), q2.2))) none)
            (some ((-2), q2.2)))) none))) none :=
  blkE (cs := pgA_159) rfl [50] 24 _ _ _ _
set_option maxRecDepth 100000 in
theorem sg_159_50 (d : Nat) (σ : HP) (x0 x1 x2 x3 : Int) : rsP PG0 MX d 159 50 [vR x0, vI x1, vI x2, vR x3] [] σ =
    cnd (0 < x0 ∧ x0 < σ (-1) 0 ∧ σ x0 (-1) = 8) (bnd (clR PG0 MX d 32 [vR x0, vI x1] σ) (fun q1 => 
    cnd (0 < x3 ∧ x3 < q1.2 (-1) 0 ∧ q1.2 x3 (-1) = 0) (bnd (clR PG0 MX d 112 [vR x3] q1.2) (fun q2 => 
      some (q2.1, q2.2))) none)) none :=
  blkE (cs := pgA_159) rfl [50] 8 _ _ _ _
/-- OneAtATime.cuts(II)I -/
theorem ce_160 (d : Nat) (σ : HP) (x0 x1 x2 : Int) : clR PG0 MX (d + 1) 160 [vR x0, vI x1, vI x2] σ = rsP PG0 MX d 160 0 [vR x0, vI x1, vI x2, vU] [] σ := rfl
set_option maxRecDepth 100000 in
theorem sg_160_0 (d : Nat) (σ : HP) (x0 x1 x2 : Int) : rsP PG0 MX d 160 0 [vR x0, vI x1, vI x2, vU] [] σ =
    cnd (0 < x0 ∧ x0 < σ (-1) 0 ∧ σ x0 (-1) = 8) (bnd (clR PG0 MX d 41 [vR x0, vI x1] σ) (fun q1 => 
    cnd (q1.1 ≤ 0)
        (some ((-2), q1.2))
        (cnd (wr x2 < wr 1)
          (some ((-2), q1.2))
          (cnd (32 ≤ q1.1 ∧ q1.1 < q1.2 (-1) 0 ∧ q1.2 q1.1 (-1) = 0) (cnd (wr x2 ≤ wr (q1.2 q1.1 6))
            (cnd (32 ≤ x0 ∧ x0 < q1.2 (-1) 0 ∧ q1.2 x0 (-1) = 8) (cnd (0 < (q1.2 x0 1) ∧ (q1.2 x0 1) < q1.2 (-1) 0 ∧ q1.2 (q1.2 x0 1) (-1) = 0) (bnd (clR PG0 MX d 35 [vR (q1.2 x0 1), vR q1.1] q1.2) (fun q2 => 
            cnd (32 ≤ x0 ∧ x0 < q2.2 (-1) 0 ∧ q2.2 x0 (-1) = 8) (cnd (32 ≤ q1.1 ∧ q1.1 < q2.2 (-1) 0 ∧ q2.2 q1.1 (-1) = 0) (cnd (32 ≤ (q2.2 x0 1) ∧ (q2.2 x0 1) < q2.2 (-1) 0 ∧ q2.2 (q2.2 x0 1) (-1) = 0) (cnd (0 < x0 ∧ x0 < (up q2.2 (q2.2 x0 1) 6 ((q2.2 q1.1 6) - x2)) (-1) 0 ∧ (up q2.2 (q2.2 x0 1) 6 ((q2.2 q1.1 6) - x2)) x0 (-1) = 8) (bnd (clR PG0 MX d 32 [vR x0, vI x1] (up q2.2 (q2.2 x0 1) 6 ((q2.2 q1.1 6) - x2))) (fun q3 => 
              some (q3.1, q3.2))) none) none) none) none)) none) none)
            (some ((-2), q1.2))) none)))) none :=
  blkE (cs := pgA_160) rfl [] 29 _ _ _ _
/-- OneAtATime.alike(II)I -/
theorem ce_161 (d : Nat) (σ : HP) (x0 x1 x2 : Int) : clR PG0 MX (d + 1) 161 [vR x0, vI x1, vI x2] σ = rsP PG0 MX d 161 0 [vR x0, vI x1, vI x2, vU, vU] [] σ := rfl
set_option maxRecDepth 100000 in
theorem sg_161_0 (d : Nat) (σ : HP) (x0 x1 x2 : Int) : rsP PG0 MX d 161 0 [vR x0, vI x1, vI x2, vU, vU] [] σ =
    cnd (0 < x0 ∧ x0 < σ (-1) 0 ∧ σ x0 (-1) = 8) (bnd (clR PG0 MX d 41 [vR x0, vI x1] σ) (fun q1 => 
    cnd (0 < x0 ∧ x0 < q1.2 (-1) 0 ∧ q1.2 x0 (-1) = 8) (bnd (clR PG0 MX d 41 [vR x0, vI x2] q1.2) (fun q2 => 
      cnd (q1.1 ≤ 0)
          (some ((-2), q2.2))
          (cnd (0 < q2.1)
            (cnd (32 ≤ x0 ∧ x0 < q2.2 (-1) 0 ∧ q2.2 x0 (-1) = 8) (cnd (0 < (q2.2 x0 7) ∧ (q2.2 x0 7) < q2.2 (-1) 0 ∧ q2.2 (q2.2 x0 7) (-1) = 4) (bnd (clR PG0 MX d 162 [vR (q2.2 x0 7), vR q1.1, vR q2.1] q2.2) (fun q3 => 
            bnd (clR PG0 MX d 52 [vI q3.1] q3.2) (fun q4 => 
              some (q4.1, q4.2)))) none) none)
            (some ((-2), q2.2))))) none)) none :=
  blkE (cs := pgA_161) rfl [] 20 _ _ _ _
/-- OneAtATime$Likeness.holds(LOneAtATime$BitList;LOneAtATime$BitList;)Z -/
theorem ce_162 (d : Nat) (σ : HP) (x0 x1 x2 : Int) : clR PG0 MX (d + 1) 162 [vR x0, vR x1, vR x2] σ = rsP PG0 MX d 162 0 [vR x0, vR x1, vR x2, vU] [] σ := rfl
set_option maxRecDepth 100000 in
theorem sg_162_0 (d : Nat) (σ : HP) (x0 x1 x2 : Int) : rsP PG0 MX d 162 0 [vR x0, vR x1, vR x2, vU] [] σ =
    cnd (32 ≤ x1 ∧ x1 < σ (-1) 0 ∧ σ x1 (-1) = 0) (cnd (32 ≤ x2 ∧ x2 < σ (-1) 0 ∧ σ x2 (-1) = 0) (cnd (wr (σ x1 6) ≠ wr (σ x2 6))
      (some (0, σ))
      (cnd (0 < x1 ∧ x1 < σ (-1) 0 ∧ σ x1 (-1) = 0) (bnd (clR PG0 MX d 43 [vR x1] σ) (fun q1 => 
      cnd (0 < x2 ∧ x2 < q1.2 (-1) 0 ∧ q1.2 x2 (-1) = 0) (bnd (clR PG0 MX d 43 [vR x2] q1.2) (fun q2 => 
        cnd (wr q1.1 = wr q2.1)
            (cnd (0 < x1 ∧ x1 < q2.2 (-1) 0 ∧ q2.2 x1 (-1) = 0) (bnd (clR PG0 MX d 43 [vR x1] q2.2) (fun q3 => 
            cnd (wr q3.1 ≠ 0)
                (rsP PG0 MX d 162 42 [vR x0, vR x1, vR x2, vI 0] [] q3.2)
                (cnd (0 < x0 ∧ x0 < q3.2 (-1) 0 ∧ q3.2 x0 (-1) = 4) (bnd (clR PG0 MX d 163 [vR x0, vR x1, vR x2, vI 0, vI 1] q3.2) (fun q4 => 
                cnd (q4.1 = 0 ∨ q4.1 = 1) (some (q4.1, q4.2)) none)) none))) none)
            (some (0, q2.2)))) none)) none)) none) none :=
  blkE (cs := pgA_162) rfl [42] 21 _ _ _ _
set_option maxRecDepth 100000 in
theorem sg_162_42 (d : Nat) (σ : HP) (x0 x1 x2 x3 : Int) : rsP PG0 MX d 162 42 [vR x0, vR x1, vR x2, vI x3] [] σ =
    cnd (32 ≤ x2 ∧ x2 < σ (-1) 0 ∧ σ x2 (-1) = 0) (cnd (wr (σ x2 6) ≤ wr x3)
      (some (0, σ))
      (cnd (0 < x0 ∧ x0 < σ (-1) 0 ∧ σ x0 (-1) = 4) (bnd (clR PG0 MX d 163 [vR x0, vR x1, vR x2, vI x3, vI 1] σ) (fun q1 => 
      cnd (wr q1.1 ≠ 0)
          (some (1, q1.2))
          (cnd (0 < x0 ∧ x0 < q1.2 (-1) 0 ∧ q1.2 x0 (-1) = 4) (bnd (clR PG0 MX d 163 [vR x0, vR x1, vR x2, vI x3, vI 0] q1.2) (fun q2 => 
          cnd (wr q2.1 = 0)
              (rsP PG0 MX d 162 42 [vR x0, vR x1, vR x2, vI (x3 + 1)] [] q2.2)
              (some (1, q2.2)))) none))) none)) none :=
  blkE (cs := pgA_162) rfl [42] 22 _ _ _ _
/-- OneAtATime$Likeness.agrees(LOneAtATime$BitList;LOneAtATime$BitList;IZ)Z -/
theorem ce_163 (d : Nat) (σ : HP) (x0 x1 x2 x3 x4 : Int) : clR PG0 MX (d + 1) 163 [vR x0, vR x1, vR x2, vI x3, vI x4] σ = rsP PG0 MX d 163 0 [vR x0, vR x1, vR x2, vI x3, vI x4, vU, vU, vU, vU] [] σ := rfl
set_option maxRecDepth 100000 in
theorem sg_163_0 (d : Nat) (σ : HP) (x0 x1 x2 x3 x4 : Int) : rsP PG0 MX d 163 0 [vR x0, vR x1, vR x2, vI x3, vI x4, vU, vU, vU, vU] [] σ =
    cnd (32 ≤ x0 ∧ x0 < σ (-1) 0 ∧ σ x0 (-1) = 4) (bnd (clR PG0 MX d 46 [vR (σ x0 0), vI ((-1))] σ) (fun q1 => 
    cnd (32 ≤ x0 ∧ x0 < q1.2 (-1) 0 ∧ q1.2 x0 (-1) = 4) (bnd (clR PG0 MX d 46 [vR (q1.2 x0 1), vI ((-1))] q1.2) (fun q2 => 
      rsP PG0 MX d 163 22 [vR x0, vR x1, vR x2, vI x3, vI x4, vI x3, vI 0, vU, vU] [] q2.2)) none)) none :=
  blkE (cs := pgA_163) rfl [22, 92, 106, 122] 14 _ _ _ _
set_option maxRecDepth 100000 in
theorem sg_163_22 (d : Nat) (σ : HP) (x0 x1 x2 x4 x5 x6 : Int) (u3 u7 u8 : MV) : rsP PG0 MX d 163 22 [vR x0, vR x1, vR x2, u3, vI x4, vI x5, vI x6, u7, u8] [] σ =
    cnd (32 ≤ x1 ∧ x1 < σ (-1) 0 ∧ σ x1 (-1) = 0) (cnd (wr (σ x1 6) ≤ wr x6)
      (some (1, σ))
      (cnd (32 ≤ x1 ∧ x1 < σ (-1) 0 ∧ σ x1 (-1) = 0) (cnd (0 < (σ x1 0) ∧ (σ x1 0) < σ (-1) 0 ∧ σ (σ x1 0) (-1) = 20 ∧ 0 ≤ wr x6 ∧ wr x6 < σ (σ x1 0) (-2)) (cnd (32 ≤ x2 ∧ x2 < σ (-1) 0 ∧ σ x2 (-1) = 0) (cnd (0 < (σ x2 0) ∧ (σ x2 0) < σ (-1) 0 ∧ σ (σ x2 0) (-1) = 20 ∧ 0 ≤ wr x5 ∧ wr x5 < σ (σ x2 0) (-2)) (cnd (32 ≤ x0 ∧ x0 < σ (-1) 0 ∧ σ x0 (-1) = 4) (cnd (0 < (σ x0 0) ∧ (σ x0 0) < σ (-1) 0 ∧ σ (σ x0 0) (-1) = 20 ∧ 0 ≤ wr (σ (σ x1 0) (wr x6)) ∧ wr (σ (σ x1 0) (wr x6)) < σ (σ x0 0) (-2)) (cnd (wr (σ (σ x0 0) (wr (σ (σ x1 0) (wr x6)))) ≠ wr ((-1)))
        (rsP PG0 MX d 163 92 [vR x0, vR x1, vR x2, vU, vI x4, vI x5, vI x6, vI (σ (σ x1 0) (wr x6)), vI (σ (σ x2 0) (wr x5))] [] σ)
        (cnd (32 ≤ x0 ∧ x0 < σ (-1) 0 ∧ σ x0 (-1) = 4) (cnd (0 < (σ x0 1) ∧ (σ x0 1) < σ (-1) 0 ∧ σ (σ x0 1) (-1) = 20 ∧ 0 ≤ wr (σ (σ x2 0) (wr x5)) ∧ wr (σ (σ x2 0) (wr x5)) < σ (σ x0 1) (-2)) (cnd (wr (σ (σ x0 1) (wr (σ (σ x2 0) (wr x5)))) ≠ wr ((-1)))
          (rsP PG0 MX d 163 92 [vR x0, vR x1, vR x2, vU, vI x4, vI x5, vI x6, vI (σ (σ x1 0) (wr x6)), vI (σ (σ x2 0) (wr x5))] [] σ)
          (cnd (32 ≤ x0 ∧ x0 < σ (-1) 0 ∧ σ x0 (-1) = 4) (cnd (32 ≤ (σ x0 0) ∧ (σ x0 0) < σ (-1) 0 ∧ σ (σ x0 0) (-1) = 20 ∧ 0 ≤ wr (σ (σ x1 0) (wr x6)) ∧ wr (σ (σ x1 0) (wr x6)) < σ (σ x0 0) (-2)) (cnd (32 ≤ x0 ∧ x0 < (up σ (σ x0 0) (wr (σ (σ x1 0) (wr x6))) (σ (σ x2 0) (wr x5))) (-1) 0 ∧ (up σ (σ x0 0) (wr (σ (σ x1 0) (wr x6))) (σ (σ x2 0) (wr x5))) x0 (-1) = 4) (cnd (32 ≤ ((up σ (σ x0 0) (wr (σ (σ x1 0) (wr x6))) (σ (σ x2 0) (wr x5))) x0 1) ∧ ((up σ (σ x0 0) (wr (σ (σ x1 0) (wr x6))) (σ (σ x2 0) (wr x5))) x0 1) < (up σ (σ x0 0) (wr (σ (σ x1 0) (wr x6))) (σ (σ x2 0) (wr x5))) (-1) 0 ∧ (up σ (σ x0 0) (wr (σ (σ x1 0) (wr x6))) (σ (σ x2 0) (wr x5))) ((up σ (σ x0 0) (wr (σ (σ x1 0) (wr x6))) (σ (σ x2 0) (wr x5))) x0 1) (-1) = 20 ∧ 0 ≤ wr (σ (σ x2 0) (wr x5)) ∧ wr (σ (σ x2 0) (wr x5)) < (up σ (σ x0 0) (wr (σ (σ x1 0) (wr x6))) (σ (σ x2 0) (wr x5))) ((up σ (σ x0 0) (wr (σ (σ x1 0) (wr x6))) (σ (σ x2 0) (wr x5))) x0 1) (-2)) (rsP PG0 MX d 163 106 [vR x0, vR x1, vR x2, vU, vI x4, vI x5, vI x6, vI (σ (σ x1 0) (wr x6)), vI (σ (σ x2 0) (wr x5))] [] (up (up σ (σ x0 0) (wr (σ (σ x1 0) (wr x6))) (σ (σ x2 0) (wr x5))) ((up σ (σ x0 0) (wr (σ (σ x1 0) (wr x6))) (σ (σ x2 0) (wr x5))) x0 1) (wr (σ (σ x2 0) (wr x5))) (σ (σ x1 0) (wr x6)))) none) none) none) none)) none) none)) none) none) none) none) none) none)) none :=
  blkE (cs := pgA_163) rfl [22, 92, 106, 122] 39 _ _ _ _
set_option maxRecDepth 100000 in
theorem sg_163_92 (d : Nat) (σ : HP) (x0 x1 x2 x4 x5 x6 x7 x8 : Int) (u3 : MV) : rsP PG0 MX d 163 92 [vR x0, vR x1, vR x2, u3, vI x4, vI x5, vI x6, vI x7, vI x8] [] σ =
    cnd (32 ≤ x0 ∧ x0 < σ (-1) 0 ∧ σ x0 (-1) = 4) (cnd (0 < (σ x0 0) ∧ (σ x0 0) < σ (-1) 0 ∧ σ (σ x0 0) (-1) = 20 ∧ 0 ≤ wr x7 ∧ wr x7 < σ (σ x0 0) (-2)) (cnd (wr (σ (σ x0 0) (wr x7)) = wr x8)
      (rsP PG0 MX d 163 106 [vR x0, vR x1, vR x2, vU, vI x4, vI x5, vI x6, vI x7, vI x8] [] σ)
      (some (0, σ))) none) none :=
  blkE (cs := pgA_163) rfl [22, 92, 106, 122] 9 _ _ _ _
set_option maxRecDepth 100000 in
theorem sg_163_106 (d : Nat) (σ : HP) (x0 x1 x2 x4 x5 x6 : Int) (u3 u7 u8 : MV) : rsP PG0 MX d 163 106 [vR x0, vR x1, vR x2, u3, vI x4, vI x5, vI x6, u7, u8] [] σ =
    cnd (wr x4 = 0)
      (rsP PG0 MX d 163 122 [vR x0, vR x1, vR x2, vU, vI x4, vI x5, vI x6, vU, vU] [vI (x5 - 1)] σ)
      (rsP PG0 MX d 163 122 [vR x0, vR x1, vR x2, vU, vI x4, vI x5, vI x6, vU, vU] [vI (x5 + 1)] σ) :=
  blkE (cs := pgA_163) rfl [22, 92, 106, 122] 8 _ _ _ _
set_option maxRecDepth 100000 in
theorem sg_163_122 (d : Nat) (σ : HP) (x0 x1 x2 x4 x6 y0 : Int) (u3 u5 u7 u8 : MV) : rsP PG0 MX d 163 122 [vR x0, vR x1, vR x2, u3, vI x4, u5, vI x6, u7, u8] [vI y0] σ =
    cnd (32 ≤ x2 ∧ x2 < σ (-1) 0 ∧ σ x2 (-1) = 0) (cnd (wr y0 < wr (σ x2 6))
      (cnd (0 ≤ wr y0)
        (rsP PG0 MX d 163 22 [vR x0, vR x1, vR x2, vU, vI x4, vI y0, vI (x6 + 1), vU, vU] [] σ)
        (cnd (32 ≤ x2 ∧ x2 < σ (-1) 0 ∧ σ x2 (-1) = 0) (rsP PG0 MX d 163 22 [vR x0, vR x1, vR x2, vU, vI x4, vI ((σ x2 6) - 1), vI (x6 + 1), vU, vU] [] σ) none))
      (rsP PG0 MX d 163 22 [vR x0, vR x1, vR x2, vU, vI x4, vI 0, vI (x6 + 1), vU, vU] [] σ)) none :=
  blkE (cs := pgA_163) rfl [22, 92, 106, 122] 17 _ _ _ _
/-- OneAtATime.drops(I)I -/
theorem ce_164 (d : Nat) (σ : HP) (x0 x1 : Int) : clR PG0 MX (d + 1) 164 [vR x0, vI x1] σ = rsP PG0 MX d 164 0 [vR x0, vI x1, vU] [] σ := rfl
set_option maxRecDepth 100000 in
theorem sg_164_0 (d : Nat) (σ : HP) (x0 x1 : Int) : rsP PG0 MX d 164 0 [vR x0, vI x1, vU] [] σ =
    bnd (clR PG0 MX d 16 [vI x1] σ) (fun q1 => 
    cnd (wr q1.1 ≠ 0)
        (cnd (32 ≤ x0 ∧ x0 < q1.2 (-1) 0 ∧ q1.2 x0 (-1) = 8) (cnd (32 ≤ (q1.2 x0 0) ∧ (q1.2 x0 0) < q1.2 (-1) 0 ∧ q1.2 (q1.2 x0 0) (-1) = 23 ∧ 0 ≤ wr x1 ∧ wr x1 < q1.2 (q1.2 x0 0) (-2)) (cnd (32 ≤ (q1.2 (q1.2 x0 0) (wr x1)) ∧ (q1.2 (q1.2 x0 0) (wr x1)) < q1.2 (-1) 0 ∧ q1.2 (q1.2 (q1.2 x0 0) (wr x1)) (-1) = 0) (cnd (wr (q1.2 (q1.2 (q1.2 x0 0) (wr x1)) 2) ≠ 0)
          (cnd (32 ≤ x0 ∧ x0 < q1.2 (-1) 0 ∧ q1.2 x0 (-1) = 8) (cnd (0 < (q1.2 x0 2) ∧ (q1.2 x0 2) < q1.2 (-1) 0 ∧ q1.2 (q1.2 x0 2) (-1) = 3) (bnd (clR PG0 MX d 34 [vR (q1.2 x0 2), vI x1, vR (q1.2 (q1.2 x0 0) (wr x1))] q1.2) (fun q2 => 
          cnd (32 ≤ (q1.2 (q1.2 x0 0) (wr x1)) ∧ (q1.2 (q1.2 x0 0) (wr x1)) < q2.2 (-1) 0 ∧ q2.2 (q1.2 (q1.2 x0 0) (wr x1)) (-1) = 0) (some (1, up q2.2 (q1.2 (q1.2 x0 0) (wr x1)) 2 0)) none)) none) none)
          (some (0, q1.2))) none) none) none)
        (some ((-2), q1.2))) :=
  blkE (cs := pgA_164) rfl [] 22 _ _ _ _
/-- OneAtATime.undo()I -/
theorem ce_165 (d : Nat) (σ : HP) (x0 : Int) : clR PG0 MX (d + 1) 165 [vR x0] σ = rsP PG0 MX d 165 0 [vR x0, vU] [] σ := rfl
set_option maxRecDepth 100000 in
theorem sg_165_0 (d : Nat) (σ : HP) (x0 : Int) : rsP PG0 MX d 165 0 [vR x0, vU] [] σ =
    cnd (32 ≤ x0 ∧ x0 < σ (-1) 0 ∧ σ x0 (-1) = 8) (cnd (32 ≤ (σ x0 2) ∧ (σ x0 2) < σ (-1) 0 ∧ σ (σ x0 2) (-1) = 3) (cnd (wr (σ (σ x0 2) 3) ≠ 0)
      (cnd (32 ≤ x0 ∧ x0 < σ (-1) 0 ∧ σ x0 (-1) = 8) (cnd (0 < (σ x0 2) ∧ (σ x0 2) < σ (-1) 0 ∧ σ (σ x0 2) (-1) = 3) (bnd (clR PG0 MX d 166 [vR (σ x0 2)] σ) (fun q1 => 
      bnd (clR PG0 MX d 16 [vI q1.1] q1.2) (fun q2 => 
        cnd (wr q2.1 = 0)
            (cnd (32 ≤ x0 ∧ x0 < q2.2 (-1) 0 ∧ q2.2 x0 (-1) = 8) (cnd (32 ≤ (q2.2 x0 2) ∧ (q2.2 x0 2) < q2.2 (-1) 0 ∧ q2.2 (q2.2 x0 2) (-1) = 3) (some (q2.2 (q2.2 x0 2) 3, q2.2)) none) none)
            (cnd (32 ≤ x0 ∧ x0 < q2.2 (-1) 0 ∧ q2.2 x0 (-1) = 8) (cnd (32 ≤ x0 ∧ x0 < q2.2 (-1) 0 ∧ q2.2 x0 (-1) = 8) (cnd (32 ≤ (q2.2 x0 0) ∧ (q2.2 x0 0) < q2.2 (-1) 0 ∧ q2.2 (q2.2 x0 0) (-1) = 23 ∧ 0 ≤ wr q1.1 ∧ wr q1.1 < q2.2 (q2.2 x0 0) (-2)) (cnd (0 < (q2.2 x0 2) ∧ (q2.2 x0 2) < q2.2 (-1) 0 ∧ q2.2 (q2.2 x0 2) (-1) = 3) (bnd (clR PG0 MX d 168 [vR (q2.2 x0 2), vR (q2.2 (q2.2 x0 0) (wr q1.1))] q2.2) (fun q3 => 
            cnd (32 ≤ x0 ∧ x0 < q3.2 (-1) 0 ∧ q3.2 x0 (-1) = 8) (cnd (32 ≤ (q3.2 x0 2) ∧ (q3.2 x0 2) < q3.2 (-1) 0 ∧ q3.2 (q3.2 x0 2) (-1) = 3) (some (q3.2 (q3.2 x0 2) 3, q3.2)) none) none)) none) none) none) none)))) none) none)
      (some ((-1), σ))) none) none :=
  blkE (cs := pgA_165) rfl [] 23 _ _ _ _
/-- OneAtATime$History.latestSlot()I -/
theorem ce_166 (d : Nat) (σ : HP) (x0 : Int) : clR PG0 MX (d + 1) 166 [vR x0] σ = rsP PG0 MX d 166 0 [vR x0] [] σ := rfl
set_option maxRecDepth 100000 in
theorem sg_166_0 (d : Nat) (σ : HP) (x0 : Int) : rsP PG0 MX d 166 0 [vR x0] [] σ =
    cnd (32 ≤ x0 ∧ x0 < σ (-1) 0 ∧ σ x0 (-1) = 3) (cnd (0 < x0 ∧ x0 < σ (-1) 0 ∧ σ x0 (-1) = 3) (bnd (clR PG0 MX d 167 [vR x0] σ) (fun q1 => 
    cnd (0 < (σ x0 1) ∧ (σ x0 1) < q1.2 (-1) 0 ∧ q1.2 (σ x0 1) (-1) = 20 ∧ 0 ≤ wr q1.1 ∧ wr q1.1 < q1.2 (σ x0 1) (-2)) (some (q1.2 (σ x0 1) (wr q1.1), q1.2)) none)) none) none :=
  blkE (cs := pgA_166) rfl [] 7 _ _ _ _
/-- OneAtATime$History.latest()I -/
theorem ce_167 (d : Nat) (σ : HP) (x0 : Int) : clR PG0 MX (d + 1) 167 [vR x0] σ = rsP PG0 MX d 167 0 [vR x0] [] σ := rfl
set_option maxRecDepth 100000 in
theorem sg_167_0 (d : Nat) (σ : HP) (x0 : Int) : rsP PG0 MX d 167 0 [vR x0] [] σ =
    cnd (32 ≤ x0 ∧ x0 < σ (-1) 0 ∧ σ x0 (-1) = 3) (cnd (wr (σ x0 2) ≠ 0)
      (cnd (32 ≤ x0 ∧ x0 < σ (-1) 0 ∧ σ x0 (-1) = 3) (some ((σ x0 2) - 1, σ)) none)
      (some (9, σ))) none :=
  blkE (cs := pgA_167) rfl [] 9 _ _ _ _
/-- OneAtATime$History.takeBack(LOneAtATime$BitList;)V -/
theorem ce_168 (d : Nat) (σ : HP) (x0 x1 : Int) : clR PG0 MX (d + 1) 168 [vR x0, vR x1] σ = rsP PG0 MX d 168 0 [vR x0, vR x1] [] σ := rfl
set_option maxRecDepth 100000 in
theorem sg_168_0 (d : Nat) (σ : HP) (x0 x1 : Int) : rsP PG0 MX d 168 0 [vR x0, vR x1] [] σ =
    cnd (32 ≤ x0 ∧ x0 < σ (-1) 0 ∧ σ x0 (-1) = 3) (cnd (wr (σ x0 3) ≤ 0)
      (some (0, σ))
      (cnd (0 < x0 ∧ x0 < σ (-1) 0 ∧ σ x0 (-1) = 3) (bnd (clR PG0 MX d 167 [vR x0] σ) (fun q1 => 
      cnd (32 ≤ x0 ∧ x0 < q1.2 (-1) 0 ∧ q1.2 x0 (-1) = 3) (cnd (32 ≤ x0 ∧ x0 < (up q1.2 x0 2 q1.1) (-1) 0 ∧ (up q1.2 x0 2 q1.1) x0 (-1) = 3) (cnd (32 ≤ x0 ∧ x0 < (up q1.2 x0 2 q1.1) (-1) 0 ∧ (up q1.2 x0 2 q1.1) x0 (-1) = 3) (cnd (32 ≤ x0 ∧ x0 < (up (up q1.2 x0 2 q1.1) x0 3 (((up q1.2 x0 2 q1.1) x0 3) - 1)) (-1) 0 ∧ (up (up q1.2 x0 2 q1.1) x0 3 (((up q1.2 x0 2 q1.1) x0 3) - 1)) x0 (-1) = 3) (cnd (32 ≤ x0 ∧ x0 < (up (up q1.2 x0 2 q1.1) x0 3 (((up q1.2 x0 2 q1.1) x0 3) - 1)) (-1) 0 ∧ (up (up q1.2 x0 2 q1.1) x0 3 (((up q1.2 x0 2 q1.1) x0 3) - 1)) x0 (-1) = 3) (cnd (32 ≤ ((up (up q1.2 x0 2 q1.1) x0 3 (((up q1.2 x0 2 q1.1) x0 3) - 1)) x0 0) ∧ ((up (up q1.2 x0 2 q1.1) x0 3 (((up q1.2 x0 2 q1.1) x0 3) - 1)) x0 0) < (up (up q1.2 x0 2 q1.1) x0 3 (((up q1.2 x0 2 q1.1) x0 3) - 1)) (-1) 0 ∧ (up (up q1.2 x0 2 q1.1) x0 3 (((up q1.2 x0 2 q1.1) x0 3) - 1)) ((up (up q1.2 x0 2 q1.1) x0 3 (((up q1.2 x0 2 q1.1) x0 3) - 1)) x0 0) (-1) = 23 ∧ 0 ≤ wr ((up (up q1.2 x0 2 q1.1) x0 3 (((up q1.2 x0 2 q1.1) x0 3) - 1)) x0 2) ∧ wr ((up (up q1.2 x0 2 q1.1) x0 3 (((up q1.2 x0 2 q1.1) x0 3) - 1)) x0 2) < (up (up q1.2 x0 2 q1.1) x0 3 (((up q1.2 x0 2 q1.1) x0 3) - 1)) ((up (up q1.2 x0 2 q1.1) x0 3 (((up q1.2 x0 2 q1.1) x0 3) - 1)) x0 0) (-2)) (cnd (0 < x1 ∧ x1 < (up (up q1.2 x0 2 q1.1) x0 3 (((up q1.2 x0 2 q1.1) x0 3) - 1)) (-1) 0 ∧ (up (up q1.2 x0 2 q1.1) x0 3 (((up q1.2 x0 2 q1.1) x0 3) - 1)) x1 (-1) = 0) (bnd (clR PG0 MX d 35 [vR x1, vR ((up (up q1.2 x0 2 q1.1) x0 3 (((up q1.2 x0 2 q1.1) x0 3) - 1)) ((up (up q1.2 x0 2 q1.1) x0 3 (((up q1.2 x0 2 q1.1) x0 3) - 1)) x0 0) (wr ((up (up q1.2 x0 2 q1.1) x0 3 (((up q1.2 x0 2 q1.1) x0 3) - 1)) x0 2)))] (up (up q1.2 x0 2 q1.1) x0 3 (((up q1.2 x0 2 q1.1) x0 3) - 1))) (fun q2 => 
        some (0, q2.2))) none) none) none) none) none) none) none)) none)) none :=
  blkE (cs := pgA_168) rfl [] 22 _ _ _ _
/-- OneAtATime.tell(II)I -/
theorem ce_169 (d : Nat) (σ : HP) (x0 x1 x2 : Int) : clR PG0 MX (d + 1) 169 [vR x0, vI x1, vI x2] σ = rsP PG0 MX d 169 0 [vR x0, vI x1, vI x2, vU] [] σ := rfl
set_option maxRecDepth 100000 in
theorem sg_169_0 (d : Nat) (σ : HP) (x0 x1 x2 : Int) : rsP PG0 MX d 169 0 [vR x0, vI x1, vI x2, vU] [] σ =
    cnd (0 < x0 ∧ x0 < σ (-1) 0 ∧ σ x0 (-1) = 8) (bnd (clR PG0 MX d 41 [vR x0, vI x1] σ) (fun q1 => 
    cnd (q1.1 ≤ 0)
        (some ((-2), q1.2))
        (bnd (clR PG0 MX d 82 [vI x2] q1.2) (fun q2 => 
        cnd (wr q2.1 ≠ 0)
            (cnd (32 ≤ x0 ∧ x0 < q2.2 (-1) 0 ∧ q2.2 x0 (-1) = 8) (cnd (32 ≤ (q2.2 x0 4) ∧ (q2.2 x0 4) < q2.2 (-1) 0 ∧ q2.2 (q2.2 x0 4) (-1) = 1) (cnd (wr x2 ≠ 0)
              (cnd (32 ≤ x0 ∧ x0 < (up q2.2 (q2.2 x0 4) 1 0) (-1) 0 ∧ (up q2.2 (q2.2 x0 4) 1 0) x0 (-1) = 8) (cnd (0 < ((up q2.2 (q2.2 x0 4) 1 0) x0 4) ∧ ((up q2.2 (q2.2 x0 4) 1 0) x0 4) < (up q2.2 (q2.2 x0 4) 1 0) (-1) 0 ∧ (up q2.2 (q2.2 x0 4) 1 0) ((up q2.2 (q2.2 x0 4) 1 0) x0 4) (-1) = 1) (bnd (clR PG0 MX d 173 [vR ((up q2.2 (q2.2 x0 4) 1 0) x0 4), vR q1.1] (up q2.2 (q2.2 x0 4) 1 0)) (fun q3 => 
              cnd (32 ≤ x0 ∧ x0 < q3.2 (-1) 0 ∧ q3.2 x0 (-1) = 8) (cnd (32 ≤ (q3.2 x0 4) ∧ (q3.2 x0 4) < q3.2 (-1) 0 ∧ q3.2 (q3.2 x0 4) (-1) = 1) (some (q3.2 (q3.2 x0 4) 1, q3.2)) none) none)) none) none)
              (cnd (32 ≤ x0 ∧ x0 < (up q2.2 (q2.2 x0 4) 1 0) (-1) 0 ∧ (up q2.2 (q2.2 x0 4) 1 0) x0 (-1) = 8) (cnd (0 < ((up q2.2 (q2.2 x0 4) 1 0) x0 4) ∧ ((up q2.2 (q2.2 x0 4) 1 0) x0 4) < (up q2.2 (q2.2 x0 4) 1 0) (-1) 0 ∧ (up q2.2 (q2.2 x0 4) 1 0) ((up q2.2 (q2.2 x0 4) 1 0) x0 4) (-1) = 1) (bnd (clR PG0 MX d 170 [vR ((up q2.2 (q2.2 x0 4) 1 0) x0 4), vR q1.1] (up q2.2 (q2.2 x0 4) 1 0)) (fun q4 => 
              cnd (32 ≤ x0 ∧ x0 < q4.2 (-1) 0 ∧ q4.2 x0 (-1) = 8) (cnd (32 ≤ (q4.2 x0 4) ∧ (q4.2 x0 4) < q4.2 (-1) 0 ∧ q4.2 (q4.2 x0 4) (-1) = 1) (some (q4.2 (q4.2 x0 4) 1, q4.2)) none) none)) none) none)) none) none)
            (some ((-2), q2.2)))))) none :=
  blkE (cs := pgA_169) rfl [] 25 _ _ _ _
/-- OneAtATime$Bytes.putText(LOneAtATime$BitList;)V -/
theorem ce_170 (d : Nat) (σ : HP) (x0 x1 : Int) : clR PG0 MX (d + 1) 170 [vR x0, vR x1] σ = rsP PG0 MX d 170 0 [vR x0, vR x1, vU] [] σ := rfl
set_option maxRecDepth 100000 in
theorem sg_170_0 (d : Nat) (σ : HP) (x0 x1 : Int) : rsP PG0 MX d 170 0 [vR x0, vR x1, vU] [] σ =
    cnd (0 < x0 ∧ x0 < σ (-1) 0 ∧ σ x0 (-1) = 1) (bnd (clR PG0 MX d 171 [vR x0, vR 8] σ) (fun q1 => 
    cnd (32 ≤ x1 ∧ x1 < q1.2 (-1) 0 ∧ q1.2 x1 (-1) = 0) (cnd (0 < x0 ∧ x0 < q1.2 (-1) 0 ∧ q1.2 x0 (-1) = 1) (bnd (clR PG0 MX d 172 [vR x0, vI (q1.2 x1 3)] q1.2) (fun q2 => 
      cnd (0 < x0 ∧ x0 < q2.2 (-1) 0 ∧ q2.2 x0 (-1) = 1) (bnd (clR PG0 MX d 171 [vR x0, vR 2] q2.2) (fun q3 => 
        cnd (32 ≤ x1 ∧ x1 < q3.2 (-1) 0 ∧ q3.2 x1 (-1) = 0) (cnd (0 < x0 ∧ x0 < q3.2 (-1) 0 ∧ q3.2 x0 (-1) = 1) (bnd (clR PG0 MX d 172 [vR x0, vI (q3.2 x1 4)] q3.2) (fun q4 => 
          rsP PG0 MX d 170 28 [vR x0, vR x1, vU] [] q4.2)) none) none)) none)) none) none)) none :=
  blkE (cs := pgA_170) rfl [28, 58, 66] 16 _ _ _ _
set_option maxRecDepth 100000 in
theorem sg_170_28 (d : Nat) (σ : HP) (x0 x1 : Int) (u2 : MV) : rsP PG0 MX d 170 28 [vR x0, vR x1, u2] [] σ =
    cnd (0 < x0 ∧ x0 < σ (-1) 0 ∧ σ x0 (-1) = 1) (bnd (clR PG0 MX d 171 [vR x0, vR 4] σ) (fun q1 => 
    cnd (32 ≤ x1 ∧ x1 < q1.2 (-1) 0 ∧ q1.2 x1 (-1) = 0) (cnd (0 < x0 ∧ x0 < q1.2 (-1) 0 ∧ q1.2 x0 (-1) = 1) (bnd (clR PG0 MX d 172 [vR x0, vI (q1.2 x1 5)] q1.2) (fun q2 => 
      cnd (0 < x0 ∧ x0 < q2.2 (-1) 0 ∧ q2.2 x0 (-1) = 1) (bnd (clR PG0 MX d 171 [vR x0, vR 3] q2.2) (fun q3 => 
        cnd (32 ≤ x1 ∧ x1 < q3.2 (-1) 0 ∧ q3.2 x1 (-1) = 0) (cnd (0 < (q3.2 x1 1) ∧ (q3.2 x1 1) < q3.2 (-1) 0 ∧ q3.2 (q3.2 x1 1) (-1) = 20 ∧ 0 ≤ wr 0 ∧ wr 0 < q3.2 (q3.2 x1 1) (-2)) (cnd (0 < x0 ∧ x0 < q3.2 (-1) 0 ∧ q3.2 x0 (-1) = 1) (bnd (clR PG0 MX d 172 [vR x0, vI (q3.2 (q3.2 x1 1) (wr 0))] q3.2) (fun q4 => 
          rsP PG0 MX d 170 58 [vR x0, vR x1, u2] [] q4.2)) none) none) none)) none)) none) none)) none :=
  blkE (cs := pgA_170) rfl [28, 58, 66] 18 _ _ _ _
set_option maxRecDepth 100000 in
theorem sg_170_58 (d : Nat) (σ : HP) (x0 x1 : Int) (u2 : MV) : rsP PG0 MX d 170 58 [vR x0, vR x1, u2] [] σ =
    cnd (0 < x0 ∧ x0 < σ (-1) 0 ∧ σ x0 (-1) = 1) (bnd (clR PG0 MX d 13 [vR x0, vI 58] σ) (fun q1 => 
    rsP PG0 MX d 170 66 [vR x0, vR x1, vI 0] [] q1.2)) none :=
  blkE (cs := pgA_170) rfl [28, 58, 66] 7 _ _ _ _
set_option maxRecDepth 100000 in
theorem sg_170_66 (d : Nat) (σ : HP) (x0 x1 x2 : Int) : rsP PG0 MX d 170 66 [vR x0, vR x1, vI x2] [] σ =
    cnd (32 ≤ x1 ∧ x1 < σ (-1) 0 ∧ σ x1 (-1) = 0) (cnd (wr (σ x1 6) ≤ wr x2)
      (cnd (0 < x0 ∧ x0 < σ (-1) 0 ∧ σ x0 (-1) = 1) (bnd (clR PG0 MX d 13 [vR x0, vI 59] σ) (fun q1 => 
      some (0, q1.2))) none)
      (cnd (32 ≤ x1 ∧ x1 < σ (-1) 0 ∧ σ x1 (-1) = 0) (cnd (0 < (σ x1 0) ∧ (σ x1 0) < σ (-1) 0 ∧ σ (σ x1 0) (-1) = 20 ∧ 0 ≤ wr x2 ∧ wr x2 < σ (σ x1 0) (-2)) (cnd (0 < x0 ∧ x0 < σ (-1) 0 ∧ σ x0 (-1) = 1) (bnd (clR PG0 MX d 13 [vR x0, vI (48 + (σ (σ x1 0) (wr x2)))] σ) (fun q2 => 
      rsP PG0 MX d 170 66 [vR x0, vR x1, vI (x2 + 1)] [] q2.2)) none) none) none)) none :=
  blkE (cs := pgA_170) rfl [28, 58, 66] 16 _ _ _ _
/-- OneAtATime$Bytes.putSigns(Ljava/lang/String;)V -/
theorem ce_171 (d : Nat) (σ : HP) (x0 x1 : Int) : clR PG0 MX (d + 1) 171 [vR x0, vR x1] σ = rsP PG0 MX d 171 0 [vR x0, vR x1, vU] [] σ := rfl
set_option maxRecDepth 100000 in
theorem sg_171_0 (d : Nat) (σ : HP) (x0 x1 : Int) : rsP PG0 MX d 171 0 [vR x0, vR x1, vU] [] σ =
    rsP PG0 MX d 171 2 [vR x0, vR x1, vI 0] [] σ :=
  blkE (cs := pgA_171) rfl [2] 4 _ _ _ _
set_option maxRecDepth 100000 in
theorem sg_171_2 (d : Nat) (σ : HP) (x0 x1 x2 : Int) : rsP PG0 MX d 171 2 [vR x0, vR x1, vI x2] [] σ =
    cnd (0 < x1 ∧ x1 < σ (-1) 0 ∧ σ x1 (-1) = 30) (bnd (clR PG0 MX d 1000 [vR x1] σ) (fun q1 => 
    cnd (wr q1.1 ≤ wr x2)
        (some (0, q1.2))
        (cnd (0 < x1 ∧ x1 < q1.2 (-1) 0 ∧ q1.2 x1 (-1) = 30) (bnd (clR PG0 MX d 1001 [vR x1, vI x2] q1.2) (fun q2 => 
        cnd (0 < x0 ∧ x0 < q2.2 (-1) 0 ∧ q2.2 x0 (-1) = 1) (bnd (clR PG0 MX d 13 [vR x0, vI q2.1] q2.2) (fun q3 => 
          rsP PG0 MX d 171 2 [vR x0, vR x1, vI (x2 + 1)] [] q3.2)) none)) none))) none :=
  blkE (cs := pgA_171) rfl [2] 13 _ _ _ _
/-- OneAtATime$Bytes.putNumber(I)V -/
theorem ce_172 (d : Nat) (σ : HP) (x0 x1 : Int) : clR PG0 MX (d + 1) 172 [vR x0, vI x1] σ = rsP PG0 MX d 172 0 [vR x0, vI x1] [] σ := rfl
set_option maxRecDepth 100000 in
theorem sg_172_0 (d : Nat) (σ : HP) (x0 x1 : Int) : rsP PG0 MX d 172 0 [vR x0, vI x1] [] σ =
    cnd (wr x1 < wr 100)
      (rsP PG0 MX d 172 20 [vR x0, vI x1] [] σ)
      (cnd (wr 100 ≠ 0) (cnd (wr 10 ≠ 0) (cnd (0 < x0 ∧ x0 < σ (-1) 0 ∧ σ x0 (-1) = 1) (bnd (clR PG0 MX d 13 [vR x0, vI (48 + (i_rem (i_div x1 100) 10))] σ) (fun q1 => 
      rsP PG0 MX d 172 20 [vR x0, vI x1] [] q1.2)) none) none) none) :=
  blkE (cs := pgA_172) rfl [20, 40] 14 _ _ _ _
set_option maxRecDepth 100000 in
theorem sg_172_20 (d : Nat) (σ : HP) (x0 x1 : Int) : rsP PG0 MX d 172 20 [vR x0, vI x1] [] σ =
    cnd (wr x1 < wr 10)
      (rsP PG0 MX d 172 40 [vR x0, vI x1] [] σ)
      (cnd (wr 10 ≠ 0) (cnd (wr 10 ≠ 0) (cnd (0 < x0 ∧ x0 < σ (-1) 0 ∧ σ x0 (-1) = 1) (bnd (clR PG0 MX d 13 [vR x0, vI (48 + (i_rem (i_div x1 10) 10))] σ) (fun q1 => 
      rsP PG0 MX d 172 40 [vR x0, vI x1] [] q1.2)) none) none) none) :=
  blkE (cs := pgA_172) rfl [20, 40] 14 _ _ _ _
set_option maxRecDepth 100000 in
theorem sg_172_40 (d : Nat) (σ : HP) (x0 x1 : Int) : rsP PG0 MX d 172 40 [vR x0, vI x1] [] σ =
    cnd (wr 10 ≠ 0) (cnd (0 < x0 ∧ x0 < σ (-1) 0 ∧ σ x0 (-1) = 1) (bnd (clR PG0 MX d 13 [vR x0, vI (48 + (i_rem x1 10))] σ) (fun q1 => 
    some (0, q1.2))) none) none :=
  blkE (cs := pgA_172) rfl [20, 40] 9 _ _ _ _
/-- OneAtATime$Bytes.putWords(LOneAtATime$BitList;)V -/
theorem ce_173 (d : Nat) (σ : HP) (x0 x1 : Int) : clR PG0 MX (d + 1) 173 [vR x0, vR x1] σ = rsP PG0 MX d 173 0 [vR x0, vR x1, vU, vU, vU] [] σ := rfl
set_option maxRecDepth 100000 in
theorem sg_173_0 (d : Nat) (σ : HP) (x0 x1 : Int) : rsP PG0 MX d 173 0 [vR x0, vR x1, vU, vU, vU] [] σ =
    cnd (0 < x1 ∧ x1 < σ (-1) 0 ∧ σ x1 (-1) = 0) (bnd (clR PG0 MX d 42 [vR x1] σ) (fun q1 => 
    rsP PG0 MX d 173 7 [vR x0, vR x1, vI q1.1, vI 0, vU] [] q1.2)) none :=
  blkE (cs := pgA_173) rfl [7, 20] 7 _ _ _ _
set_option maxRecDepth 100000 in
theorem sg_173_7 (d : Nat) (σ : HP) (x0 x1 x2 x3 : Int) (u4 : MV) : rsP PG0 MX d 173 7 [vR x0, vR x1, vI x2, vI x3, u4] [] σ =
    cnd (wr x2 ≤ wr x3)
      (some (0, σ))
      (cnd (32 ≤ x1 ∧ x1 < σ (-1) 0 ∧ σ x1 (-1) = 0) (rsP PG0 MX d 173 20 [vR x0, vR x1, vI x2, vI x3, vI ((σ x1 3) - 1)] [] σ) none) :=
  blkE (cs := pgA_173) rfl [7, 20] 10 _ _ _ _
set_option maxRecDepth 100000 in
theorem sg_173_20 (d : Nat) (σ : HP) (x0 x1 x2 x3 x4 : Int) : rsP PG0 MX d 173 20 [vR x0, vR x1, vI x2, vI x3, vI x4] [] σ =
    cnd (wr x4 < 0)
      (cnd (0 < x0 ∧ x0 < σ (-1) 0 ∧ σ x0 (-1) = 1) (bnd (clR PG0 MX d 13 [vR x0, vI 10] σ) (fun q1 => 
      rsP PG0 MX d 173 7 [vR x0, vR x1, vI x2, vI (x3 + 1), vI x4] [] q1.2)) none)
      (cnd (0 < x1 ∧ x1 < σ (-1) 0 ∧ σ x1 (-1) = 0) (bnd (clR PG0 MX d 64 [vR x1, vI x3, vI x4] σ) (fun q2 => 
      cnd (0 < x0 ∧ x0 < q2.2 (-1) 0 ∧ q2.2 x0 (-1) = 1) (bnd (clR PG0 MX d 13 [vR x0, vI (48 + q2.1)] q2.2) (fun q3 => 
        rsP PG0 MX d 173 20 [vR x0, vR x1, vI x2, vI x3, vI (x4 + (-1))] [] q3.2)) none)) none) :=
  blkE (cs := pgA_173) rfl [7, 20] 14 _ _ _ _
/-- OneAtATime.octet(I)I -/
theorem ce_174 (d : Nat) (σ : HP) (x0 x1 : Int) : clR PG0 MX (d + 1) 174 [vR x0, vI x1] σ = rsP PG0 MX d 174 0 [vR x0, vI x1] [] σ := rfl
set_option maxRecDepth 100000 in
theorem sg_174_0 (d : Nat) (σ : HP) (x0 x1 : Int) : rsP PG0 MX d 174 0 [vR x0, vI x1] [] σ =
    cnd (wr x1 < 0)
      (some ((-1), σ))
      (cnd (32 ≤ x0 ∧ x0 < σ (-1) 0 ∧ σ x0 (-1) = 8) (cnd (32 ≤ (σ x0 4) ∧ (σ x0 4) < σ (-1) 0 ∧ σ (σ x0 4) (-1) = 1) (cnd (wr x1 < wr (σ (σ x0 4) 1))
        (cnd (32 ≤ x0 ∧ x0 < σ (-1) 0 ∧ σ x0 (-1) = 8) (cnd (0 < (σ x0 4) ∧ (σ x0 4) < σ (-1) 0 ∧ σ (σ x0 4) (-1) = 1) (bnd (clR PG0 MX d 19 [vR (σ x0 4), vI x1] σ) (fun q1 => 
        some (q1.1, q1.2))) none) none)
        (some ((-1), σ))) none) none) :=
  blkE (cs := pgA_174) rfl [] 13 _ _ _ _
/-- OneAtATimeModel.undo()I -/
theorem ce_176 (d : Nat) (σ : HP) (x0 : Int) : clR PG0 MX (d + 1) 176 [vR x0] σ = rsP PG0 MX d 176 0 [vR x0, vU] [] σ := rfl
set_option maxRecDepth 100000 in
theorem sg_176_0 (d : Nat) (σ : HP) (x0 : Int) : rsP PG0 MX d 176 0 [vR x0, vU] [] σ =
    cnd (32 ≤ x0 ∧ x0 < σ (-1) 0 ∧ σ x0 (-1) = 9) (cnd (wr (σ x0 3) ≠ 0)
      (cnd (32 ≤ x0 ∧ x0 < σ (-1) 0 ∧ σ x0 (-1) = 9) (cnd (32 ≤ x0 ∧ x0 < σ (-1) 0 ∧ σ x0 (-1) = 9) (rsP PG0 MX d 176 21 [vR x0, vI 0] [] (up σ x0 3 ((σ x0 3) - 1))) none) none)
      (some ((-1), σ))) none :=
  blkE (cs := pgA_176) rfl [21] 13 _ _ _ _
set_option maxRecDepth 100000 in
theorem sg_176_21 (d : Nat) (σ : HP) (x0 x1 : Int) : rsP PG0 MX d 176 21 [vR x0, vI x1] [] σ =
    cnd (wr 783 ≤ wr x1)
      (cnd (32 ≤ x0 ∧ x0 < σ (-1) 0 ∧ σ x0 (-1) = 9) (some (σ x0 3, σ)) none)
      (cnd (32 ≤ x0 ∧ x0 < σ (-1) 0 ∧ σ x0 (-1) = 9) (cnd (32 ≤ x0 ∧ x0 < σ (-1) 0 ∧ σ x0 (-1) = 9) (cnd (32 ≤ x0 ∧ x0 < σ (-1) 0 ∧ σ x0 (-1) = 9) (cnd (0 < (σ x0 2) ∧ (σ x0 2) < σ (-1) 0 ∧ σ (σ x0 2) (-1) = 20 ∧ 0 ≤ wr ((783 * (σ x0 3)) + x1) ∧ wr ((783 * (σ x0 3)) + x1) < σ (σ x0 2) (-2)) (cnd (32 ≤ (σ x0 0) ∧ (σ x0 0) < σ (-1) 0 ∧ σ (σ x0 0) (-1) = 20 ∧ 0 ≤ wr x1 ∧ wr x1 < σ (σ x0 0) (-2)) (rsP PG0 MX d 176 21 [vR x0, vI (x1 + 1)] [] (up σ (σ x0 0) (wr x1) (σ (σ x0 2) (wr ((783 * (σ x0 3)) + x1))))) none) none) none) none) none) :=
  blkE (cs := pgA_176) rfl [21] 20 _ _ _ _
/-- OneAtATimeModel.drops(I)I -/
theorem ce_177 (d : Nat) (σ : HP) (x0 x1 : Int) : clR PG0 MX (d + 1) 177 [vR x0, vI x1] σ = rsP PG0 MX d 177 0 [vR x0, vI x1] [] σ := rfl
set_option maxRecDepth 100000 in
theorem sg_177_0 (d : Nat) (σ : HP) (x0 x1 : Int) : rsP PG0 MX d 177 0 [vR x0, vI x1] [] σ =
    bnd (clR PG0 MX d 178 [vI x1] σ) (fun q1 => 
    cnd (wr q1.1 ≠ 0)
        (cnd (0 < x0 ∧ x0 < q1.2 (-1) 0 ∧ q1.2 x0 (-1) = 9) (bnd (clR PG0 MX d 180 [vR x0, vI x1] q1.2) (fun q2 => 
        cnd (wr q2.1 ≠ 0)
            (cnd (32 ≤ x0 ∧ x0 < q2.2 (-1) 0 ∧ q2.2 x0 (-1) = 9) (cnd (0 < x0 ∧ x0 < (up q2.2 x0 5 0) (-1) 0 ∧ (up q2.2 x0 5 0) x0 (-1) = 9) (bnd (clR PG0 MX d 182 [vR x0, vI x1, vI 0, vI 0, vI 0, vI 0] (up q2.2 x0 5 0)) (fun q3 => 
            cnd (0 < x0 ∧ x0 < q3.2 (-1) 0 ∧ q3.2 x0 (-1) = 9) (bnd (clR PG0 MX d 184 [vR x0, vI 1] q3.2) (fun q4 => 
              some (q4.1, q4.2))) none)) none) none)
            (some (0, q2.2)))) none)
        (some ((-2), q1.2))) :=
  blkE (cs := pgA_177) rfl [] 22 _ _ _ _
/-- OneAtATimeModel.isSlot(I)Z -/
theorem ce_178 (d : Nat) (σ : HP) (x0 : Int) : clR PG0 MX (d + 1) 178 [vI x0] σ = rsP PG0 MX d 178 0 [vI x0] [] σ := rfl
set_option maxRecDepth 100000 in
theorem sg_178_0 (d : Nat) (σ : HP) (x0 : Int) : rsP PG0 MX d 178 0 [vI x0] [] σ =
    bnd (clR PG0 MX d 179 [vL (wr x0), vL 0, vL 2] σ) (fun q1 => 
    cnd (q1.1 = 0 ∨ q1.1 = 1) (some (q1.1, q1.2)) none) :=
  blkE (cs := pgA_178) rfl [] 7 _ _ _ _
/-- OneAtATimeModel.in(JJJ)Z -/
theorem ce_179 (d : Nat) (σ : HP) (x0 x2 x4 : Int) : clR PG0 MX (d + 1) 179 [vL x0, vL x2, vL x4] σ = rsP PG0 MX d 179 0 [vL x0, vU, vL x2, vU, vL x4, vU] [] σ := rfl
set_option maxRecDepth 100000 in
theorem sg_179_0 (d : Nat) (σ : HP) (x0 x2 x4 : Int) : rsP PG0 MX d 179 0 [vL x0, vU, vL x2, vU, vL x4, vU] [] σ =
    cnd (wr (l_cmp x0 x2) < 0)
      (some (0, σ))
      (cnd (0 < wr (l_cmp x0 x4))
        (some (0, σ))
        (some (1, σ))) :=
  blkE (cs := pgA_179) rfl [] 12 _ _ _ _
/-- OneAtATimeModel.isList(I)Z -/
theorem ce_180 (d : Nat) (σ : HP) (x0 x1 : Int) : clR PG0 MX (d + 1) 180 [vR x0, vI x1] σ = rsP PG0 MX d 180 0 [vR x0, vI x1] [] σ := rfl
set_option maxRecDepth 100000 in
theorem sg_180_0 (d : Nat) (σ : HP) (x0 x1 : Int) : rsP PG0 MX d 180 0 [vR x0, vI x1] [] σ =
    bnd (clR PG0 MX d 178 [vI x1] σ) (fun q1 => 
    cnd (wr q1.1 = 0)
        (some (0, q1.2))
        (cnd (0 < x0 ∧ x0 < q1.2 (-1) 0 ∧ q1.2 x0 (-1) = 9) (bnd (clR PG0 MX d 181 [vR x0, vI x1, vI 0] q1.2) (fun q2 => 
        cnd (wr q2.1 ≤ 0)
            (some (0, q2.2))
            (some (1, q2.2)))) none)) :=
  blkE (cs := pgA_180) rfl [] 12 _ _ _ _
