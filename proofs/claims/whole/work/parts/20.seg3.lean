/-- OneAtATimeModel.of(II)I -/
theorem ce_181 (d : Nat) (σ : HP) (x0 x1 x2 : Int) : clR PG0 MX (d + 1) 181 [vR x0, vI x1, vI x2] σ = rsP PG0 MX d 181 0 [vR x0, vI x1, vI x2] [] σ := rfl
set_option maxRecDepth 100000 in
theorem sg_181_0 (d : Nat) (σ : HP) (x0 x1 x2 : Int) : rsP PG0 MX d 181 0 [vR x0, vI x1, vI x2] [] σ =
    cnd (32 ≤ x0 ∧ x0 < σ (-1) 0 ∧ σ x0 (-1) = 9) (cnd (0 < (σ x0 0) ∧ (σ x0 0) < σ (-1) 0 ∧ σ (σ x0 0) (-1) = 20 ∧ 0 ≤ wr ((261 * x1) + x2) ∧ wr ((261 * x1) + x2) < σ (σ x0 0) (-2)) (some (σ (σ x0 0) (wr ((261 * x1) + x2)), σ)) none) none :=
  blkE (cs := pgA_181) rfl [] 10 _ _ _ _
/-- OneAtATimeModel.lays(IIIII)V -/
theorem ce_182 (d : Nat) (σ : HP) (x0 x1 x2 x3 x4 x5 : Int) : clR PG0 MX (d + 1) 182 [vR x0, vI x1, vI x2, vI x3, vI x4, vI x5] σ = rsP PG0 MX d 182 0 [vR x0, vI x1, vI x2, vI x3, vI x4, vI x5, vU] [] σ := rfl
set_option maxRecDepth 100000 in
theorem sg_182_0 (d : Nat) (σ : HP) (x0 x1 x2 x3 x4 x5 : Int) : rsP PG0 MX d 182 0 [vR x0, vI x1, vI x2, vI x3, vI x4, vI x5, vU] [] σ =
    cnd (0 < x0 ∧ x0 < σ (-1) 0 ∧ σ x0 (-1) = 9) (bnd (clR PG0 MX d 183 [vR x0] σ) (fun q1 => 
    cnd (32 ≤ x0 ∧ x0 < q1.2 (-1) 0 ∧ q1.2 x0 (-1) = 9) (cnd (32 ≤ (q1.2 x0 0) ∧ (q1.2 x0 0) < q1.2 (-1) 0 ∧ q1.2 (q1.2 x0 0) (-1) = 20 ∧ 0 ≤ wr ((261 * x1) + 0) ∧ wr ((261 * x1) + 0) < q1.2 (q1.2 x0 0) (-2)) (cnd (32 ≤ x0 ∧ x0 < (up q1.2 (q1.2 x0 0) (wr ((261 * x1) + 0)) x2) (-1) 0 ∧ (up q1.2 (q1.2 x0 0) (wr ((261 * x1) + 0)) x2) x0 (-1) = 9) (cnd (32 ≤ ((up q1.2 (q1.2 x0 0) (wr ((261 * x1) + 0)) x2) x0 0) ∧ ((up q1.2 (q1.2 x0 0) (wr ((261 * x1) + 0)) x2) x0 0) < (up q1.2 (q1.2 x0 0) (wr ((261 * x1) + 0)) x2) (-1) 0 ∧ (up q1.2 (q1.2 x0 0) (wr ((261 * x1) + 0)) x2) ((up q1.2 (q1.2 x0 0) (wr ((261 * x1) + 0)) x2) x0 0) (-1) = 20 ∧ 0 ≤ wr ((261 * x1) + 1) ∧ wr ((261 * x1) + 1) < (up q1.2 (q1.2 x0 0) (wr ((261 * x1) + 0)) x2) ((up q1.2 (q1.2 x0 0) (wr ((261 * x1) + 0)) x2) x0 0) (-2)) (rsP PG0 MX d 182 30 [vR x0, vI x1, vI x2, vI x3, vI x4, vI x5, vU] [] (up (up q1.2 (q1.2 x0 0) (wr ((261 * x1) + 0)) x2) ((up q1.2 (q1.2 x0 0) (wr ((261 * x1) + 0)) x2) x0 0) (wr ((261 * x1) + 1)) x3)) none) none) none) none)) none :=
  blkE (cs := pgA_182) rfl [30, 58, 77] 22 _ _ _ _
set_option maxRecDepth 100000 in
theorem sg_182_30 (d : Nat) (σ : HP) (x0 x1 x2 x3 x4 x5 : Int) (u6 : MV) : rsP PG0 MX d 182 30 [vR x0, vI x1, vI x2, vI x3, vI x4, vI x5, u6] [] σ =
    cnd (32 ≤ x0 ∧ x0 < σ (-1) 0 ∧ σ x0 (-1) = 9) (cnd (32 ≤ (σ x0 0) ∧ (σ x0 0) < σ (-1) 0 ∧ σ (σ x0 0) (-1) = 20 ∧ 0 ≤ wr ((261 * x1) + 2) ∧ wr ((261 * x1) + 2) < σ (σ x0 0) (-2)) (cnd (32 ≤ x0 ∧ x0 < (up σ (σ x0 0) (wr ((261 * x1) + 2)) x4) (-1) 0 ∧ (up σ (σ x0 0) (wr ((261 * x1) + 2)) x4) x0 (-1) = 9) (cnd (32 ≤ ((up σ (σ x0 0) (wr ((261 * x1) + 2)) x4) x0 0) ∧ ((up σ (σ x0 0) (wr ((261 * x1) + 2)) x4) x0 0) < (up σ (σ x0 0) (wr ((261 * x1) + 2)) x4) (-1) 0 ∧ (up σ (σ x0 0) (wr ((261 * x1) + 2)) x4) ((up σ (σ x0 0) (wr ((261 * x1) + 2)) x4) x0 0) (-1) = 20 ∧ 0 ≤ wr ((261 * x1) + 3) ∧ wr ((261 * x1) + 3) < (up σ (σ x0 0) (wr ((261 * x1) + 2)) x4) ((up σ (σ x0 0) (wr ((261 * x1) + 2)) x4) x0 0) (-2)) (rsP PG0 MX d 182 58 [vR x0, vI x1, vI x2, vI x3, vI x4, vI x5, u6] [] (up (up σ (σ x0 0) (wr ((261 * x1) + 2)) x4) ((up σ (σ x0 0) (wr ((261 * x1) + 2)) x4) x0 0) (wr ((261 * x1) + 3)) x5)) none) none) none) none :=
  blkE (cs := pgA_182) rfl [30, 58, 77] 20 _ _ _ _
set_option maxRecDepth 100000 in
theorem sg_182_58 (d : Nat) (σ : HP) (x0 x1 x2 x3 x4 x5 : Int) (u6 : MV) : rsP PG0 MX d 182 58 [vR x0, vI x1, vI x2, vI x3, vI x4, vI x5, u6] [] σ =
    cnd (32 ≤ x0 ∧ x0 < σ (-1) 0 ∧ σ x0 (-1) = 9) (cnd (32 ≤ x0 ∧ x0 < σ (-1) 0 ∧ σ x0 (-1) = 9) (cnd (32 ≤ (σ x0 0) ∧ (σ x0 0) < σ (-1) 0 ∧ σ (σ x0 0) (-1) = 20 ∧ 0 ≤ wr ((261 * x1) + 4) ∧ wr ((261 * x1) + 4) < σ (σ x0 0) (-2)) (rsP PG0 MX d 182 77 [vR x0, vI x1, vI x2, vI x3, vI x4, vI x5, vI 0] [] (up σ (σ x0 0) (wr ((261 * x1) + 4)) (σ x0 5))) none) none) none :=
  blkE (cs := pgA_182) rfl [30, 58, 77] 14 _ _ _ _
set_option maxRecDepth 100000 in
theorem sg_182_77 (d : Nat) (σ : HP) (x0 x1 x6 : Int) (u2 u3 u4 u5 : MV) : rsP PG0 MX d 182 77 [vR x0, vI x1, u2, u3, u4, u5, vI x6] [] σ =
    cnd (wr 256 ≤ wr x6)
      (some (0, σ))
      (cnd (32 ≤ x0 ∧ x0 < σ (-1) 0 ∧ σ x0 (-1) = 9) (cnd (32 ≤ x0 ∧ x0 < σ (-1) 0 ∧ σ x0 (-1) = 9) (cnd (wr (σ x0 5) ≤ wr x6)
        (cnd (32 ≤ (σ x0 0) ∧ (σ x0 0) < σ (-1) 0 ∧ σ (σ x0 0) (-1) = 20 ∧ 0 ≤ wr (((261 * x1) + 5) + x6) ∧ wr (((261 * x1) + 5) + x6) < σ (σ x0 0) (-2)) (rsP PG0 MX d 182 77 [vR x0, vI x1, vU, vU, vU, vU, vI (x6 + 1)] [] (up σ (σ x0 0) (wr (((261 * x1) + 5) + x6)) 0)) none)
        (cnd (32 ≤ x0 ∧ x0 < σ (-1) 0 ∧ σ x0 (-1) = 9) (cnd (0 < (σ x0 4) ∧ (σ x0 4) < σ (-1) 0 ∧ σ (σ x0 4) (-1) = 20 ∧ 0 ≤ wr x6 ∧ wr x6 < σ (σ x0 4) (-2)) (cnd (32 ≤ (σ x0 0) ∧ (σ x0 0) < σ (-1) 0 ∧ σ (σ x0 0) (-1) = 20 ∧ 0 ≤ wr (((261 * x1) + 5) + x6) ∧ wr (((261 * x1) + 5) + x6) < σ (σ x0 0) (-2)) (rsP PG0 MX d 182 77 [vR x0, vI x1, vU, vU, vU, vU, vI (x6 + 1)] [] (up σ (σ x0 0) (wr (((261 * x1) + 5) + x6)) (σ (σ x0 4) (wr x6)))) none) none) none)) none) none) :=
  blkE (cs := pgA_182) rfl [30, 58, 77] 26 _ _ _ _
/-- OneAtATimeModel.remembers()V -/
theorem ce_183 (d : Nat) (σ : HP) (x0 : Int) : clR PG0 MX (d + 1) 183 [vR x0] σ = rsP PG0 MX d 183 0 [vR x0, vU] [] σ := rfl
set_option maxRecDepth 100000 in
theorem sg_183_0 (d : Nat) (σ : HP) (x0 : Int) : rsP PG0 MX d 183 0 [vR x0, vU] [] σ =
    rsP PG0 MX d 183 2 [vR x0, vI 0] [] σ :=
  blkE (cs := pgA_183) rfl [2] 4 _ _ _ _
set_option maxRecDepth 100000 in
theorem sg_183_2 (d : Nat) (σ : HP) (x0 x1 : Int) : rsP PG0 MX d 183 2 [vR x0, vI x1] [] σ =
    cnd (wr 783 ≤ wr x1)
      (some (0, σ))
      (cnd (32 ≤ x0 ∧ x0 < σ (-1) 0 ∧ σ x0 (-1) = 9) (cnd (32 ≤ x0 ∧ x0 < σ (-1) 0 ∧ σ x0 (-1) = 9) (cnd (0 < (σ x0 0) ∧ (σ x0 0) < σ (-1) 0 ∧ σ (σ x0 0) (-1) = 20 ∧ 0 ≤ wr x1 ∧ wr x1 < σ (σ x0 0) (-2)) (cnd (32 ≤ (σ x0 1) ∧ (σ x0 1) < σ (-1) 0 ∧ σ (σ x0 1) (-1) = 20 ∧ 0 ≤ wr x1 ∧ wr x1 < σ (σ x0 1) (-2)) (rsP PG0 MX d 183 2 [vR x0, vI (x1 + 1)] [] (up σ (σ x0 1) (wr x1) (σ (σ x0 0) (wr x1)))) none) none) none) none) :=
  blkE (cs := pgA_183) rfl [2] 15 _ _ _ _
/-- OneAtATimeModel.keeps(I)I -/
theorem ce_184 (d : Nat) (σ : HP) (x0 x1 : Int) : clR PG0 MX (d + 1) 184 [vR x0, vI x1] σ = rsP PG0 MX d 184 0 [vR x0, vI x1, vU] [] σ := rfl
set_option maxRecDepth 100000 in
theorem sg_184_0 (d : Nat) (σ : HP) (x0 x1 : Int) : rsP PG0 MX d 184 0 [vR x0, vI x1, vU] [] σ =
    cnd (32 ≤ x0 ∧ x0 < σ (-1) 0 ∧ σ x0 (-1) = 9) (cnd (wr (σ x0 3) ≠ wr 10)
      (rsP PG0 MX d 184 52 [vR x0, vI x1, vI 0] [] σ)
      (rsP PG0 MX d 184 11 [vR x0, vI x1, vI 0] [] σ)) none :=
  blkE (cs := pgA_184) rfl [11, 52] 8 _ _ _ _
set_option maxRecDepth 100000 in
theorem sg_184_11 (d : Nat) (σ : HP) (x0 x1 x2 : Int) : rsP PG0 MX d 184 11 [vR x0, vI x1, vI x2] [] σ =
    cnd (wr 7047 ≤ wr x2)
      (cnd (32 ≤ x0 ∧ x0 < σ (-1) 0 ∧ σ x0 (-1) = 9) (cnd (32 ≤ x0 ∧ x0 < σ (-1) 0 ∧ σ x0 (-1) = 9) (rsP PG0 MX d 184 52 [vR x0, vI x1, vI 0] [] (up σ x0 3 ((σ x0 3) - 1))) none) none)
      (cnd (32 ≤ x0 ∧ x0 < σ (-1) 0 ∧ σ x0 (-1) = 9) (cnd (32 ≤ x0 ∧ x0 < σ (-1) 0 ∧ σ x0 (-1) = 9) (cnd (0 < (σ x0 2) ∧ (σ x0 2) < σ (-1) 0 ∧ σ (σ x0 2) (-1) = 20 ∧ 0 ≤ wr (x2 + 783) ∧ wr (x2 + 783) < σ (σ x0 2) (-2)) (cnd (32 ≤ (σ x0 2) ∧ (σ x0 2) < σ (-1) 0 ∧ σ (σ x0 2) (-1) = 20 ∧ 0 ≤ wr x2 ∧ wr x2 < σ (σ x0 2) (-2)) (rsP PG0 MX d 184 11 [vR x0, vI x1, vI (x2 + 1)] [] (up σ (σ x0 2) (wr x2) (σ (σ x0 2) (wr (x2 + 783))))) none) none) none) none) :=
  blkE (cs := pgA_184) rfl [11, 52] 17 _ _ _ _
set_option maxRecDepth 100000 in
theorem sg_184_52 (d : Nat) (σ : HP) (x0 x1 x2 : Int) : rsP PG0 MX d 184 52 [vR x0, vI x1, vI x2] [] σ =
    cnd (wr 783 ≤ wr x2)
      (cnd (32 ≤ x0 ∧ x0 < σ (-1) 0 ∧ σ x0 (-1) = 9) (cnd (32 ≤ x0 ∧ x0 < σ (-1) 0 ∧ σ x0 (-1) = 9) (some (x1, up σ x0 3 ((σ x0 3) + 1))) none) none)
      (cnd (32 ≤ x0 ∧ x0 < σ (-1) 0 ∧ σ x0 (-1) = 9) (cnd (32 ≤ x0 ∧ x0 < σ (-1) 0 ∧ σ x0 (-1) = 9) (cnd (32 ≤ x0 ∧ x0 < σ (-1) 0 ∧ σ x0 (-1) = 9) (cnd (0 < (σ x0 1) ∧ (σ x0 1) < σ (-1) 0 ∧ σ (σ x0 1) (-1) = 20 ∧ 0 ≤ wr x2 ∧ wr x2 < σ (σ x0 1) (-2)) (cnd (32 ≤ (σ x0 2) ∧ (σ x0 2) < σ (-1) 0 ∧ σ (σ x0 2) (-1) = 20 ∧ 0 ≤ wr ((783 * (σ x0 3)) + x2) ∧ wr ((783 * (σ x0 3)) + x2) < σ (σ x0 2) (-2)) (rsP PG0 MX d 184 52 [vR x0, vI x1, vI (x2 + 1)] [] (up σ (σ x0 2) (wr ((783 * (σ x0 3)) + x2)) (σ (σ x0 1) (wr x2)))) none) none) none) none) none) :=
  blkE (cs := pgA_184) rfl [11, 52] 20 _ _ _ _
/-- OneAtATimeModel.feed(IIIII)I -/
theorem ce_185 (d : Nat) (σ : HP) (x0 x1 x2 x3 x4 x5 : Int) : clR PG0 MX (d + 1) 185 [vR x0, vI x1, vI x2, vI x3, vI x4, vI x5] σ = rsP PG0 MX d 185 0 [vR x0, vI x1, vI x2, vI x3, vI x4, vI x5, vU, vU] [] σ := rfl
set_option maxRecDepth 100000 in
theorem sg_185_0 (d : Nat) (σ : HP) (x0 x1 x2 x3 x4 x5 : Int) : rsP PG0 MX d 185 0 [vR x0, vI x1, vI x2, vI x3, vI x4, vI x5, vU, vU] [] σ =
    cnd (32 ≤ x0 ∧ x0 < σ (-1) 0 ∧ σ x0 (-1) = 9) (cnd (wr (σ x0 7) ≤ wr 380)
      (cnd (0 ≤ wr 5 ∧ wr 5 ≤ 100000) (cnd (32 ≤ (σ (-1) 0) ∧ (σ (-1) 0) < (newA σ 20 (wr 5)) (-1) 0 ∧ (newA σ 20 (wr 5)) (σ (-1) 0) (-1) = 20 ∧ 0 ≤ wr 0 ∧ wr 0 < (newA σ 20 (wr 5)) (σ (-1) 0) (-2)) (cnd (32 ≤ (σ (-1) 0) ∧ (σ (-1) 0) < (up (newA σ 20 (wr 5)) (σ (-1) 0) (wr 0) x1) (-1) 0 ∧ (up (newA σ 20 (wr 5)) (σ (-1) 0) (wr 0) x1) (σ (-1) 0) (-1) = 20 ∧ 0 ≤ wr 1 ∧ wr 1 < (up (newA σ 20 (wr 5)) (σ (-1) 0) (wr 0) x1) (σ (-1) 0) (-2)) (cnd (32 ≤ (σ (-1) 0) ∧ (σ (-1) 0) < (up (up (newA σ 20 (wr 5)) (σ (-1) 0) (wr 0) x1) (σ (-1) 0) (wr 1) x2) (-1) 0 ∧ (up (up (newA σ 20 (wr 5)) (σ (-1) 0) (wr 0) x1) (σ (-1) 0) (wr 1) x2) (σ (-1) 0) (-1) = 20 ∧ 0 ≤ wr 2 ∧ wr 2 < (up (up (newA σ 20 (wr 5)) (σ (-1) 0) (wr 0) x1) (σ (-1) 0) (wr 1) x2) (σ (-1) 0) (-2)) (cnd (32 ≤ (σ (-1) 0) ∧ (σ (-1) 0) < (up (up (up (newA σ 20 (wr 5)) (σ (-1) 0) (wr 0) x1) (σ (-1) 0) (wr 1) x2) (σ (-1) 0) (wr 2) x3) (-1) 0 ∧ (up (up (up (newA σ 20 (wr 5)) (σ (-1) 0) (wr 0) x1) (σ (-1) 0) (wr 1) x2) (σ (-1) 0) (wr 2) x3) (σ (-1) 0) (-1) = 20 ∧ 0 ≤ wr 3 ∧ wr 3 < (up (up (up (newA σ 20 (wr 5)) (σ (-1) 0) (wr 0) x1) (σ (-1) 0) (wr 1) x2) (σ (-1) 0) (wr 2) x3) (σ (-1) 0) (-2)) (cnd (32 ≤ (σ (-1) 0) ∧ (σ (-1) 0) < (up (up (up (up (newA σ 20 (wr 5)) (σ (-1) 0) (wr 0) x1) (σ (-1) 0) (wr 1) x2) (σ (-1) 0) (wr 2) x3) (σ (-1) 0) (wr 3) x4) (-1) 0 ∧ (up (up (up (up (newA σ 20 (wr 5)) (σ (-1) 0) (wr 0) x1) (σ (-1) 0) (wr 1) x2) (σ (-1) 0) (wr 2) x3) (σ (-1) 0) (wr 3) x4) (σ (-1) 0) (-1) = 20 ∧ 0 ≤ wr 4 ∧ wr 4 < (up (up (up (up (newA σ 20 (wr 5)) (σ (-1) 0) (wr 0) x1) (σ (-1) 0) (wr 1) x2) (σ (-1) 0) (wr 2) x3) (σ (-1) 0) (wr 3) x4) (σ (-1) 0) (-2)) (rsP PG0 MX d 185 39 [vR x0, vI x1, vI x2, vI x3, vI x4, vI x5, vR (σ (-1) 0), vU] [] (up (up (up (up (up (newA σ 20 (wr 5)) (σ (-1) 0) (wr 0) x1) (σ (-1) 0) (wr 1) x2) (σ (-1) 0) (wr 2) x3) (σ (-1) 0) (wr 3) x4) (σ (-1) 0) (wr 4) x5)) none) none) none) none) none) none)
      (some ((-1), σ))) none :=
  blkE (cs := pgA_185) rfl [39, 42, 83] 29 _ _ _ _
set_option maxRecDepth 100000 in
theorem sg_185_39 (d : Nat) (σ : HP) (x0 x1 x2 x3 x4 x5 x6 : Int) (u7 : MV) : rsP PG0 MX d 185 39 [vR x0, vI x1, vI x2, vI x3, vI x4, vI x5, vR x6, u7] [] σ =
    rsP PG0 MX d 185 42 [vR x0, vI x1, vI x2, vI x3, vI x4, vI x5, vR x6, vI 0] [] σ :=
  blkE (cs := pgA_185) rfl [39, 42, 83] 4 _ _ _ _
set_option maxRecDepth 100000 in
theorem sg_185_42 (d : Nat) (σ : HP) (x0 x6 x7 : Int) (u1 u2 u3 u4 u5 : MV) : rsP PG0 MX d 185 42 [vR x0, u1, u2, u3, u4, u5, vR x6, vI x7] [] σ =
    cnd (wr 20 ≤ wr x7)
      (cnd (32 ≤ x0 ∧ x0 < σ (-1) 0 ∧ σ x0 (-1) = 9) (cnd (32 ≤ x0 ∧ x0 < σ (-1) 0 ∧ σ x0 (-1) = 9) (cnd (32 ≤ x0 ∧ x0 < (up σ x0 7 ((σ x0 7) + 20)) (-1) 0 ∧ (up σ x0 7 ((σ x0 7) + 20)) x0 (-1) = 9) (some ((up σ x0 7 ((σ x0 7) + 20)) x0 7, up σ x0 7 ((σ x0 7) + 20))) none) none) none)
      (cnd (32 ≤ x0 ∧ x0 < σ (-1) 0 ∧ σ x0 (-1) = 9) (cnd (32 ≤ x0 ∧ x0 < σ (-1) 0 ∧ σ x0 (-1) = 9) (cnd (wr 4 ≠ 0) (cnd (0 < x6 ∧ x6 < σ (-1) 0 ∧ σ x6 (-1) = 20 ∧ 0 ≤ wr (i_div x7 4) ∧ wr (i_div x7 4) < σ x6 (-2)) (cnd (wr 4 ≠ 0) (cnd (32 ≤ (σ x0 6) ∧ (σ x0 6) < σ (-1) 0 ∧ σ (σ x0 6) (-1) = 20 ∧ 0 ≤ wr ((σ x0 7) + x7) ∧ wr ((σ x0 7) + x7) < σ (σ x0 6) (-2)) (rsP PG0 MX d 185 83 [vR x0, vU, vU, vU, vU, vU, vR x6, vI x7] [] (up σ (σ x0 6) (wr ((σ x0 7) + x7)) (i_and (i_ushr (σ x6 (wr (i_div x7 4))) (24 - (8 * (i_rem x7 4)))) 255))) none) none) none) none) none) none) :=
  blkE (cs := pgA_185) rfl [39, 42, 83] 27 _ _ _ _
set_option maxRecDepth 100000 in
theorem sg_185_83 (d : Nat) (σ : HP) (x0 x6 x7 : Int) (u1 u2 u3 u4 u5 : MV) : rsP PG0 MX d 185 83 [vR x0, u1, u2, u3, u4, u5, vR x6, vI x7] [] σ =
    rsP PG0 MX d 185 42 [vR x0, u1, u2, u3, u4, u5, vR x6, vI (x7 + 1)] [] σ :=
  blkE (cs := pgA_185) rfl [39, 42, 83] 4 _ _ _ _
/-- OneAtATimeModel.end(I)I -/
theorem ce_186 (d : Nat) (σ : HP) (x0 x1 : Int) : clR PG0 MX (d + 1) 186 [vR x0, vI x1] σ = rsP PG0 MX d 186 0 [vR x0, vI x1] [] σ := rfl
set_option maxRecDepth 100000 in
theorem sg_186_0 (d : Nat) (σ : HP) (x0 x1 : Int) : rsP PG0 MX d 186 0 [vR x0, vI x1] [] σ =
    cnd (32 ≤ x0 ∧ x0 < σ (-1) 0 ∧ σ x0 (-1) = 9) (bnd (clR PG0 MX d 179 [vL (wr x1), vL 0, vL (wr (σ x0 7))] σ) (fun q1 => 
    cnd (wr q1.1 ≠ 0)
        (cnd (32 ≤ x0 ∧ x0 < q1.2 (-1) 0 ∧ q1.2 x0 (-1) = 9) (some (x1, up q1.2 x0 7 x1)) none)
        (some ((-1), q1.2)))) none :=
  blkE (cs := pgA_186) rfl [] 14 _ _ _ _
/-- OneAtATimeModel.told(I)I -/
theorem ce_187 (d : Nat) (σ : HP) (x0 x1 : Int) : clR PG0 MX (d + 1) 187 [vR x0, vI x1] σ = rsP PG0 MX d 187 0 [vR x0, vI x1, vU, vU, vU, vU] [] σ := rfl
set_option maxRecDepth 100000 in
theorem sg_187_0 (d : Nat) (σ : HP) (x0 x1 : Int) : rsP PG0 MX d 187 0 [vR x0, vI x1, vU, vU, vU, vU] [] σ =
    bnd (clR PG0 MX d 178 [vI x1] σ) (fun q1 => 
    cnd (wr q1.1 ≠ 0)
        (cnd (32 ≤ x0 ∧ x0 < q1.2 (-1) 0 ∧ q1.2 x0 (-1) = 9) (cnd (32 ≤ x0 ∧ x0 < (up q1.2 x0 8 0) (-1) 0 ∧ (up q1.2 x0 8 0) x0 (-1) = 9) (cnd (32 ≤ x0 ∧ x0 < (up (up q1.2 x0 8 0) x0 9 ((-1))) (-1) 0 ∧ (up (up q1.2 x0 8 0) x0 9 ((-1))) x0 (-1) = 9) (cnd (32 ≤ x0 ∧ x0 < (up (up (up q1.2 x0 8 0) x0 9 ((-1))) x0 14 0) (-1) 0 ∧ (up (up (up q1.2 x0 8 0) x0 9 ((-1))) x0 14 0) x0 (-1) = 9) (cnd (0 < x0 ∧ x0 < (up (up (up (up q1.2 x0 8 0) x0 9 ((-1))) x0 14 0) x0 10 0) (-1) 0 ∧ (up (up (up (up q1.2 x0 8 0) x0 9 ((-1))) x0 14 0) x0 10 0) x0 (-1) = 9) (bnd (clR PG0 MX d 188 [vR x0] (up (up (up (up q1.2 x0 8 0) x0 9 ((-1))) x0 14 0) x0 10 0)) (fun q2 => 
        cnd (0 < x0 ∧ x0 < q2.2 (-1) 0 ∧ q2.2 x0 (-1) = 9) (bnd (clR PG0 MX d 190 [vR x0, vR 7] q2.2) (fun q3 => 
          cnd (0 < x0 ∧ x0 < q3.2 (-1) 0 ∧ q3.2 x0 (-1) = 9) (bnd (clR PG0 MX d 191 [vR x0, vI q3.1] q3.2) (fun q4 => 
            rsP PG0 MX d 187 44 [vR x0, vI x1, vU, vU, vU, vU] [] q4.2)) none)) none)) none) none) none) none) none)
        (some ((-2), q1.2))) :=
  blkE (cs := pgA_187) rfl [44, 77, 95, 123, 149, 154] 24 _ _ _ _
set_option maxRecDepth 100000 in
theorem sg_187_44 (d : Nat) (σ : HP) (x0 x1 : Int) (u2 u3 u4 u5 : MV) : rsP PG0 MX d 187 44 [vR x0, vI x1, u2, u3, u4, u5] [] σ =
    cnd (0 < x0 ∧ x0 < σ (-1) 0 ∧ σ x0 (-1) = 9) (bnd (clR PG0 MX d 193 [vR x0, vI 1, vI 8] σ) (fun q1 => 
    cnd (0 < x0 ∧ x0 < q1.2 (-1) 0 ∧ q1.2 x0 (-1) = 9) (bnd (clR PG0 MX d 190 [vR x0, vR 9] q1.2) (fun q2 => 
      cnd (wr q2.1 = 0)
          (rsP PG0 MX d 187 95 [vR x0, vI x1, vI q1.1, vI 0, vI q1.1, u5] [] q2.2)
          (cnd (0 < x0 ∧ x0 < q2.2 (-1) 0 ∧ q2.2 x0 (-1) = 9) (bnd (clR PG0 MX d 188 [vR x0] q2.2) (fun q3 => 
          cnd (0 < x0 ∧ x0 < q3.2 (-1) 0 ∧ q3.2 x0 (-1) = 9) (bnd (clR PG0 MX d 193 [vR x0, vI 0, vI q1.1] q3.2) (fun q4 => 
            rsP PG0 MX d 187 77 [vR x0, vI x1, vI q1.1, vI q4.1, vI q1.1, u5] [] q4.2)) none)) none))) none)) none :=
  blkE (cs := pgA_187) rfl [44, 77, 95, 123, 149, 154] 22 _ _ _ _
set_option maxRecDepth 100000 in
theorem sg_187_77 (d : Nat) (σ : HP) (x0 x1 x2 x3 x4 : Int) (u5 : MV) : rsP PG0 MX d 187 77 [vR x0, vI x1, vI x2, vI x3, vI x4, u5] [] σ =
    cnd (0 < x0 ∧ x0 < σ (-1) 0 ∧ σ x0 (-1) = 9) (bnd (clR PG0 MX d 190 [vR x0, vR 11] σ) (fun q1 => 
    cnd (0 < x0 ∧ x0 < q1.2 (-1) 0 ∧ q1.2 x0 (-1) = 9) (bnd (clR PG0 MX d 191 [vR x0, vI q1.1] q1.2) (fun q2 => 
      cnd (0 < x0 ∧ x0 < q2.2 (-1) 0 ∧ q2.2 x0 (-1) = 9) (bnd (clR PG0 MX d 193 [vR x0, vI x3, vI x2] q2.2) (fun q3 => 
        rsP PG0 MX d 187 95 [vR x0, vI x1, vI x2, vI x3, vI q3.1, u5] [] q3.2)) none)) none)) none :=
  blkE (cs := pgA_187) rfl [44, 77, 95, 123, 149, 154] 12 _ _ _ _
set_option maxRecDepth 100000 in
theorem sg_187_95 (d : Nat) (σ : HP) (x0 x1 x2 x3 x4 : Int) (u5 : MV) : rsP PG0 MX d 187 95 [vR x0, vI x1, vI x2, vI x3, vI x4, u5] [] σ =
    cnd (0 < x0 ∧ x0 < σ (-1) 0 ∧ σ x0 (-1) = 9) (bnd (clR PG0 MX d 190 [vR x0, vR 10] σ) (fun q1 => 
    cnd (0 < x0 ∧ x0 < q1.2 (-1) 0 ∧ q1.2 x0 (-1) = 9) (bnd (clR PG0 MX d 191 [vR x0, vI q1.1] q1.2) (fun q2 => 
      cnd (0 < x0 ∧ x0 < q2.2 (-1) 0 ∧ q2.2 x0 (-1) = 9) (bnd (clR PG0 MX d 193 [vR x0, vI 0, vI ((i_shl 1 x2) - 1)] q2.2) (fun q3 => 
        cnd (0 < x0 ∧ x0 < q3.2 (-1) 0 ∧ q3.2 x0 (-1) = 9) (bnd (clR PG0 MX d 194 [vR x0, vI 58] q3.2) (fun q4 => 
          rsP PG0 MX d 187 123 [vR x0, vI x1, vI x2, vI x3, vI x4, vI q3.1] [] q4.2)) none)) none)) none)) none :=
  blkE (cs := pgA_187) rfl [44, 77, 95, 123, 149, 154] 19 _ _ _ _
set_option maxRecDepth 100000 in
theorem sg_187_123 (d : Nat) (σ : HP) (x0 x1 x2 x3 x4 x5 : Int) : rsP PG0 MX d 187 123 [vR x0, vI x1, vI x2, vI x3, vI x4, vI x5] [] σ =
    cnd (0 < x0 ∧ x0 < σ (-1) 0 ∧ σ x0 (-1) = 9) (bnd (clR PG0 MX d 195 [vR x0, vI x2] σ) (fun q1 => 
    cnd (0 < x0 ∧ x0 < q1.2 (-1) 0 ∧ q1.2 x0 (-1) = 9) (bnd (clR PG0 MX d 194 [vR x0, vI 59] q1.2) (fun q2 => 
      cnd (32 ≤ x0 ∧ x0 < q2.2 (-1) 0 ∧ q2.2 x0 (-1) = 9) (cnd (wr (q2.2 x0 14) ≠ 0)
          (rsP PG0 MX d 187 149 [vR x0, vI x1, vI x2, vI x3, vI x4, vI x5] [vR x0] q2.2)
          (cnd (32 ≤ x0 ∧ x0 < q2.2 (-1) 0 ∧ q2.2 x0 (-1) = 9) (cnd (wr (q2.2 x0 12) ≠ 0)
            (rsP PG0 MX d 187 154 [vR x0, vI x1, vI x2, vI x3, vI x4, vI x5] [vI 0, vR x0] q2.2)
            (rsP PG0 MX d 187 149 [vR x0, vI x1, vI x2, vI x3, vI x4, vI x5] [vR x0] q2.2)) none)) none)) none)) none :=
  blkE (cs := pgA_187) rfl [44, 77, 95, 123, 149, 154] 16 _ _ _ _
set_option maxRecDepth 100000 in
theorem sg_187_149 (d : Nat) (σ : HP) (x0 x1 x2 x3 x4 x5 y0 : Int) : rsP PG0 MX d 187 149 [vR x0, vI x1, vI x2, vI x3, vI x4, vI x5] [vR y0] σ =
    rsP PG0 MX d 187 154 [vR x0, vI x1, vI x2, vI x3, vI x4, vI x5] [vI 1, vR y0] σ :=
  blkE (cs := pgA_187) rfl [44, 77, 95, 123, 149, 154] 4 _ _ _ _
set_option maxRecDepth 100000 in
theorem sg_187_154 (d : Nat) (σ : HP) (x0 x1 x2 x3 x4 x5 y0 y1 : Int) : rsP PG0 MX d 187 154 [vR x0, vI x1, vI x2, vI x3, vI x4, vI x5] [vI y1, vR y0] σ =
    cnd (0 < y0 ∧ y0 < σ (-1) 0 ∧ σ y0 (-1) = 9) (bnd (clR PG0 MX d 191 [vR y0, vI y1] σ) (fun q1 => 
    cnd (32 ≤ x0 ∧ x0 < q1.2 (-1) 0 ∧ q1.2 x0 (-1) = 9) (cnd (32 ≤ x0 ∧ x0 < (up q1.2 x0 7 0) (-1) 0 ∧ (up q1.2 x0 7 0) x0 (-1) = 9) (cnd (wr ((up q1.2 x0 7 0) x0 14) = 0)
        (cnd (0 < x0 ∧ x0 < (up q1.2 x0 7 0) (-1) 0 ∧ (up q1.2 x0 7 0) x0 (-1) = 9) (bnd (clR PG0 MX d 182 [vR x0, vI x1, vI x2, vI x3, vI x4, vI x5] (up q1.2 x0 7 0)) (fun q2 => 
        cnd (32 ≤ x0 ∧ x0 < q2.2 (-1) 0 ∧ q2.2 x0 (-1) = 9) (cnd (0 < x0 ∧ x0 < q2.2 (-1) 0 ∧ q2.2 x0 (-1) = 9) (bnd (clR PG0 MX d 197 [vR x0, vI (q2.2 x0 5)] q2.2) (fun q3 => 
          some (q3.1, q3.2))) none) none)) none)
        (some ((-4), up q1.2 x0 7 0))) none) none)) none :=
  blkE (cs := pgA_187) rfl [44, 77, 95, 123, 149, 154] 20 _ _ _ _
/-- OneAtATimeModel.next()V -/
theorem ce_188 (d : Nat) (σ : HP) (x0 : Int) : clR PG0 MX (d + 1) 188 [vR x0] σ = rsP PG0 MX d 188 0 [vR x0] [] σ := rfl
set_option maxRecDepth 100000 in
theorem sg_188_0 (d : Nat) (σ : HP) (x0 : Int) : rsP PG0 MX d 188 0 [vR x0] [] σ =
    cnd (0 < x0 ∧ x0 < σ (-1) 0 ∧ σ x0 (-1) = 9) (bnd (clR PG0 MX d 189 [vR x0, vI 32, vI 32] σ) (fun q1 => 
    cnd (wr q1.1 ≠ 0)
        (rsP PG0 MX d 188 22 [vR x0] [] q1.2)
        (cnd (0 < x0 ∧ x0 < q1.2 (-1) 0 ∧ q1.2 x0 (-1) = 9) (bnd (clR PG0 MX d 189 [vR x0, vI 10, vI 10] q1.2) (fun q2 => 
        cnd (wr q2.1 = 0)
            (cnd (32 ≤ x0 ∧ x0 < q2.2 (-1) 0 ∧ q2.2 x0 (-1) = 9) (cnd (32 ≤ x0 ∧ x0 < q2.2 (-1) 0 ∧ q2.2 x0 (-1) = 9) (cnd (32 ≤ x0 ∧ x0 < (up q2.2 x0 11 (q2.2 x0 10)) (-1) 0 ∧ (up q2.2 x0 11 (q2.2 x0 10)) x0 (-1) = 9) (cnd (32 ≤ x0 ∧ x0 < (up (up q2.2 x0 11 (q2.2 x0 10)) x0 13 0) (-1) 0 ∧ (up (up q2.2 x0 11 (q2.2 x0 10)) x0 13 0) x0 (-1) = 9) (cnd (32 ≤ x0 ∧ x0 < (up (up q2.2 x0 11 (q2.2 x0 10)) x0 13 0) (-1) 0 ∧ (up (up q2.2 x0 11 (q2.2 x0 10)) x0 13 0) x0 (-1) = 9) (cnd (wr ((up (up q2.2 x0 11 (q2.2 x0 10)) x0 13 0) x0 10) ≠ wr ((up (up q2.2 x0 11 (q2.2 x0 10)) x0 13 0) x0 7))
              (cnd (0 < x0 ∧ x0 < (up (up q2.2 x0 11 (q2.2 x0 10)) x0 13 0) (-1) 0 ∧ (up (up q2.2 x0 11 (q2.2 x0 10)) x0 13 0) x0 (-1) = 9) (bnd (clR PG0 MX d 189 [vR x0, vI 97, vI 122] (up (up q2.2 x0 11 (q2.2 x0 10)) x0 13 0)) (fun q3 => 
              cnd (wr q3.1 = 0)
                  (cnd (0 < x0 ∧ x0 < q3.2 (-1) 0 ∧ q3.2 x0 (-1) = 9) (bnd (clR PG0 MX d 189 [vR x0, vI 48, vI 57] q3.2) (fun q4 => 
                  cnd (wr q4.1 = 0)
                      (rsP PG0 MX d 188 177 [vR x0] [] q4.2)
                      (rsP PG0 MX d 188 118 [vR x0] [] q4.2))) none)
                  (cnd (32 ≤ x0 ∧ x0 < q3.2 (-1) 0 ∧ q3.2 x0 (-1) = 9) (rsP PG0 MX d 188 83 [vR x0] [] (up q3.2 x0 12 1)) none))) none)
              (cnd (32 ≤ x0 ∧ x0 < (up (up q2.2 x0 11 (q2.2 x0 10)) x0 13 0) (-1) 0 ∧ (up (up q2.2 x0 11 (q2.2 x0 10)) x0 13 0) x0 (-1) = 9) (some (0, up (up (up q2.2 x0 11 (q2.2 x0 10)) x0 13 0) x0 12 0)) none)) none) none) none) none) none)
            (rsP PG0 MX d 188 22 [vR x0] [] q2.2))) none))) none :=
  blkE (cs := pgA_188) rfl [0, 22, 83, 118, 123, 177] 34 _ _ _ _
set_option maxRecDepth 100000 in
theorem sg_188_22 (d : Nat) (σ : HP) (x0 : Int) : rsP PG0 MX d 188 22 [vR x0] [] σ =
    cnd (32 ≤ x0 ∧ x0 < σ (-1) 0 ∧ σ x0 (-1) = 9) (cnd (32 ≤ x0 ∧ x0 < σ (-1) 0 ∧ σ x0 (-1) = 9) (rsP PG0 MX d 188 0 [vR x0] [] (up σ x0 10 ((σ x0 10) + 1))) none) none :=
  blkE (cs := pgA_188) rfl [0, 22, 83, 118, 123, 177] 9 _ _ _ _
set_option maxRecDepth 100000 in
theorem sg_188_83 (d : Nat) (σ : HP) (x0 : Int) : rsP PG0 MX d 188 83 [vR x0] [] σ =
    cnd (0 < x0 ∧ x0 < σ (-1) 0 ∧ σ x0 (-1) = 9) (bnd (clR PG0 MX d 189 [vR x0, vI 97, vI 122] σ) (fun q1 => 
    cnd (wr q1.1 = 0)
        (some (0, q1.2))
        (cnd (32 ≤ x0 ∧ x0 < q1.2 (-1) 0 ∧ q1.2 x0 (-1) = 9) (cnd (32 ≤ x0 ∧ x0 < q1.2 (-1) 0 ∧ q1.2 x0 (-1) = 9) (rsP PG0 MX d 188 83 [vR x0] [] (up q1.2 x0 10 ((q1.2 x0 10) + 1))) none) none))) none :=
  blkE (cs := pgA_188) rfl [0, 22, 83, 118, 123, 177] 14 _ _ _ _
set_option maxRecDepth 100000 in
theorem sg_188_118 (d : Nat) (σ : HP) (x0 : Int) : rsP PG0 MX d 188 118 [vR x0] [] σ =
    cnd (32 ≤ x0 ∧ x0 < σ (-1) 0 ∧ σ x0 (-1) = 9) (rsP PG0 MX d 188 123 [vR x0] [] (up σ x0 12 2)) none :=
  blkE (cs := pgA_188) rfl [0, 22, 83, 118, 123, 177] 5 _ _ _ _
set_option maxRecDepth 100000 in
theorem sg_188_123 (d : Nat) (σ : HP) (x0 : Int) : rsP PG0 MX d 188 123 [vR x0] [] σ =
    cnd (0 < x0 ∧ x0 < σ (-1) 0 ∧ σ x0 (-1) = 9) (bnd (clR PG0 MX d 189 [vR x0, vI 48, vI 57] σ) (fun q1 => 
    cnd (wr q1.1 = 0)
        (some (0, q1.2))
        (cnd (32 ≤ x0 ∧ x0 < q1.2 (-1) 0 ∧ q1.2 x0 (-1) = 9) (cnd (32 ≤ x0 ∧ x0 < q1.2 (-1) 0 ∧ q1.2 x0 (-1) = 9) (cnd (32 ≤ x0 ∧ x0 < q1.2 (-1) 0 ∧ q1.2 x0 (-1) = 9) (cnd (0 < (q1.2 x0 6) ∧ (q1.2 x0 6) < q1.2 (-1) 0 ∧ q1.2 (q1.2 x0 6) (-1) = 20 ∧ 0 ≤ wr (q1.2 x0 10) ∧ wr (q1.2 x0 10) < q1.2 (q1.2 x0 6) (-2)) (bnd (clR PG0 MX d 1005 [vI 1000, vI (((10 * (q1.2 x0 13)) + (q1.2 (q1.2 x0 6) (wr (q1.2 x0 10)))) - 48)] q1.2) (fun q2 => 
        cnd (32 ≤ x0 ∧ x0 < q2.2 (-1) 0 ∧ q2.2 x0 (-1) = 9) (cnd (32 ≤ x0 ∧ x0 < (up q2.2 x0 13 q2.1) (-1) 0 ∧ (up q2.2 x0 13 q2.1) x0 (-1) = 9) (cnd (32 ≤ x0 ∧ x0 < (up q2.2 x0 13 q2.1) (-1) 0 ∧ (up q2.2 x0 13 q2.1) x0 (-1) = 9) (rsP PG0 MX d 188 123 [vR x0] [] (up (up q2.2 x0 13 q2.1) x0 10 (((up q2.2 x0 13 q2.1) x0 10) + 1))) none) none) none)) none) none) none) none))) none :=
  blkE (cs := pgA_188) rfl [0, 22, 83, 118, 123, 177] 30 _ _ _ _
set_option maxRecDepth 100000 in
theorem sg_188_177 (d : Nat) (σ : HP) (x0 : Int) : rsP PG0 MX d 188 177 [vR x0] [] σ =
    cnd (32 ≤ x0 ∧ x0 < σ (-1) 0 ∧ σ x0 (-1) = 9) (cnd (32 ≤ x0 ∧ x0 < (up σ x0 12 3) (-1) 0 ∧ (up σ x0 12 3) x0 (-1) = 9) (cnd (32 ≤ x0 ∧ x0 < (up σ x0 12 3) (-1) 0 ∧ (up σ x0 12 3) x0 (-1) = 9) (some (0, up (up σ x0 12 3) x0 10 (((up σ x0 12 3) x0 10) + 1))) none) none) none :=
  blkE (cs := pgA_188) rfl [0, 22, 83, 118, 123, 177] 11 _ _ _ _
/-- OneAtATimeModel.isAt(II)Z -/
theorem ce_189 (d : Nat) (σ : HP) (x0 x1 x2 : Int) : clR PG0 MX (d + 1) 189 [vR x0, vI x1, vI x2] σ = rsP PG0 MX d 189 0 [vR x0, vI x1, vI x2] [] σ := rfl
set_option maxRecDepth 100000 in
theorem sg_189_0 (d : Nat) (σ : HP) (x0 x1 x2 : Int) : rsP PG0 MX d 189 0 [vR x0, vI x1, vI x2] [] σ =
    cnd (32 ≤ x0 ∧ x0 < σ (-1) 0 ∧ σ x0 (-1) = 9) (cnd (32 ≤ x0 ∧ x0 < σ (-1) 0 ∧ σ x0 (-1) = 9) (cnd (wr (σ x0 7) ≤ wr (σ x0 10))
      (some (0, σ))
      (cnd (32 ≤ x0 ∧ x0 < σ (-1) 0 ∧ σ x0 (-1) = 9) (cnd (32 ≤ x0 ∧ x0 < σ (-1) 0 ∧ σ x0 (-1) = 9) (cnd (0 < (σ x0 6) ∧ (σ x0 6) < σ (-1) 0 ∧ σ (σ x0 6) (-1) = 20 ∧ 0 ≤ wr (σ x0 10) ∧ wr (σ x0 10) < σ (σ x0 6) (-2)) (bnd (clR PG0 MX d 179 [vL (wr (σ (σ x0 6) (wr (σ x0 10)))), vL (wr x1), vL (wr x2)] σ) (fun q1 => 
      cnd (wr q1.1 = 0)
          (some (0, q1.2))
          (some (1, q1.2)))) none) none) none)) none) none :=
  blkE (cs := pgA_189) rfl [] 21 _ _ _ _
/-- OneAtATimeModel.isWord(Ljava/lang/String;)Z -/
theorem ce_190 (d : Nat) (σ : HP) (x0 x1 : Int) : clR PG0 MX (d + 1) 190 [vR x0, vR x1] σ = rsP PG0 MX d 190 0 [vR x0, vR x1, vU, vU] [] σ := rfl
set_option maxRecDepth 100000 in
theorem sg_190_0 (d : Nat) (σ : HP) (x0 x1 : Int) : rsP PG0 MX d 190 0 [vR x0, vR x1, vU, vU] [] σ =
    cnd (32 ≤ x0 ∧ x0 < σ (-1) 0 ∧ σ x0 (-1) = 9) (cnd (wr (σ x0 14) ≠ 0)
      (rsP PG0 MX d 190 39 [vR x0, vR x1, vI 0, vI 0] [] σ)
      (cnd (32 ≤ x0 ∧ x0 < σ (-1) 0 ∧ σ x0 (-1) = 9) (cnd (wr (σ x0 12) ≠ wr 1)
        (rsP PG0 MX d 190 39 [vR x0, vR x1, vI 0, vI 0] [] σ)
        (cnd (32 ≤ x0 ∧ x0 < σ (-1) 0 ∧ σ x0 (-1) = 9) (cnd (32 ≤ x0 ∧ x0 < σ (-1) 0 ∧ σ x0 (-1) = 9) (cnd (0 < x1 ∧ x1 < σ (-1) 0 ∧ σ x1 (-1) = 30) (bnd (clR PG0 MX d 1000 [vR x1] σ) (fun q1 => 
        cnd (wr ((σ x0 10) - (σ x0 11)) ≠ wr q1.1)
            (rsP PG0 MX d 190 39 [vR x0, vR x1, vI 0, vI 0] [] q1.2)
            (rsP PG0 MX d 190 39 [vR x0, vR x1, vI 1, vI 0] [] q1.2))) none) none) none)) none)) none :=
  blkE (cs := pgA_190) rfl [39] 22 _ _ _ _
set_option maxRecDepth 100000 in
theorem sg_190_39 (d : Nat) (σ : HP) (x0 x1 x2 x3 : Int) : rsP PG0 MX d 190 39 [vR x0, vR x1, vI x2, vI x3] [] σ =
    cnd (0 < x1 ∧ x1 < σ (-1) 0 ∧ σ x1 (-1) = 30) (bnd (clR PG0 MX d 1000 [vR x1] σ) (fun q1 => 
    cnd (wr q1.1 ≤ wr x3)
        (cnd (x2 = 0 ∨ x2 = 1) (some (x2, q1.2)) none)
        (cnd (wr x2 = 0)
          (cnd (x2 = 0 ∨ x2 = 1) (some (x2, q1.2)) none)
          (cnd (32 ≤ x0 ∧ x0 < q1.2 (-1) 0 ∧ q1.2 x0 (-1) = 9) (cnd (32 ≤ x0 ∧ x0 < q1.2 (-1) 0 ∧ q1.2 x0 (-1) = 9) (cnd (0 < (q1.2 x0 6) ∧ (q1.2 x0 6) < q1.2 (-1) 0 ∧ q1.2 (q1.2 x0 6) (-1) = 20 ∧ 0 ≤ wr ((q1.2 x0 11) + x3) ∧ wr ((q1.2 x0 11) + x3) < q1.2 (q1.2 x0 6) (-2)) (cnd (0 < x1 ∧ x1 < q1.2 (-1) 0 ∧ q1.2 x1 (-1) = 30) (bnd (clR PG0 MX d 1001 [vR x1, vI x3] q1.2) (fun q2 => 
          cnd (wr (q1.2 (q1.2 x0 6) (wr ((q1.2 x0 11) + x3))) ≠ wr q2.1)
              (rsP PG0 MX d 190 39 [vR x0, vR x1, vI 0, vI (x3 + 1)] [] q2.2)
              (rsP PG0 MX d 190 39 [vR x0, vR x1, vI 1, vI (x3 + 1)] [] q2.2))) none) none) none) none)))) none :=
  blkE (cs := pgA_190) rfl [39] 24 _ _ _ _
/-- OneAtATimeModel.must(Z)V -/
theorem ce_191 (d : Nat) (σ : HP) (x0 x1 : Int) : clR PG0 MX (d + 1) 191 [vR x0, vI x1] σ = rsP PG0 MX d 191 0 [vR x0, vI x1] [] σ := rfl
set_option maxRecDepth 100000 in
theorem sg_191_0 (d : Nat) (σ : HP) (x0 x1 : Int) : rsP PG0 MX d 191 0 [vR x0, vI x1] [] σ =
    cnd (wr x1 ≠ 0)
      (rsP PG0 MX d 191 13 [vR x0, vI x1] [] σ)
      (cnd (32 ≤ x0 ∧ x0 < σ (-1) 0 ∧ σ x0 (-1) = 9) (cnd (0 < x0 ∧ x0 < σ (-1) 0 ∧ σ x0 (-1) = 9) (bnd (clR PG0 MX d 192 [vR x0, vI 1, vI (σ x0 11)] σ) (fun q1 => 
      rsP PG0 MX d 191 13 [vR x0, vI x1] [] q1.2)) none) none) :=
  blkE (cs := pgA_191) rfl [13] 9 _ _ _ _
set_option maxRecDepth 100000 in
theorem sg_191_13 (d : Nat) (σ : HP) (x0 : Int) (u1 : MV) : rsP PG0 MX d 191 13 [vR x0, u1] [] σ =
    cnd (32 ≤ x0 ∧ x0 < σ (-1) 0 ∧ σ x0 (-1) = 9) (cnd (wr (σ x0 14) ≠ 0)
      (some (0, σ))
      (cnd (0 < x0 ∧ x0 < σ (-1) 0 ∧ σ x0 (-1) = 9) (bnd (clR PG0 MX d 188 [vR x0] σ) (fun q1 => 
      some (0, q1.2))) none)) none :=
  blkE (cs := pgA_191) rfl [13] 7 _ _ _ _
/-- OneAtATimeModel.faultsAt(II)V -/
theorem ce_192 (d : Nat) (σ : HP) (x0 x1 x2 : Int) : clR PG0 MX (d + 1) 192 [vR x0, vI x1, vI x2] σ = rsP PG0 MX d 192 0 [vR x0, vI x1, vI x2] [] σ := rfl
set_option maxRecDepth 100000 in
theorem sg_192_0 (d : Nat) (σ : HP) (x0 x1 x2 : Int) : rsP PG0 MX d 192 0 [vR x0, vI x1, vI x2] [] σ =
    cnd (32 ≤ x0 ∧ x0 < σ (-1) 0 ∧ σ x0 (-1) = 9) (cnd (wr (σ x0 14) ≠ 0)
      (some (0, σ))
      (cnd (32 ≤ x0 ∧ x0 < σ (-1) 0 ∧ σ x0 (-1) = 9) (cnd (32 ≤ x0 ∧ x0 < (up σ x0 14 1) (-1) 0 ∧ (up σ x0 14 1) x0 (-1) = 9) (cnd (32 ≤ x0 ∧ x0 < (up (up σ x0 14 1) x0 8 x1) (-1) 0 ∧ (up (up σ x0 14 1) x0 8 x1) x0 (-1) = 9) (some (0, up (up (up σ x0 14 1) x0 8 x1) x0 9 x2)) none) none) none)) none :=
  blkE (cs := pgA_192) rfl [] 14 _ _ _ _
/-- OneAtATimeModel.number(II)I -/
theorem ce_193 (d : Nat) (σ : HP) (x0 x1 x2 : Int) : clR PG0 MX (d + 1) 193 [vR x0, vI x1, vI x2] σ = rsP PG0 MX d 193 0 [vR x0, vI x1, vI x2, vU] [] σ := rfl
set_option maxRecDepth 100000 in
theorem sg_193_0 (d : Nat) (σ : HP) (x0 x1 x2 : Int) : rsP PG0 MX d 193 0 [vR x0, vI x1, vI x2, vU] [] σ =
    cnd (32 ≤ x0 ∧ x0 < σ (-1) 0 ∧ σ x0 (-1) = 9) (cnd (wr (σ x0 14) = 0)
      (cnd (32 ≤ x0 ∧ x0 < σ (-1) 0 ∧ σ x0 (-1) = 9) (cnd (32 ≤ x0 ∧ x0 < σ (-1) 0 ∧ σ x0 (-1) = 9) (cnd (wr (σ x0 12) = wr 2)
        (bnd (clR PG0 MX d 179 [vL (wr (σ x0 13)), vL (wr x1), vL (wr x2)] σ) (fun q1 => 
        cnd (wr q1.1 ≠ 0)
            (rsP PG0 MX d 193 55 [vR x0, vI x1, vI x2, vI (σ x0 13)] [] q1.2)
            (cnd (32 ≤ x0 ∧ x0 < q1.2 (-1) 0 ∧ q1.2 x0 (-1) = 9) (cnd (0 < x0 ∧ x0 < q1.2 (-1) 0 ∧ q1.2 x0 (-1) = 9) (bnd (clR PG0 MX d 192 [vR x0, vI 2, vI (q1.2 x0 11)] q1.2) (fun q2 => 
            rsP PG0 MX d 193 55 [vR x0, vI x1, vI x2, vI (σ x0 13)] [] q2.2)) none) none)))
        (cnd (32 ≤ x0 ∧ x0 < σ (-1) 0 ∧ σ x0 (-1) = 9) (cnd (0 < x0 ∧ x0 < σ (-1) 0 ∧ σ x0 (-1) = 9) (bnd (clR PG0 MX d 192 [vR x0, vI 1, vI (σ x0 11)] σ) (fun q3 => 
        rsP PG0 MX d 193 55 [vR x0, vI x1, vI x2, vI (σ x0 13)] [] q3.2)) none) none)) none) none)
      (some (x1, σ))) none :=
  blkE (cs := pgA_193) rfl [55, 68] 25 _ _ _ _
set_option maxRecDepth 100000 in
theorem sg_193_55 (d : Nat) (σ : HP) (x0 x1 x3 : Int) (u2 : MV) : rsP PG0 MX d 193 55 [vR x0, vI x1, u2, vI x3] [] σ =
    cnd (32 ≤ x0 ∧ x0 < σ (-1) 0 ∧ σ x0 (-1) = 9) (cnd (wr (σ x0 14) ≠ 0)
      (rsP PG0 MX d 193 68 [vR x0, vI x1, vU, vI x3] [vI 0, vR x0] σ)
      (rsP PG0 MX d 193 68 [vR x0, vI x1, vU, vI x3] [vI 1, vR x0] σ)) none :=
  blkE (cs := pgA_193) rfl [55, 68] 8 _ _ _ _
set_option maxRecDepth 100000 in
theorem sg_193_68 (d : Nat) (σ : HP) (x0 x1 x3 y0 y1 : Int) (u2 : MV) : rsP PG0 MX d 193 68 [vR x0, vI x1, u2, vI x3] [vI y1, vR y0] σ =
    cnd (0 < y0 ∧ y0 < σ (-1) 0 ∧ σ y0 (-1) = 9) (bnd (clR PG0 MX d 191 [vR y0, vI y1] σ) (fun q1 => 
    cnd (32 ≤ x0 ∧ x0 < q1.2 (-1) 0 ∧ q1.2 x0 (-1) = 9) (cnd (wr (q1.2 x0 14) = 0)
        (some (x3, q1.2))
        (some (x1, q1.2))) none)) none :=
  blkE (cs := pgA_193) rfl [55, 68] 8 _ _ _ _
/-- OneAtATimeModel.mustBeSign(I)V -/
theorem ce_194 (d : Nat) (σ : HP) (x0 x1 : Int) : clR PG0 MX (d + 1) 194 [vR x0, vI x1] σ = rsP PG0 MX d 194 0 [vR x0, vI x1] [] σ := rfl
set_option maxRecDepth 100000 in
theorem sg_194_0 (d : Nat) (σ : HP) (x0 x1 : Int) : rsP PG0 MX d 194 0 [vR x0, vI x1] [] σ =
    cnd (32 ≤ x0 ∧ x0 < σ (-1) 0 ∧ σ x0 (-1) = 9) (cnd (wr (σ x0 14) ≠ 0)
      (rsP PG0 MX d 194 33 [vR x0, vI x1] [vR x0] σ)
      (cnd (32 ≤ x0 ∧ x0 < σ (-1) 0 ∧ σ x0 (-1) = 9) (cnd (wr (σ x0 12) ≠ wr 3)
        (rsP PG0 MX d 194 33 [vR x0, vI x1] [vR x0] σ)
        (cnd (32 ≤ x0 ∧ x0 < σ (-1) 0 ∧ σ x0 (-1) = 9) (cnd (32 ≤ x0 ∧ x0 < σ (-1) 0 ∧ σ x0 (-1) = 9) (cnd (0 < (σ x0 6) ∧ (σ x0 6) < σ (-1) 0 ∧ σ (σ x0 6) (-1) = 20 ∧ 0 ≤ wr (σ x0 11) ∧ wr (σ x0 11) < σ (σ x0 6) (-2)) (cnd (wr (σ (σ x0 6) (wr (σ x0 11))) ≠ wr x1)
          (rsP PG0 MX d 194 33 [vR x0, vI x1] [vR x0] σ)
          (rsP PG0 MX d 194 34 [vR x0, vI x1] [vI 1, vR x0] σ)) none) none) none)) none)) none :=
  blkE (cs := pgA_194) rfl [33, 34] 19 _ _ _ _
set_option maxRecDepth 100000 in
theorem sg_194_33 (d : Nat) (σ : HP) (y0 : Int) (u0 u1 : MV) : rsP PG0 MX d 194 33 [u0, u1] [vR y0] σ =
    rsP PG0 MX d 194 34 [vU, vU] [vI 0, vR y0] σ :=
  blkE (cs := pgA_194) rfl [33, 34] 3 _ _ _ _
set_option maxRecDepth 100000 in
theorem sg_194_34 (d : Nat) (σ : HP) (y0 y1 : Int) (u0 u1 : MV) : rsP PG0 MX d 194 34 [u0, u1] [vI y1, vR y0] σ =
    cnd (0 < y0 ∧ y0 < σ (-1) 0 ∧ σ y0 (-1) = 9) (bnd (clR PG0 MX d 191 [vR y0, vI y1] σ) (fun q1 => 
    some (0, q1.2))) none :=
  blkE (cs := pgA_194) rfl [33, 34] 3 _ _ _ _
/-- OneAtATimeModel.readsBits(I)V -/
theorem ce_195 (d : Nat) (σ : HP) (x0 x1 : Int) : clR PG0 MX (d + 1) 195 [vR x0, vI x1] σ = rsP PG0 MX d 195 0 [vR x0, vI x1, vU, vU] [] σ := rfl
set_option maxRecDepth 100000 in
theorem sg_195_0 (d : Nat) (σ : HP) (x0 x1 : Int) : rsP PG0 MX d 195 0 [vR x0, vI x1, vU, vU] [] σ =
    cnd (32 ≤ x0 ∧ x0 < σ (-1) 0 ∧ σ x0 (-1) = 9) (cnd (32 ≤ x0 ∧ x0 < (up σ x0 5 0) (-1) 0 ∧ (up σ x0 5 0) x0 (-1) = 9) (cnd (wr ((up σ x0 5 0) x0 14) ≠ 0)
      (some (0, up σ x0 5 0))
      (cnd (32 ≤ x0 ∧ x0 < (up σ x0 5 0) (-1) 0 ∧ (up σ x0 5 0) x0 (-1) = 9) (cnd (wr ((up σ x0 5 0) x0 12) = wr 2)
        (cnd (32 ≤ x0 ∧ x0 < (up σ x0 5 0) (-1) 0 ∧ (up σ x0 5 0) x0 (-1) = 9) (rsP PG0 MX d 195 26 [vR x0, vI x1, vI ((up σ x0 5 0) x0 11), vU] [] (up σ x0 5 0)) none)
        (some (0, up σ x0 5 0))) none)) none) none :=
  blkE (cs := pgA_195) rfl [26, 95, 108] 15 _ _ _ _
set_option maxRecDepth 100000 in
theorem sg_195_26 (d : Nat) (σ : HP) (x0 x1 x2 : Int) (u3 : MV) : rsP PG0 MX d 195 26 [vR x0, vI x1, vI x2, u3] [] σ =
    cnd (32 ≤ x0 ∧ x0 < σ (-1) 0 ∧ σ x0 (-1) = 9) (cnd (wr (σ x0 10) ≤ wr x2)
      (rsP PG0 MX d 195 95 [vR x0, vI x1, vI x2, vU] [] σ)
      (cnd (32 ≤ x0 ∧ x0 < σ (-1) 0 ∧ σ x0 (-1) = 9) (cnd (wr (σ x0 14) ≠ 0)
        (rsP PG0 MX d 195 95 [vR x0, vI x1, vI x2, vU] [] σ)
        (cnd (32 ≤ x0 ∧ x0 < σ (-1) 0 ∧ σ x0 (-1) = 9) (cnd (0 < (σ x0 6) ∧ (σ x0 6) < σ (-1) 0 ∧ σ (σ x0 6) (-1) = 20 ∧ 0 ≤ wr x2 ∧ wr x2 < σ (σ x0 6) (-2)) (cnd (wr ((σ (σ x0 6) (wr x2)) - 48) < wr x1)
          (cnd (32 ≤ x0 ∧ x0 < σ (-1) 0 ∧ σ x0 (-1) = 9) (cnd (wr (σ x0 5) ≠ wr 256)
            (cnd (0 < x0 ∧ x0 < σ (-1) 0 ∧ σ x0 (-1) = 9) (bnd (clR PG0 MX d 196 [vR x0, vI ((σ (σ x0 6) (wr x2)) - 48)] σ) (fun q1 => 
            rsP PG0 MX d 195 26 [vR x0, vI x1, vI (x2 + 1), vU] [] q1.2)) none)
            (cnd (0 < x0 ∧ x0 < σ (-1) 0 ∧ σ x0 (-1) = 9) (bnd (clR PG0 MX d 192 [vR x0, vI 4, vI x2] σ) (fun q2 => 
            rsP PG0 MX d 195 26 [vR x0, vI x1, vI (x2 + 1), vU] [] q2.2)) none)) none)
          (cnd (0 < x0 ∧ x0 < σ (-1) 0 ∧ σ x0 (-1) = 9) (bnd (clR PG0 MX d 192 [vR x0, vI 3, vI x2] σ) (fun q3 => 
          rsP PG0 MX d 195 26 [vR x0, vI x1, vI (x2 + 1), vU] [] q3.2)) none)) none) none)) none)) none :=
  blkE (cs := pgA_195) rfl [26, 95, 108] 30 _ _ _ _
set_option maxRecDepth 100000 in
theorem sg_195_95 (d : Nat) (σ : HP) (x0 : Int) (u1 u2 u3 : MV) : rsP PG0 MX d 195 95 [vR x0, u1, u2, u3] [] σ =
    cnd (32 ≤ x0 ∧ x0 < σ (-1) 0 ∧ σ x0 (-1) = 9) (cnd (wr (σ x0 14) ≠ 0)
      (rsP PG0 MX d 195 108 [vR x0, vU, vU, vU] [vI 0, vR x0] σ)
      (rsP PG0 MX d 195 108 [vR x0, vU, vU, vU] [vI 1, vR x0] σ)) none :=
  blkE (cs := pgA_195) rfl [26, 95, 108] 8 _ _ _ _
set_option maxRecDepth 100000 in
theorem sg_195_108 (d : Nat) (σ : HP) (x0 y0 y1 : Int) (u1 u2 u3 : MV) : rsP PG0 MX d 195 108 [vR x0, u1, u2, u3] [vI y1, vR y0] σ =
    cnd (0 < y0 ∧ y0 < σ (-1) 0 ∧ σ y0 (-1) = 9) (bnd (clR PG0 MX d 191 [vR y0, vI y1] σ) (fun q1 => 
    some (0, q1.2))) none :=
  blkE (cs := pgA_195) rfl [26, 95, 108] 3 _ _ _ _
/-- OneAtATimeModel.lies(I)V -/
theorem ce_196 (d : Nat) (σ : HP) (x0 x1 : Int) : clR PG0 MX (d + 1) 196 [vR x0, vI x1] σ = rsP PG0 MX d 196 0 [vR x0, vI x1] [] σ := rfl
set_option maxRecDepth 100000 in
theorem sg_196_0 (d : Nat) (σ : HP) (x0 x1 : Int) : rsP PG0 MX d 196 0 [vR x0, vI x1] [] σ =
    cnd (32 ≤ x0 ∧ x0 < σ (-1) 0 ∧ σ x0 (-1) = 9) (cnd (32 ≤ x0 ∧ x0 < σ (-1) 0 ∧ σ x0 (-1) = 9) (cnd (32 ≤ (σ x0 4) ∧ (σ x0 4) < σ (-1) 0 ∧ σ (σ x0 4) (-1) = 20 ∧ 0 ≤ wr (σ x0 5) ∧ wr (σ x0 5) < σ (σ x0 4) (-2)) (cnd (32 ≤ x0 ∧ x0 < (up σ (σ x0 4) (wr (σ x0 5)) x1) (-1) 0 ∧ (up σ (σ x0 4) (wr (σ x0 5)) x1) x0 (-1) = 9) (cnd (32 ≤ x0 ∧ x0 < (up σ (σ x0 4) (wr (σ x0 5)) x1) (-1) 0 ∧ (up σ (σ x0 4) (wr (σ x0 5)) x1) x0 (-1) = 9) (some (0, up (up σ (σ x0 4) (wr (σ x0 5)) x1) x0 5 (((up σ (σ x0 4) (wr (σ x0 5)) x1) x0 5) + 1))) none) none) none) none) none :=
  blkE (cs := pgA_196) rfl [] 14 _ _ _ _
/-- OneAtATimeModel.done(I)I -/
theorem ce_197 (d : Nat) (σ : HP) (x0 x1 : Int) : clR PG0 MX (d + 1) 197 [vR x0, vI x1] σ = rsP PG0 MX d 197 0 [vR x0, vI x1, vU, vU] [] σ := rfl
set_option maxRecDepth 100000 in
theorem sg_197_0 (d : Nat) (σ : HP) (x0 x1 : Int) : rsP PG0 MX d 197 0 [vR x0, vI x1, vU, vU] [] σ =
    rsP PG0 MX d 197 4 [vR x0, vI x1, vI 1, vI 0] [] σ :=
  blkE (cs := pgA_197) rfl [4] 6 _ _ _ _
set_option maxRecDepth 100000 in
theorem sg_197_4 (d : Nat) (σ : HP) (x0 x1 x2 x3 : Int) : rsP PG0 MX d 197 4 [vR x0, vI x1, vI x2, vI x3] [] σ =
    cnd (wr 783 ≤ wr x3)
      (cnd (wr x2 = 0)
        (cnd (0 < x0 ∧ x0 < σ (-1) 0 ∧ σ x0 (-1) = 9) (bnd (clR PG0 MX d 184 [vR x0, vI x1] σ) (fun q1 => 
        some (q1.1, q1.2))) none)
        (some (x1, σ)))
      (cnd (wr x2 = 0)
        (rsP PG0 MX d 197 4 [vR x0, vI x1, vI 0, vI (x3 + 1)] [] σ)
        (cnd (32 ≤ x0 ∧ x0 < σ (-1) 0 ∧ σ x0 (-1) = 9) (cnd (0 < (σ x0 1) ∧ (σ x0 1) < σ (-1) 0 ∧ σ (σ x0 1) (-1) = 20 ∧ 0 ≤ wr x3 ∧ wr x3 < σ (σ x0 1) (-2)) (cnd (32 ≤ x0 ∧ x0 < σ (-1) 0 ∧ σ x0 (-1) = 9) (cnd (0 < (σ x0 0) ∧ (σ x0 0) < σ (-1) 0 ∧ σ (σ x0 0) (-1) = 20 ∧ 0 ≤ wr x3 ∧ wr x3 < σ (σ x0 0) (-2)) (cnd (wr (σ (σ x0 1) (wr x3)) ≠ wr (σ (σ x0 0) (wr x3)))
          (rsP PG0 MX d 197 4 [vR x0, vI x1, vI 0, vI (x3 + 1)] [] σ)
          (rsP PG0 MX d 197 4 [vR x0, vI x1, vI 1, vI (x3 + 1)] [] σ)) none) none) none) none)) :=
  blkE (cs := pgA_197) rfl [4] 21 _ _ _ _
/-- OneAtATimeModel.fault(I)I -/
theorem ce_198 (d : Nat) (σ : HP) (x0 x1 : Int) : clR PG0 MX (d + 1) 198 [vR x0, vI x1] σ = rsP PG0 MX d 198 0 [vR x0, vI x1] [] σ := rfl
set_option maxRecDepth 100000 in
theorem sg_198_0 (d : Nat) (σ : HP) (x0 x1 : Int) : rsP PG0 MX d 198 0 [vR x0, vI x1] [] σ =
    cnd (wr x1 ≠ 0)
      (cnd (wr x1 ≠ wr 1)
        (some ((-1), σ))
        (cnd (32 ≤ x0 ∧ x0 < σ (-1) 0 ∧ σ x0 (-1) = 9) (some (σ x0 9, σ)) none))
      (cnd (32 ≤ x0 ∧ x0 < σ (-1) 0 ∧ σ x0 (-1) = 9) (some (σ x0 8, σ)) none) :=
  blkE (cs := pgA_198) rfl [] 10 _ _ _ _
/-- OneAtATimeModel.count(I)I -/
theorem ce_199 (d : Nat) (σ : HP) (x0 x1 : Int) : clR PG0 MX (d + 1) 199 [vR x0, vI x1] σ = rsP PG0 MX d 199 0 [vR x0, vI x1, vU, vU] [] σ := rfl
set_option maxRecDepth 100000 in
theorem sg_199_0 (d : Nat) (σ : HP) (x0 x1 : Int) : rsP PG0 MX d 199 0 [vR x0, vI x1, vU, vU] [] σ =
    rsP PG0 MX d 199 4 [vR x0, vI x1, vI 0, vI 0] [] σ :=
  blkE (cs := pgA_199) rfl [4] 6 _ _ _ _
set_option maxRecDepth 100000 in
theorem sg_199_4 (d : Nat) (σ : HP) (x0 x1 x2 x3 : Int) : rsP PG0 MX d 199 4 [vR x0, vI x1, vI x2, vI x3] [] σ =
    cnd (wr 3 ≤ wr x3)
      (cnd (wr x1 = 0)
        (some (x2, σ))
        (cnd (wr x1 = 1)
        (cnd (32 ≤ x0 ∧ x0 < σ (-1) 0 ∧ σ x0 (-1) = 9) (some (σ x0 3, σ)) none)
        (cnd (wr x1 = 2)
        (cnd (32 ≤ x0 ∧ x0 < σ (-1) 0 ∧ σ x0 (-1) = 9) (some (σ x0 7, σ)) none)
        (cnd (wr x1 = 3)
        (cnd (32 ≤ x0 ∧ x0 < σ (-1) 0 ∧ σ x0 (-1) = 9) (some (σ x0 28, σ)) none)
        (some ((-1), σ))))))
      (cnd (0 < x0 ∧ x0 < σ (-1) 0 ∧ σ x0 (-1) = 9) (bnd (clR PG0 MX d 180 [vR x0, vI x3] σ) (fun q1 => 
      cnd (wr q1.1 = 0)
          (rsP PG0 MX d 199 4 [vR x0, vI x1, vI (i_or x2 0), vI (x3 + 1)] [] q1.2)
          (rsP PG0 MX d 199 4 [vR x0, vI x1, vI (i_or x2 (i_shl 1 x3)), vI (x3 + 1)] [] q1.2))) none) :=
  blkE (cs := pgA_199) rfl [4] 18 _ _ _ _
/-- OneAtATimeModel.is(II)I -/
theorem ce_200 (d : Nat) (σ : HP) (x0 x1 x2 : Int) : clR PG0 MX (d + 1) 200 [vR x0, vI x1, vI x2] σ = rsP PG0 MX d 200 0 [vR x0, vI x1, vI x2] [] σ := rfl
set_option maxRecDepth 100000 in
theorem sg_200_0 (d : Nat) (σ : HP) (x0 x1 x2 : Int) : rsP PG0 MX d 200 0 [vR x0, vI x1, vI x2] [] σ =
    cnd (0 < x0 ∧ x0 < σ (-1) 0 ∧ σ x0 (-1) = 9) (bnd (clR PG0 MX d 180 [vR x0, vI x1] σ) (fun q1 => 
    cnd (wr q1.1 = 0)
        (some ((-2), q1.2))
        (bnd (clR PG0 MX d 179 [vL (wr x2), vL 0, vL 6] q1.2) (fun q2 => 
        cnd (wr q2.1 ≠ 0)
            (cnd (0 < x0 ∧ x0 < q2.2 (-1) 0 ∧ q2.2 x0 (-1) = 9) (bnd (clR PG0 MX d 201 [vR x0, vI x1, vI x2] q2.2) (fun q3 => 
            cnd (wr q3.1 = 0)
                (some (0, q3.2))
                (some (1, q3.2)))) none)
            (some ((-2), q2.2)))))) none :=
  blkE (cs := pgA_200) rfl [] 19 _ _ _ _
/-- OneAtATimeModel.isSo(II)Z -/
theorem ce_201 (d : Nat) (σ : HP) (x0 x1 x2 : Int) : clR PG0 MX (d + 1) 201 [vR x0, vI x1, vI x2] σ = rsP PG0 MX d 201 0 [vR x0, vI x1, vI x2] [] σ := rfl
set_option maxRecDepth 100000 in
theorem sg_201_0 (d : Nat) (σ : HP) (x0 x1 x2 : Int) : rsP PG0 MX d 201 0 [vR x0, vI x1, vI x2] [] σ =
    cnd (wr x2 = 1)
      (cnd (0 < x0 ∧ x0 < σ (-1) 0 ∧ σ x0 (-1) = 9) (bnd (clR PG0 MX d 202 [vR x0, vI x1] σ) (fun q1 => 
      cnd (q1.1 = 0 ∨ q1.1 = 1) (some (q1.1, q1.2)) none)) none)
      (cnd (wr x2 = 2)
      (cnd (0 < x0 ∧ x0 < σ (-1) 0 ∧ σ x0 (-1) = 9) (bnd (clR PG0 MX d 206 [vR x0, vI x1] σ) (fun q2 => 
      cnd (q2.1 = 0 ∨ q2.1 = 1) (some (q2.1, q2.2)) none)) none)
      (cnd (wr x2 = 3)
      (cnd (0 < x0 ∧ x0 < σ (-1) 0 ∧ σ x0 (-1) = 9) (bnd (clR PG0 MX d 210 [vR x0, vI x1] σ) (fun q3 => 
      cnd (q3.1 = 0 ∨ q3.1 = 1) (some (q3.1, q3.2)) none)) none)
      (cnd (wr x2 = 4)
      (cnd (0 < x0 ∧ x0 < σ (-1) 0 ∧ σ x0 (-1) = 9) (bnd (clR PG0 MX d 211 [vR x0, vI x1] σ) (fun q4 => 
      cnd (q4.1 = 0 ∨ q4.1 = 1) (some (q4.1, q4.2)) none)) none)
      (cnd (wr x2 = 5)
      (cnd (0 < x0 ∧ x0 < σ (-1) 0 ∧ σ x0 (-1) = 9) (bnd (clR PG0 MX d 213 [vR x0, vI x1] σ) (fun q5 => 
      cnd (q5.1 = 0 ∨ q5.1 = 1) (some (q5.1, q5.2)) none)) none)
      (cnd (wr x2 = 6)
      (cnd (0 < x0 ∧ x0 < σ (-1) 0 ∧ σ x0 (-1) = 9) (bnd (clR PG0 MX d 214 [vR x0, vI x1] σ) (fun q6 => 
      cnd (q6.1 = 0 ∨ q6.1 = 1) (some (q6.1, q6.2)) none)) none)
      (cnd (0 < x0 ∧ x0 < σ (-1) 0 ∧ σ x0 (-1) = 9) (bnd (clR PG0 MX d 203 [vR x0, vI x1] σ) (fun q7 => 
      cnd (32 ≤ x0 ∧ x0 < q7.2 (-1) 0 ∧ q7.2 x0 (-1) = 9) (cnd (q7.2 x0 18 = 0 ∨ q7.2 x0 18 = 1) (some (q7.2 x0 18, q7.2)) none) none)) none)))))) :=
  blkE (cs := pgA_201) rfl [] 9 _ _ _ _
/-- OneAtATimeModel.isClean(I)Z -/
theorem ce_202 (d : Nat) (σ : HP) (x0 x1 : Int) : clR PG0 MX (d + 1) 202 [vR x0, vI x1] σ = rsP PG0 MX d 202 0 [vR x0, vI x1, vU] [] σ := rfl
set_option maxRecDepth 100000 in
theorem sg_202_0 (d : Nat) (σ : HP) (x0 x1 : Int) : rsP PG0 MX d 202 0 [vR x0, vI x1, vU] [] σ =
    cnd (0 < x0 ∧ x0 < σ (-1) 0 ∧ σ x0 (-1) = 9) (bnd (clR PG0 MX d 203 [vR x0, vI x1] σ) (fun q1 => 
    rsP PG0 MX d 202 7 [vR x0, vI x1, vI 0] [] q1.2)) none :=
  blkE (cs := pgA_202) rfl [7] 7 _ _ _ _
set_option maxRecDepth 100000 in
theorem sg_202_7 (d : Nat) (σ : HP) (x0 x2 : Int) (u1 : MV) : rsP PG0 MX d 202 7 [vR x0, u1, vI x2] [] σ =
    cnd (wr 256 ≤ wr x2)
      (some (1, σ))
      (cnd (32 ≤ x0 ∧ x0 < σ (-1) 0 ∧ σ x0 (-1) = 9) (cnd (0 < (σ x0 16) ∧ (σ x0 16) < σ (-1) 0 ∧ σ (σ x0 16) (-1) = 20 ∧ 0 ≤ wr x2 ∧ wr x2 < σ (σ x0 16) (-2)) (cnd (wr (σ (σ x0 16) (wr x2)) ≤ wr 1)
        (rsP PG0 MX d 202 7 [vR x0, vU, vI (x2 + 1)] [] σ)
        (some (0, σ))) none) none) :=
  blkE (cs := pgA_202) rfl [7] 13 _ _ _ _
/-- OneAtATimeModel.laysWords(I)V -/
theorem ce_203 (d : Nat) (σ : HP) (x0 x1 : Int) : clR PG0 MX (d + 1) 203 [vR x0, vI x1] σ = rsP PG0 MX d 203 0 [vR x0, vI x1, vU] [] σ := rfl
set_option maxRecDepth 100000 in
theorem sg_203_0 (d : Nat) (σ : HP) (x0 x1 : Int) : rsP PG0 MX d 203 0 [vR x0, vI x1, vU] [] σ =
    cnd (32 ≤ x0 ∧ x0 < σ (-1) 0 ∧ σ x0 (-1) = 9) (cnd (0 < x0 ∧ x0 < σ (-1) 0 ∧ σ x0 (-1) = 9) (bnd (clR PG0 MX d 181 [vR x0, vI x1, vI 3] σ) (fun q1 => 
    cnd (32 ≤ (σ x0 15) ∧ (σ x0 15) < q1.2 (-1) 0 ∧ q1.2 (σ x0 15) (-1) = 20 ∧ 0 ≤ wr 0 ∧ wr 0 < q1.2 (σ x0 15) (-2)) (rsP PG0 MX d 203 14 [vR x0, vI x1, vI 0] [] (up q1.2 (σ x0 15) (wr 0) q1.1)) none)) none) none :=
  blkE (cs := pgA_203) rfl [14, 84, 85, 116, 138] 12 _ _ _ _
set_option maxRecDepth 100000 in
theorem sg_203_14 (d : Nat) (σ : HP) (x0 x1 x2 : Int) : rsP PG0 MX d 203 14 [vR x0, vI x1, vI x2] [] σ =
    cnd (0 < x0 ∧ x0 < σ (-1) 0 ∧ σ x0 (-1) = 9) (bnd (clR PG0 MX d 204 [vR x0, vI x1] σ) (fun q1 => 
    cnd (wr q1.1 ≤ wr x2)
        (cnd (0 < x0 ∧ x0 < q1.2 (-1) 0 ∧ q1.2 x0 (-1) = 9) (bnd (clR PG0 MX d 204 [vR x0, vI x1] q1.2) (fun q2 => 
        cnd (wr q2.1 ≤ 0)
            (rsP PG0 MX d 203 84 [vR x0, vI x1, vI x2] [vR x0] q2.2)
            (cnd (32 ≤ x0 ∧ x0 < q2.2 (-1) 0 ∧ q2.2 x0 (-1) = 9) (cnd (0 < x0 ∧ x0 < q2.2 (-1) 0 ∧ q2.2 x0 (-1) = 9) (bnd (clR PG0 MX d 204 [vR x0, vI x1] q2.2) (fun q3 => 
            cnd (0 < (q2.2 x0 15) ∧ (q2.2 x0 15) < q3.2 (-1) 0 ∧ q3.2 (q2.2 x0 15) (-1) = 20 ∧ 0 ≤ wr q3.1 ∧ wr q3.1 < q3.2 (q2.2 x0 15) (-2)) (cnd (32 ≤ x0 ∧ x0 < q3.2 (-1) 0 ∧ q3.2 x0 (-1) = 9) (cnd (0 < (q3.2 x0 15) ∧ (q3.2 x0 15) < q3.2 (-1) 0 ∧ q3.2 (q3.2 x0 15) (-1) = 20 ∧ 0 ≤ wr 0 ∧ wr 0 < q3.2 (q3.2 x0 15) (-2)) (cnd (wr (q3.2 (q2.2 x0 15) (wr q3.1)) ≠ wr (q3.2 (q3.2 x0 15) (wr 0)))
                (rsP PG0 MX d 203 84 [vR x0, vI x1, vI x2] [vR x0] q3.2)
                (rsP PG0 MX d 203 85 [vR x0, vI x1, vI x2] [vI 1, vR x0] q3.2)) none) none) none)) none) none))) none)
        (cnd (32 ≤ x0 ∧ x0 < q1.2 (-1) 0 ∧ q1.2 x0 (-1) = 9) (cnd (32 ≤ x0 ∧ x0 < q1.2 (-1) 0 ∧ q1.2 x0 (-1) = 9) (cnd (0 < (q1.2 x0 15) ∧ (q1.2 x0 15) < q1.2 (-1) 0 ∧ q1.2 (q1.2 x0 15) (-1) = 20 ∧ 0 ≤ wr x2 ∧ wr x2 < q1.2 (q1.2 x0 15) (-2)) (cnd (0 < x0 ∧ x0 < q1.2 (-1) 0 ∧ q1.2 x0 (-1) = 9) (bnd (clR PG0 MX d 205 [vR x0, vI x1, vI x2] q1.2) (fun q4 => 
        cnd (32 ≤ (q1.2 x0 15) ∧ (q1.2 x0 15) < q4.2 (-1) 0 ∧ q4.2 (q1.2 x0 15) (-1) = 20 ∧ 0 ≤ wr (x2 + 1) ∧ wr (x2 + 1) < q4.2 (q1.2 x0 15) (-2)) (rsP PG0 MX d 203 14 [vR x0, vI x1, vI (x2 + 1)] [] (up q4.2 (q1.2 x0 15) (wr (x2 + 1)) (i_xor (q1.2 (q1.2 x0 15) (wr x2)) (i_shl 1 q4.1)))) none)) none) none) none) none))) none :=
  blkE (cs := pgA_203) rfl [14, 84, 85, 116, 138] 26 _ _ _ _
set_option maxRecDepth 100000 in
theorem sg_203_84 (d : Nat) (σ : HP) (x0 x1 y0 : Int) (u2 : MV) : rsP PG0 MX d 203 84 [vR x0, vI x1, u2] [vR y0] σ =
    rsP PG0 MX d 203 85 [vR x0, vI x1, vU] [vI 0, vR y0] σ :=
  blkE (cs := pgA_203) rfl [14, 84, 85, 116, 138] 3 _ _ _ _
set_option maxRecDepth 100000 in
theorem sg_203_85 (d : Nat) (σ : HP) (x0 x1 y0 y1 : Int) (u2 : MV) : rsP PG0 MX d 203 85 [vR x0, vI x1, u2] [vI y1, vR y0] σ =
    bif decide (y1 = 0 ∨ y1 = 1) && decide (32 ≤ y0 ∧ y0 < σ (-1) 0 ∧ σ y0 (-1) = 9) then cnd (32 ≤ x0 ∧ x0 < (up σ y0 18 y1) (-1) 0 ∧ (up σ y0 18 y1) x0 (-1) = 9) (cnd (wr ((up σ y0 18 y1) x0 18) = 0)
      (cnd (0 < x0 ∧ x0 < (up σ y0 18 y1) (-1) 0 ∧ (up σ y0 18 y1) x0 (-1) = 9) (bnd (clR PG0 MX d 204 [vR x0, vI x1] (up σ y0 18 y1)) (fun q1 => 
      cnd (32 ≤ x0 ∧ x0 < q1.2 (-1) 0 ∧ q1.2 x0 (-1) = 9) (rsP PG0 MX d 203 116 [vR x0, vI x1, vI 0] [] (up q1.2 x0 17 (q1.1 + 1))) none)) none)
      (cnd (0 < x0 ∧ x0 < (up σ y0 18 y1) (-1) 0 ∧ (up σ y0 18 y1) x0 (-1) = 9) (bnd (clR PG0 MX d 204 [vR x0, vI x1] (up σ y0 18 y1)) (fun q2 => 
      cnd (32 ≤ x0 ∧ x0 < q2.2 (-1) 0 ∧ q2.2 x0 (-1) = 9) (rsP PG0 MX d 203 116 [vR x0, vI x1, vI 0] [] (up q2.2 x0 17 q2.1)) none)) none)) none else none :=
  blkE (cs := pgA_203) rfl [14, 84, 85, 116, 138] 15 _ _ _ _
set_option maxRecDepth 100000 in
theorem sg_203_116 (d : Nat) (σ : HP) (x0 x2 : Int) (u1 : MV) : rsP PG0 MX d 203 116 [vR x0, u1, vI x2] [] σ =
    cnd (wr 256 ≤ wr x2)
      (rsP PG0 MX d 203 138 [vR x0, vU, vI 0] [] σ)
      (cnd (32 ≤ x0 ∧ x0 < σ (-1) 0 ∧ σ x0 (-1) = 9) (cnd (32 ≤ (σ x0 16) ∧ (σ x0 16) < σ (-1) 0 ∧ σ (σ x0 16) (-1) = 20 ∧ 0 ≤ wr x2 ∧ wr x2 < σ (σ x0 16) (-2)) (rsP PG0 MX d 203 116 [vR x0, vU, vI (x2 + 1)] [] (up σ (σ x0 16) (wr x2) 0)) none) none) :=
  blkE (cs := pgA_203) rfl [14, 84, 85, 116, 138] 12 _ _ _ _
set_option maxRecDepth 100000 in
theorem sg_203_138 (d : Nat) (σ : HP) (x0 x2 : Int) (u1 : MV) : rsP PG0 MX d 203 138 [vR x0, u1, vI x2] [] σ =
    cnd (32 ≤ x0 ∧ x0 < σ (-1) 0 ∧ σ x0 (-1) = 9) (cnd (wr (σ x0 17) ≤ wr x2)
      (some (0, σ))
      (cnd (32 ≤ x0 ∧ x0 < σ (-1) 0 ∧ σ x0 (-1) = 9) (cnd (32 ≤ x0 ∧ x0 < σ (-1) 0 ∧ σ x0 (-1) = 9) (cnd (0 < (σ x0 15) ∧ (σ x0 15) < σ (-1) 0 ∧ σ (σ x0 15) (-1) = 20 ∧ 0 ≤ wr x2 ∧ wr x2 < σ (σ x0 15) (-2)) (cnd (0 < (σ x0 16) ∧ (σ x0 16) < σ (-1) 0 ∧ σ (σ x0 16) (-1) = 20 ∧ 0 ≤ wr (σ (σ x0 15) (wr x2)) ∧ wr (σ (σ x0 15) (wr x2)) < σ (σ x0 16) (-2)) (cnd (32 ≤ (σ x0 16) ∧ (σ x0 16) < σ (-1) 0 ∧ σ (σ x0 16) (-1) = 20 ∧ 0 ≤ wr (σ (σ x0 15) (wr x2)) ∧ wr (σ (σ x0 15) (wr x2)) < σ (σ x0 16) (-2)) (rsP PG0 MX d 203 138 [vR x0, vU, vI (x2 + 1)] [] (up σ (σ x0 16) (wr (σ (σ x0 15) (wr x2))) ((σ (σ x0 16) (wr (σ (σ x0 15) (wr x2)))) + 1))) none) none) none) none) none)) none :=
  blkE (cs := pgA_203) rfl [14, 84, 85, 116, 138] 19 _ _ _ _
/-- OneAtATimeModel.many(I)I -/
theorem ce_204 (d : Nat) (σ : HP) (x0 x1 : Int) : clR PG0 MX (d + 1) 204 [vR x0, vI x1] σ = rsP PG0 MX d 204 0 [vR x0, vI x1] [] σ := rfl
set_option maxRecDepth 100000 in
theorem sg_204_0 (d : Nat) (σ : HP) (x0 x1 : Int) : rsP PG0 MX d 204 0 [vR x0, vI x1] [] σ =
    cnd (0 < x0 ∧ x0 < σ (-1) 0 ∧ σ x0 (-1) = 9) (bnd (clR PG0 MX d 181 [vR x0, vI x1, vI 4] σ) (fun q1 => 
    some (q1.1, q1.2))) none :=
  blkE (cs := pgA_204) rfl [] 6 _ _ _ _
/-- OneAtATimeModel.stepAt(II)I -/
theorem ce_205 (d : Nat) (σ : HP) (x0 x1 x2 : Int) : clR PG0 MX (d + 1) 205 [vR x0, vI x1, vI x2] σ = rsP PG0 MX d 205 0 [vR x0, vI x1, vI x2] [] σ := rfl
set_option maxRecDepth 100000 in
theorem sg_205_0 (d : Nat) (σ : HP) (x0 x1 x2 : Int) : rsP PG0 MX d 205 0 [vR x0, vI x1, vI x2] [] σ =
    cnd (32 ≤ x0 ∧ x0 < σ (-1) 0 ∧ σ x0 (-1) = 9) (cnd (0 < (σ x0 0) ∧ (σ x0 0) < σ (-1) 0 ∧ σ (σ x0 0) (-1) = 20 ∧ 0 ≤ wr (((261 * x1) + 5) + x2) ∧ wr (((261 * x1) + 5) + x2) < σ (σ x0 0) (-2)) (some (σ (σ x0 0) (wr (((261 * x1) + 5) + x2)), σ)) none) none :=
  blkE (cs := pgA_205) rfl [] 12 _ _ _ _
/-- OneAtATimeModel.isFull(I)Z -/
theorem ce_206 (d : Nat) (σ : HP) (x0 x1 : Int) : clR PG0 MX (d + 1) 206 [vR x0, vI x1] σ = rsP PG0 MX d 206 0 [vR x0, vI x1, vU] [] σ := rfl
set_option maxRecDepth 100000 in
theorem sg_206_0 (d : Nat) (σ : HP) (x0 x1 : Int) : rsP PG0 MX d 206 0 [vR x0, vI x1, vU] [] σ =
    cnd (0 < x0 ∧ x0 < σ (-1) 0 ∧ σ x0 (-1) = 9) (bnd (clR PG0 MX d 203 [vR x0, vI x1] σ) (fun q1 => 
    rsP PG0 MX d 206 7 [vR x0, vI x1, vI 0] [] q1.2)) none :=
  blkE (cs := pgA_206) rfl [7, 38] 7 _ _ _ _
set_option maxRecDepth 100000 in
theorem sg_206_7 (d : Nat) (σ : HP) (x0 x1 x2 : Int) : rsP PG0 MX d 206 7 [vR x0, vI x1, vI x2] [] σ =
    cnd (0 < x0 ∧ x0 < σ (-1) 0 ∧ σ x0 (-1) = 9) (bnd (clR PG0 MX d 207 [vR x0, vI x1] σ) (fun q1 => 
    cnd (wr (i_shl 1 q1.1) ≤ wr x2)
        (some (1, q1.2))
        (cnd (32 ≤ x0 ∧ x0 < q1.2 (-1) 0 ∧ q1.2 x0 (-1) = 9) (cnd (0 < (q1.2 x0 16) ∧ (q1.2 x0 16) < q1.2 (-1) 0 ∧ q1.2 (q1.2 x0 16) (-1) = 20 ∧ 0 ≤ wr x2 ∧ wr x2 < q1.2 (q1.2 x0 16) (-2)) (cnd (0 < x0 ∧ x0 < q1.2 (-1) 0 ∧ q1.2 x0 (-1) = 9) (bnd (clR PG0 MX d 208 [vR x0, vI x1, vI x2] q1.2) (fun q2 => 
        cnd (wr q2.1 = 0)
            (rsP PG0 MX d 206 38 [vR x0, vI x1, vI x2] [vI 0, vI (q1.2 (q1.2 x0 16) (wr x2))] q2.2)
            (rsP PG0 MX d 206 38 [vR x0, vI x1, vI x2] [vI 1, vI (q1.2 (q1.2 x0 16) (wr x2))] q2.2))) none) none) none))) none :=
  blkE (cs := pgA_206) rfl [7, 38] 20 _ _ _ _
set_option maxRecDepth 100000 in
theorem sg_206_38 (d : Nat) (σ : HP) (x0 x1 x2 y0 y1 : Int) : rsP PG0 MX d 206 38 [vR x0, vI x1, vI x2] [vI y1, vI y0] σ =
    cnd (wr y0 = wr y1)
      (rsP PG0 MX d 206 7 [vR x0, vI x1, vI (x2 + 1)] [] σ)
      (some (0, σ)) :=
  blkE (cs := pgA_206) rfl [7, 38] 5 _ _ _ _
/-- OneAtATimeModel.bits(I)I -/
theorem ce_207 (d : Nat) (σ : HP) (x0 x1 : Int) : clR PG0 MX (d + 1) 207 [vR x0, vI x1] σ = rsP PG0 MX d 207 0 [vR x0, vI x1] [] σ := rfl
set_option maxRecDepth 100000 in
theorem sg_207_0 (d : Nat) (σ : HP) (x0 x1 : Int) : rsP PG0 MX d 207 0 [vR x0, vI x1] [] σ =
    cnd (0 < x0 ∧ x0 < σ (-1) 0 ∧ σ x0 (-1) = 9) (bnd (clR PG0 MX d 181 [vR x0, vI x1, vI 0] σ) (fun q1 => 
    some (q1.1, q1.2))) none :=
  blkE (cs := pgA_207) rfl [] 6 _ _ _ _
/-- OneAtATimeModel.isInScope(II)Z -/
theorem ce_208 (d : Nat) (σ : HP) (x0 x1 x2 : Int) : clR PG0 MX (d + 1) 208 [vR x0, vI x1, vI x2] σ = rsP PG0 MX d 208 0 [vR x0, vI x1, vI x2] [] σ := rfl
set_option maxRecDepth 100000 in
theorem sg_208_0 (d : Nat) (σ : HP) (x0 x1 x2 : Int) : rsP PG0 MX d 208 0 [vR x0, vI x1, vI x2] [] σ =
    bnd (clR PG0 MX d 209 [vI x2] σ) (fun q1 => 
    cnd (0 < x0 ∧ x0 < q1.2 (-1) 0 ∧ q1.2 x0 (-1) = 9) (bnd (clR PG0 MX d 181 [vR x0, vI x1, vI 1] q1.2) (fun q2 => 
      cnd (0 < x0 ∧ x0 < q2.2 (-1) 0 ∧ q2.2 x0 (-1) = 9) (bnd (clR PG0 MX d 181 [vR x0, vI x1, vI 2] q2.2) (fun q3 => 
        bnd (clR PG0 MX d 179 [vL (wr q1.1), vL (wr q2.1), vL (wr q3.1)] q3.2) (fun q4 => 
          cnd (q4.1 = 0 ∨ q4.1 = 1) (some (q4.1, q4.2)) none))) none)) none) :=
  blkE (cs := pgA_208) rfl [] 16 _ _ _ _
/-- OneAtATimeModel.ones(I)I -/
theorem ce_209 (d : Nat) (σ : HP) (x0 : Int) : clR PG0 MX (d + 1) 209 [vI x0] σ = rsP PG0 MX d 209 0 [vI x0, vU, vU] [] σ := rfl
set_option maxRecDepth 100000 in
theorem sg_209_0 (d : Nat) (σ : HP) (x0 : Int) : rsP PG0 MX d 209 0 [vI x0, vU, vU] [] σ =
    rsP PG0 MX d 209 4 [vI x0, vI 0, vI x0] [] σ :=
  blkE (cs := pgA_209) rfl [4] 6 _ _ _ _
set_option maxRecDepth 100000 in
theorem sg_209_4 (d : Nat) (σ : HP) (x1 x2 : Int) (u0 : MV) : rsP PG0 MX d 209 4 [u0, vI x1, vI x2] [] σ =
    cnd (wr x2 = 0)
      (some (x1, σ))
      (rsP PG0 MX d 209 4 [vU, vI (x1 + 1), vI (i_and x2 (x2 - 1))] [] σ) :=
  blkE (cs := pgA_209) rfl [4] 12 _ _ _ _
/-- OneAtATimeModel.isMonotone(I)Z -/
theorem ce_210 (d : Nat) (σ : HP) (x0 x1 : Int) : clR PG0 MX (d + 1) 210 [vR x0, vI x1] σ = rsP PG0 MX d 210 0 [vR x0, vI x1, vU, vU, vU] [] σ := rfl
set_option maxRecDepth 100000 in
theorem sg_210_0 (d : Nat) (σ : HP) (x0 x1 : Int) : rsP PG0 MX d 210 0 [vR x0, vI x1, vU, vU, vU] [] σ =
    cnd (0 < x0 ∧ x0 < σ (-1) 0 ∧ σ x0 (-1) = 9) (bnd (clR PG0 MX d 203 [vR x0, vI x1] σ) (fun q1 => 
    rsP PG0 MX d 210 9 [vR x0, vI x1, vI 0, vI 0, vU] [] q1.2)) none :=
  blkE (cs := pgA_210) rfl [9, 43] 9 _ _ _ _
set_option maxRecDepth 100000 in
theorem sg_210_9 (d : Nat) (σ : HP) (x0 x1 x2 x3 : Int) (u4 : MV) : rsP PG0 MX d 210 9 [vR x0, vI x1, vI x2, vI x3, u4] [] σ =
    cnd (0 < x0 ∧ x0 < σ (-1) 0 ∧ σ x0 (-1) = 9) (bnd (clR PG0 MX d 204 [vR x0, vI x1] σ) (fun q1 => 
    cnd (wr q1.1 ≤ wr x3)
        (some (1, q1.2))
        (cnd (32 ≤ x0 ∧ x0 < q1.2 (-1) 0 ∧ q1.2 x0 (-1) = 9) (cnd (0 < (q1.2 x0 15) ∧ (q1.2 x0 15) < q1.2 (-1) 0 ∧ q1.2 (q1.2 x0 15) (-1) = 20 ∧ 0 ≤ wr x3 ∧ wr x3 < q1.2 (q1.2 x0 15) (-2)) (bnd (clR PG0 MX d 209 [vI (q1.2 (q1.2 x0 15) (wr x3))] q1.2) (fun q2 => 
        cnd (32 ≤ x0 ∧ x0 < q2.2 (-1) 0 ∧ q2.2 x0 (-1) = 9) (cnd (0 < (q2.2 x0 15) ∧ (q2.2 x0 15) < q2.2 (-1) 0 ∧ q2.2 (q2.2 x0 15) (-1) = 20 ∧ 0 ≤ wr (x3 + 1) ∧ wr (x3 + 1) < q2.2 (q2.2 x0 15) (-2)) (bnd (clR PG0 MX d 209 [vI (q2.2 (q2.2 x0 15) (wr (x3 + 1)))] q2.2) (fun q3 => 
          bnd (clR PG0 MX d 1005 [vI q2.1, vI q3.1] q3.2) (fun q4 => 
            rsP PG0 MX d 210 43 [vR x0, vI x1, vI x2, vI x3, vI q4.1] [] q4.2))) none) none)) none) none))) none :=
  blkE (cs := pgA_210) rfl [9, 43] 21 _ _ _ _
set_option maxRecDepth 100000 in
theorem sg_210_43 (d : Nat) (σ : HP) (x0 x1 x2 x3 x4 : Int) : rsP PG0 MX d 210 43 [vR x0, vI x1, vI x2, vI x3, vI x4] [] σ =
    cnd (wr x2 < wr (x4 + 2))
      (bnd (clR PG0 MX d 1004 [vI x2, vI x4] σ) (fun q1 => 
      rsP PG0 MX d 210 9 [vR x0, vI x1, vI q1.1, vI (x3 + 1), vI x4] [] q1.2))
      (some (0, σ)) :=
  blkE (cs := pgA_210) rfl [9, 43] 13 _ _ _ _
/-- OneAtATimeModel.isSnake(I)Z -/
theorem ce_211 (d : Nat) (σ : HP) (x0 x1 : Int) : clR PG0 MX (d + 1) 211 [vR x0, vI x1] σ = rsP PG0 MX d 211 0 [vR x0, vI x1, vU, vU] [] σ := rfl
set_option maxRecDepth 100000 in
theorem sg_211_0 (d : Nat) (σ : HP) (x0 x1 : Int) : rsP PG0 MX d 211 0 [vR x0, vI x1, vU, vU] [] σ =
    cnd (0 < x0 ∧ x0 < σ (-1) 0 ∧ σ x0 (-1) = 9) (bnd (clR PG0 MX d 202 [vR x0, vI x1] σ) (fun q1 => 
    cnd (wr q1.1 ≠ 0)
        (rsP PG0 MX d 211 12 [vR x0, vI x1, vI 0, vU] [] q1.2)
        (some (0, q1.2)))) none :=
  blkE (cs := pgA_211) rfl [12, 22] 8 _ _ _ _
set_option maxRecDepth 100000 in
theorem sg_211_12 (d : Nat) (σ : HP) (x0 x2 : Int) (u1 u3 : MV) : rsP PG0 MX d 211 12 [vR x0, u1, vI x2, u3] [] σ =
    cnd (32 ≤ x0 ∧ x0 < σ (-1) 0 ∧ σ x0 (-1) = 9) (cnd (wr (σ x0 17) ≤ wr x2)
      (some (1, σ))
      (rsP PG0 MX d 211 22 [vR x0, vU, vI x2, vI 0] [] σ)) none :=
  blkE (cs := pgA_211) rfl [12, 22] 8 _ _ _ _
set_option maxRecDepth 100000 in
theorem sg_211_22 (d : Nat) (σ : HP) (x0 x2 x3 : Int) (u1 : MV) : rsP PG0 MX d 211 22 [vR x0, u1, vI x2, vI x3] [] σ =
    cnd (wr x2 ≤ wr x3)
      (rsP PG0 MX d 211 12 [vR x0, vU, vI (x2 + 1), vI x3] [] σ)
      (cnd (0 < x0 ∧ x0 < σ (-1) 0 ∧ σ x0 (-1) = 9) (bnd (clR PG0 MX d 212 [vR x0, vI x2, vI x3] σ) (fun q1 => 
      cnd (wr q1.1 ≤ wr 1)
          (rsP PG0 MX d 211 22 [vR x0, vU, vI x2, vI (x3 + 1)] [] q1.2)
          (cnd (32 ≤ x0 ∧ x0 < q1.2 (-1) 0 ∧ q1.2 x0 (-1) = 9) (cnd (0 < (q1.2 x0 15) ∧ (q1.2 x0 15) < q1.2 (-1) 0 ∧ q1.2 (q1.2 x0 15) (-1) = 20 ∧ 0 ≤ wr x2 ∧ wr x2 < q1.2 (q1.2 x0 15) (-2)) (cnd (32 ≤ x0 ∧ x0 < q1.2 (-1) 0 ∧ q1.2 x0 (-1) = 9) (cnd (0 < (q1.2 x0 15) ∧ (q1.2 x0 15) < q1.2 (-1) 0 ∧ q1.2 (q1.2 x0 15) (-1) = 20 ∧ 0 ≤ wr x3 ∧ wr x3 < q1.2 (q1.2 x0 15) (-2)) (bnd (clR PG0 MX d 209 [vI (i_xor (q1.2 (q1.2 x0 15) (wr x2)) (q1.2 (q1.2 x0 15) (wr x3)))] q1.2) (fun q2 => 
          cnd (wr 2 ≤ wr q2.1)
              (rsP PG0 MX d 211 22 [vR x0, vU, vI x2, vI (x3 + 1)] [] q2.2)
              (some (0, q2.2)))) none) none) none) none))) none) :=
  blkE (cs := pgA_211) rfl [12, 22] 25 _ _ _ _
/-- OneAtATimeModel.placesApart(II)I -/
theorem ce_212 (d : Nat) (σ : HP) (x0 x1 x2 : Int) : clR PG0 MX (d + 1) 212 [vR x0, vI x1, vI x2] σ = rsP PG0 MX d 212 0 [vR x0, vI x1, vI x2, vU] [] σ := rfl
set_option maxRecDepth 100000 in
theorem sg_212_0 (d : Nat) (σ : HP) (x0 x1 x2 : Int) : rsP PG0 MX d 212 0 [vR x0, vI x1, vI x2, vU] [] σ =
    cnd (wr x2 ≤ wr x1)
      (rsP PG0 MX d 212 14 [vR x0, vI x1, vI x2, vU] [vI (x1 - x2)] σ)
      (rsP PG0 MX d 212 14 [vR x0, vI x1, vI x2, vU] [vI (x2 - x1)] σ) :=
  blkE (cs := pgA_212) rfl [14] 9 _ _ _ _
set_option maxRecDepth 100000 in
theorem sg_212_14 (d : Nat) (σ : HP) (x0 y0 : Int) (u1 u2 u3 : MV) : rsP PG0 MX d 212 14 [vR x0, u1, u2, u3] [vI y0] σ =
    cnd (32 ≤ x0 ∧ x0 < σ (-1) 0 ∧ σ x0 (-1) = 9) (cnd (wr (σ x0 18) = 0)
      (some (y0, σ))
      (cnd (32 ≤ x0 ∧ x0 < σ (-1) 0 ∧ σ x0 (-1) = 9) (bnd (clR PG0 MX d 1005 [vI y0, vI ((σ x0 17) - y0)] σ) (fun q1 => 
      some (q1.1, q1.2))) none)) none :=
  blkE (cs := pgA_212) rfl [14] 13 _ _ _ _
/-- OneAtATimeModel.isOpposite(I)Z -/
theorem ce_213 (d : Nat) (σ : HP) (x0 x1 : Int) : clR PG0 MX (d + 1) 213 [vR x0, vI x1] σ = rsP PG0 MX d 213 0 [vR x0, vI x1, vU] [] σ := rfl
set_option maxRecDepth 100000 in
theorem sg_213_0 (d : Nat) (σ : HP) (x0 x1 : Int) : rsP PG0 MX d 213 0 [vR x0, vI x1, vU] [] σ =
    cnd (0 < x0 ∧ x0 < σ (-1) 0 ∧ σ x0 (-1) = 9) (bnd (clR PG0 MX d 203 [vR x0, vI x1] σ) (fun q1 => 
    cnd (32 ≤ x0 ∧ x0 < q1.2 (-1) 0 ∧ q1.2 x0 (-1) = 9) (cnd (wr (q1.2 x0 18) = 0)
        (some (0, q1.2))
        (cnd (32 ≤ x0 ∧ x0 < q1.2 (-1) 0 ∧ q1.2 x0 (-1) = 9) (cnd (wr 2 ≠ 0) (cnd (wr (i_rem (q1.2 x0 17) 2) ≠ wr 1)
          (rsP PG0 MX d 213 26 [vR x0, vI x1, vI 0] [] q1.2)
          (some (0, q1.2))) none) none)) none)) none :=
  blkE (cs := pgA_213) rfl [26] 16 _ _ _ _
set_option maxRecDepth 100000 in
theorem sg_213_26 (d : Nat) (σ : HP) (x0 x1 x2 : Int) : rsP PG0 MX d 213 26 [vR x0, vI x1, vI x2] [] σ =
    cnd (32 ≤ x0 ∧ x0 < σ (-1) 0 ∧ σ x0 (-1) = 9) (cnd (wr 2 ≠ 0) (cnd (wr (i_div (σ x0 17) 2) ≤ wr x2)
      (some (1, σ))
      (cnd (32 ≤ x0 ∧ x0 < σ (-1) 0 ∧ σ x0 (-1) = 9) (cnd (0 < (σ x0 15) ∧ (σ x0 15) < σ (-1) 0 ∧ σ (σ x0 15) (-1) = 20 ∧ 0 ≤ wr x2 ∧ wr x2 < σ (σ x0 15) (-2)) (cnd (32 ≤ x0 ∧ x0 < σ (-1) 0 ∧ σ x0 (-1) = 9) (cnd (32 ≤ x0 ∧ x0 < σ (-1) 0 ∧ σ x0 (-1) = 9) (cnd (wr 2 ≠ 0) (cnd (0 < (σ x0 15) ∧ (σ x0 15) < σ (-1) 0 ∧ σ (σ x0 15) (-1) = 20 ∧ 0 ≤ wr (x2 + (i_div (σ x0 17) 2)) ∧ wr (x2 + (i_div (σ x0 17) 2)) < σ (σ x0 15) (-2)) (cnd (0 < x0 ∧ x0 < σ (-1) 0 ∧ σ x0 (-1) = 9) (bnd (clR PG0 MX d 207 [vR x0, vI x1] σ) (fun q1 => 
      cnd (wr (i_xor (σ (σ x0 15) (wr x2)) (σ (σ x0 15) (wr (x2 + (i_div (σ x0 17) 2))))) = wr ((i_shl 1 q1.1) - 1))
          (rsP PG0 MX d 213 26 [vR x0, vI x1, vI (x2 + 1)] [] q1.2)
          (some (0, q1.2)))) none) none) none) none) none) none) none)) none) none :=
  blkE (cs := pgA_213) rfl [26] 32 _ _ _ _
/-- OneAtATimeModel.isOneTrack(I)Z -/
theorem ce_214 (d : Nat) (σ : HP) (x0 x1 : Int) : clR PG0 MX (d + 1) 214 [vR x0, vI x1] σ = rsP PG0 MX d 214 0 [vR x0, vI x1, vU] [] σ := rfl
set_option maxRecDepth 100000 in
theorem sg_214_0 (d : Nat) (σ : HP) (x0 x1 : Int) : rsP PG0 MX d 214 0 [vR x0, vI x1, vU] [] σ =
    cnd (0 < x0 ∧ x0 < σ (-1) 0 ∧ σ x0 (-1) = 9) (bnd (clR PG0 MX d 203 [vR x0, vI x1] σ) (fun q1 => 
    rsP PG0 MX d 214 7 [vR x0, vI x1, vI 0] [] q1.2)) none :=
  blkE (cs := pgA_214) rfl [7] 7 _ _ _ _
set_option maxRecDepth 100000 in
theorem sg_214_7 (d : Nat) (σ : HP) (x0 x1 x2 : Int) : rsP PG0 MX d 214 7 [vR x0, vI x1, vI x2] [] σ =
    cnd (0 < x0 ∧ x0 < σ (-1) 0 ∧ σ x0 (-1) = 9) (bnd (clR PG0 MX d 207 [vR x0, vI x1] σ) (fun q1 => 
    cnd (wr q1.1 ≤ wr x2)
        (some (1, q1.2))
        (cnd (32 ≤ x0 ∧ x0 < q1.2 (-1) 0 ∧ q1.2 x0 (-1) = 9) (cnd (wr (q1.2 x0 18) = 0)
          (some (0, q1.2))
          (cnd (0 < x0 ∧ x0 < q1.2 (-1) 0 ∧ q1.2 x0 (-1) = 9) (bnd (clR PG0 MX d 215 [vR x0, vI x2] q1.2) (fun q2 => 
          cnd (wr q2.1 ≠ wr ((-1)))
              (rsP PG0 MX d 214 7 [vR x0, vI x1, vI (x2 + 1)] [] q2.2)
              (some (0, q2.2)))) none)) none))) none :=
  blkE (cs := pgA_214) rfl [7] 17 _ _ _ _
/-- OneAtATimeModel.shiftOf(I)I -/
theorem ce_215 (d : Nat) (σ : HP) (x0 x1 : Int) : clR PG0 MX (d + 1) 215 [vR x0, vI x1] σ = rsP PG0 MX d 215 0 [vR x0, vI x1, vU, vU, vU] [] σ := rfl
set_option maxRecDepth 100000 in
theorem sg_215_0 (d : Nat) (σ : HP) (x0 x1 : Int) : rsP PG0 MX d 215 0 [vR x0, vI x1, vU, vU, vU] [] σ =
    rsP PG0 MX d 215 2 [vR x0, vI x1, vI 0, vU, vU] [] σ :=
  blkE (cs := pgA_215) rfl [2, 15, 72] 4 _ _ _ _
set_option maxRecDepth 100000 in
theorem sg_215_2 (d : Nat) (σ : HP) (x0 x1 x2 : Int) (u3 u4 : MV) : rsP PG0 MX d 215 2 [vR x0, vI x1, vI x2, u3, u4] [] σ =
    cnd (32 ≤ x0 ∧ x0 < σ (-1) 0 ∧ σ x0 (-1) = 9) (cnd (wr (σ x0 17) ≤ wr x2)
      (some ((-1), σ))
      (rsP PG0 MX d 215 15 [vR x0, vI x1, vI x2, vI 1, vI 0] [] σ)) none :=
  blkE (cs := pgA_215) rfl [2, 15, 72] 10 _ _ _ _
set_option maxRecDepth 100000 in
theorem sg_215_15 (d : Nat) (σ : HP) (x0 x1 x2 x3 x4 : Int) : rsP PG0 MX d 215 15 [vR x0, vI x1, vI x2, vI x3, vI x4] [] σ =
    cnd (32 ≤ x0 ∧ x0 < σ (-1) 0 ∧ σ x0 (-1) = 9) (cnd (wr (σ x0 17) ≤ wr x4)
      (rsP PG0 MX d 215 72 [vR x0, vI x1, vI x2, vI x3, vI x4] [] σ)
      (cnd (wr x3 = 0)
        (rsP PG0 MX d 215 72 [vR x0, vI x1, vI x2, vI x3, vI x4] [] σ)
        (cnd (32 ≤ x0 ∧ x0 < σ (-1) 0 ∧ σ x0 (-1) = 9) (cnd (0 < (σ x0 15) ∧ (σ x0 15) < σ (-1) 0 ∧ σ (σ x0 15) (-1) = 20 ∧ 0 ≤ wr x4 ∧ wr x4 < σ (σ x0 15) (-2)) (bnd (clR PG0 MX d 216 [vI (σ (σ x0 15) (wr x4)), vI x1] σ) (fun q1 => 
        cnd (32 ≤ x0 ∧ x0 < q1.2 (-1) 0 ∧ q1.2 x0 (-1) = 9) (cnd (32 ≤ x0 ∧ x0 < q1.2 (-1) 0 ∧ q1.2 x0 (-1) = 9) (cnd (wr (q1.2 x0 17) ≠ 0) (cnd (0 < (q1.2 x0 15) ∧ (q1.2 x0 15) < q1.2 (-1) 0 ∧ q1.2 (q1.2 x0 15) (-1) = 20 ∧ 0 ≤ wr (i_rem (x4 + x2) (q1.2 x0 17)) ∧ wr (i_rem (x4 + x2) (q1.2 x0 17)) < q1.2 (q1.2 x0 15) (-2)) (bnd (clR PG0 MX d 216 [vI (q1.2 (q1.2 x0 15) (wr (i_rem (x4 + x2) (q1.2 x0 17)))), vI 0] q1.2) (fun q2 => 
          cnd (wr q1.1 ≠ wr q2.1)
              (rsP PG0 MX d 215 15 [vR x0, vI x1, vI x2, vI 0, vI (x4 + 1)] [] q2.2)
              (rsP PG0 MX d 215 15 [vR x0, vI x1, vI x2, vI 1, vI (x4 + 1)] [] q2.2))) none) none) none) none)) none) none))) none :=
  blkE (cs := pgA_215) rfl [2, 15, 72] 31 _ _ _ _
set_option maxRecDepth 100000 in
theorem sg_215_72 (d : Nat) (σ : HP) (x0 x1 x2 x3 : Int) (u4 : MV) : rsP PG0 MX d 215 72 [vR x0, vI x1, vI x2, vI x3, u4] [] σ =
    cnd (wr x3 = 0)
      (rsP PG0 MX d 215 2 [vR x0, vI x1, vI (x2 + 1), vI x3, vU] [] σ)
      (some (x2, σ)) :=
  blkE (cs := pgA_215) rfl [2, 15, 72] 6 _ _ _ _
/-- OneAtATimeModel.has(II)Z -/
theorem ce_216 (d : Nat) (σ : HP) (x0 x1 : Int) : clR PG0 MX (d + 1) 216 [vI x0, vI x1] σ = rsP PG0 MX d 216 0 [vI x0, vI x1] [] σ := rfl
set_option maxRecDepth 100000 in
theorem sg_216_0 (d : Nat) (σ : HP) (x0 x1 : Int) : rsP PG0 MX d 216 0 [vI x0, vI x1] [] σ =
    cnd (wr (i_and (i_shr x0 x1) 1) ≠ wr 1)
      (some (0, σ))
      (some (1, σ)) :=
  blkE (cs := pgA_216) rfl [] 11 _ _ _ _
/-- OneAtATimeModel.look(II)I -/
theorem ce_217 (d : Nat) (σ : HP) (x0 x1 x2 : Int) : clR PG0 MX (d + 1) 217 [vR x0, vI x1, vI x2] σ = rsP PG0 MX d 217 0 [vR x0, vI x1, vI x2, vU, vU, vU] [] σ := rfl
set_option maxRecDepth 100000 in
theorem sg_217_0 (d : Nat) (σ : HP) (x0 x1 x2 : Int) : rsP PG0 MX d 217 0 [vR x0, vI x1, vI x2, vU, vU, vU] [] σ =
    cnd (0 < x0 ∧ x0 < σ (-1) 0 ∧ σ x0 (-1) = 9) (bnd (clR PG0 MX d 180 [vR x0, vI x1] σ) (fun q1 => 
    cnd (wr q1.1 = 0)
        (some ((-2), q1.2))
        (bnd (clR PG0 MX d 179 [vL (wr x2), vL 0, vL 7] q1.2) (fun q2 => 
        cnd (wr q2.1 ≠ 0)
            (cnd (wr 5 ≤ wr x2)
              (cnd (0 < x0 ∧ x0 < q2.2 (-1) 0 ∧ q2.2 x0 (-1) = 9) (bnd (clR PG0 MX d 203 [vR x0, vI x1] q2.2) (fun q3 => 
              rsP PG0 MX d 217 48 [vR x0, vI x1, vI x2, vI 0, vI 0, vI 0] [] q3.2)) none)
              (cnd (0 < x0 ∧ x0 < q2.2 (-1) 0 ∧ q2.2 x0 (-1) = 9) (bnd (clR PG0 MX d 181 [vR x0, vI x1, vI x2] q2.2) (fun q4 => 
              some (q4.1, q4.2))) none))
            (some ((-2), q2.2)))))) none :=
  blkE (cs := pgA_217) rfl [48, 76] 24 _ _ _ _
set_option maxRecDepth 100000 in
theorem sg_217_48 (d : Nat) (σ : HP) (x0 x1 x2 x3 x4 x5 : Int) : rsP PG0 MX d 217 48 [vR x0, vI x1, vI x2, vI x3, vI x4, vI x5] [] σ =
    cnd (0 < x0 ∧ x0 < σ (-1) 0 ∧ σ x0 (-1) = 9) (bnd (clR PG0 MX d 207 [vR x0, vI x1] σ) (fun q1 => 
    cnd (wr (i_shl 1 q1.1) ≤ wr x5)
        (cnd (wr x2 ≠ wr 5)
          (cnd (wr x2 ≠ wr 6)
            (some (x4, q1.2))
            (some (x3, q1.2)))
          (cnd (32 ≤ x0 ∧ x0 < q1.2 (-1) 0 ∧ q1.2 x0 (-1) = 9) (some (q1.2 x0 17, q1.2)) none))
        (cnd (32 ≤ x0 ∧ x0 < q1.2 (-1) 0 ∧ q1.2 x0 (-1) = 9) (cnd (0 < (q1.2 x0 16) ∧ (q1.2 x0 16) < q1.2 (-1) 0 ∧ q1.2 (q1.2 x0 16) (-1) = 20 ∧ 0 ≤ wr x5 ∧ wr x5 < q1.2 (q1.2 x0 16) (-2)) (cnd (wr (q1.2 (q1.2 x0 16) (wr x5)) ≤ 0)
          (rsP PG0 MX d 217 76 [vR x0, vI x1, vI x2, vI x3, vI x4, vI x5] [vI 0, vI x3] q1.2)
          (rsP PG0 MX d 217 76 [vR x0, vI x1, vI x2, vI x3, vI x4, vI x5] [vI 1, vI x3] q1.2)) none) none))) none :=
  blkE (cs := pgA_217) rfl [48, 76] 17 _ _ _ _
set_option maxRecDepth 100000 in
theorem sg_217_76 (d : Nat) (σ : HP) (x0 x1 x2 x4 x5 y0 y1 : Int) (u3 : MV) : rsP PG0 MX d 217 76 [vR x0, vI x1, vI x2, u3, vI x4, vI x5] [vI y1, vI y0] σ =
    cnd (0 < x0 ∧ x0 < σ (-1) 0 ∧ σ x0 (-1) = 9) (bnd (clR PG0 MX d 208 [vR x0, vI x1, vI x5] σ) (fun q1 => 
    cnd (wr q1.1 = 0)
        (rsP PG0 MX d 217 48 [vR x0, vI x1, vI x2, vI (y0 + y1), vI (x4 + 0), vI (x5 + 1)] [] q1.2)
        (rsP PG0 MX d 217 48 [vR x0, vI x1, vI x2, vI (y0 + y1), vI (x4 + 1), vI (x5 + 1)] [] q1.2))) none :=
  blkE (cs := pgA_217) rfl [48, 76] 16 _ _ _ _
/-- OneAtATimeModel.word(II)I -/
theorem ce_218 (d : Nat) (σ : HP) (x0 x1 x2 : Int) : clR PG0 MX (d + 1) 218 [vR x0, vI x1, vI x2] σ = rsP PG0 MX d 218 0 [vR x0, vI x1, vI x2] [] σ := rfl
set_option maxRecDepth 100000 in
theorem sg_218_0 (d : Nat) (σ : HP) (x0 x1 x2 : Int) : rsP PG0 MX d 218 0 [vR x0, vI x1, vI x2] [] σ =
    cnd (0 < x0 ∧ x0 < σ (-1) 0 ∧ σ x0 (-1) = 9) (bnd (clR PG0 MX d 180 [vR x0, vI x1] σ) (fun q1 => 
    cnd (wr q1.1 = 0)
        (some ((-2), q1.2))
        (cnd (0 ≤ wr x2)
          (cnd (0 < x0 ∧ x0 < q1.2 (-1) 0 ∧ q1.2 x0 (-1) = 9) (bnd (clR PG0 MX d 203 [vR x0, vI x1] q1.2) (fun q2 => 
          cnd (0 < x0 ∧ x0 < q2.2 (-1) 0 ∧ q2.2 x0 (-1) = 9) (bnd (clR PG0 MX d 204 [vR x0, vI x1] q2.2) (fun q3 => 
            cnd (wr q3.1 < wr x2)
                (some ((-1), q3.2))
                (cnd (32 ≤ x0 ∧ x0 < q3.2 (-1) 0 ∧ q3.2 x0 (-1) = 9) (cnd (0 < (q3.2 x0 15) ∧ (q3.2 x0 15) < q3.2 (-1) 0 ∧ q3.2 (q3.2 x0 15) (-1) = 20 ∧ 0 ≤ wr x2 ∧ wr x2 < q3.2 (q3.2 x0 15) (-2)) (some (q3.2 (q3.2 x0 15) (wr x2), q3.2)) none) none))) none)) none)
          (some ((-2), q1.2))))) none :=
  blkE (cs := pgA_218) rfl [] 21 _ _ _ _
/-- OneAtATimeModel.step(II)I -/
theorem ce_219 (d : Nat) (σ : HP) (x0 x1 x2 : Int) : clR PG0 MX (d + 1) 219 [vR x0, vI x1, vI x2] σ = rsP PG0 MX d 219 0 [vR x0, vI x1, vI x2] [] σ := rfl
set_option maxRecDepth 100000 in
theorem sg_219_0 (d : Nat) (σ : HP) (x0 x1 x2 : Int) : rsP PG0 MX d 219 0 [vR x0, vI x1, vI x2] [] σ =
    cnd (0 < x0 ∧ x0 < σ (-1) 0 ∧ σ x0 (-1) = 9) (bnd (clR PG0 MX d 180 [vR x0, vI x1] σ) (fun q1 => 
    cnd (wr q1.1 = 0)
        (some ((-2), q1.2))
        (cnd (0 ≤ wr x2)
          (cnd (0 < x0 ∧ x0 < q1.2 (-1) 0 ∧ q1.2 x0 (-1) = 9) (bnd (clR PG0 MX d 204 [vR x0, vI x1] q1.2) (fun q2 => 
          cnd (wr q2.1 ≤ wr x2)
              (some ((-1), q2.2))
              (cnd (0 < x0 ∧ x0 < q2.2 (-1) 0 ∧ q2.2 x0 (-1) = 9) (bnd (clR PG0 MX d 205 [vR x0, vI x1, vI x2] q2.2) (fun q3 => 
              some (q3.1, q3.2))) none))) none)
          (some ((-2), q1.2))))) none :=
  blkE (cs := pgA_219) rfl [] 18 _ _ _ _
/-- OneAtATimeModel.where(III)I -/
theorem ce_220 (d : Nat) (σ : HP) (x0 x1 x2 x3 : Int) : clR PG0 MX (d + 1) 220 [vR x0, vI x1, vI x2, vI x3] σ = rsP PG0 MX d 220 0 [vR x0, vI x1, vI x2, vI x3, vU, vU] [] σ := rfl
set_option maxRecDepth 100000 in
theorem sg_220_0 (d : Nat) (σ : HP) (x0 x1 x2 x3 : Int) : rsP PG0 MX d 220 0 [vR x0, vI x1, vI x2, vI x3, vU, vU] [] σ =
    cnd (0 < x0 ∧ x0 < σ (-1) 0 ∧ σ x0 (-1) = 9) (bnd (clR PG0 MX d 221 [vR x0, vI x1, vI x2] σ) (fun q1 => 
    cnd (wr q1.1 = 0)
        (some ((-2), q1.2))
        (cnd (0 ≤ wr x3)
          (cnd (0 < x0 ∧ x0 < q1.2 (-1) 0 ∧ q1.2 x0 (-1) = 9) (bnd (clR PG0 MX d 203 [vR x0, vI x1] q1.2) (fun q2 => 
          rsP PG0 MX d 220 27 [vR x0, vI x1, vI x2, vI x3, vI x3, vI 0] [] q2.2)) none)
          (some ((-2), q1.2))))) none :=
  blkE (cs := pgA_220) rfl [27] 16 _ _ _ _
set_option maxRecDepth 100000 in
theorem sg_220_27 (d : Nat) (σ : HP) (x0 x2 x4 x5 : Int) (u1 u3 : MV) : rsP PG0 MX d 220 27 [vR x0, u1, vI x2, u3, vI x4, vI x5] [] σ =
    cnd (32 ≤ x0 ∧ x0 < σ (-1) 0 ∧ σ x0 (-1) = 9) (cnd (wr (σ x0 17) ≤ wr x5)
      (some ((-1), σ))
      (cnd (32 ≤ x0 ∧ x0 < σ (-1) 0 ∧ σ x0 (-1) = 9) (cnd (0 < (σ x0 15) ∧ (σ x0 15) < σ (-1) 0 ∧ σ (σ x0 15) (-1) = 20 ∧ 0 ≤ wr x5 ∧ wr x5 < σ (σ x0 15) (-2)) (cnd (wr (σ (σ x0 15) (wr x5)) ≠ wr x2)
        (rsP PG0 MX d 220 27 [vR x0, vU, vI x2, vU, vI x4, vI (x5 + 1)] [] σ)
        (cnd (wr x4 ≠ 0)
          (rsP PG0 MX d 220 27 [vR x0, vU, vI x2, vU, vI (x4 + (-1)), vI (x5 + 1)] [] σ)
          (some (x5, σ)))) none) none)) none :=
  blkE (cs := pgA_220) rfl [27] 17 _ _ _ _
/-- OneAtATimeModel.isWordOf(II)Z -/
theorem ce_221 (d : Nat) (σ : HP) (x0 x1 x2 : Int) : clR PG0 MX (d + 1) 221 [vR x0, vI x1, vI x2] σ = rsP PG0 MX d 221 0 [vR x0, vI x1, vI x2] [] σ := rfl
set_option maxRecDepth 100000 in
theorem sg_221_0 (d : Nat) (σ : HP) (x0 x1 x2 : Int) : rsP PG0 MX d 221 0 [vR x0, vI x1, vI x2] [] σ =
    cnd (0 < x0 ∧ x0 < σ (-1) 0 ∧ σ x0 (-1) = 9) (bnd (clR PG0 MX d 180 [vR x0, vI x1] σ) (fun q1 => 
    cnd (wr q1.1 = 0)
        (some (0, q1.2))
        (cnd (0 < x0 ∧ x0 < q1.2 (-1) 0 ∧ q1.2 x0 (-1) = 9) (bnd (clR PG0 MX d 207 [vR x0, vI x1] q1.2) (fun q2 => 
        bnd (clR PG0 MX d 179 [vL (wr x2), vL 0, vL (wr ((i_shl 1 q2.1) - 1))] q2.2) (fun q3 => 
          cnd (wr q3.1 = 0)
              (some (0, q3.2))
              (some (1, q3.2))))) none))) none :=
  blkE (cs := pgA_221) rfl [] 21 _ _ _ _
/-- OneAtATimeModel.lacks(II)I -/
theorem ce_222 (d : Nat) (σ : HP) (x0 x1 x2 : Int) : clR PG0 MX (d + 1) 222 [vR x0, vI x1, vI x2] σ = rsP PG0 MX d 222 0 [vR x0, vI x1, vI x2, vU, vU] [] σ := rfl
set_option maxRecDepth 100000 in
theorem sg_222_0 (d : Nat) (σ : HP) (x0 x1 x2 : Int) : rsP PG0 MX d 222 0 [vR x0, vI x1, vI x2, vU, vU] [] σ =
    cnd (0 < x0 ∧ x0 < σ (-1) 0 ∧ σ x0 (-1) = 9) (bnd (clR PG0 MX d 180 [vR x0, vI x1] σ) (fun q1 => 
    cnd (wr q1.1 = 0)
        (some ((-2), q1.2))
        (cnd (0 ≤ wr x2)
          (cnd (0 < x0 ∧ x0 < q1.2 (-1) 0 ∧ q1.2 x0 (-1) = 9) (bnd (clR PG0 MX d 203 [vR x0, vI x1] q1.2) (fun q2 => 
          rsP PG0 MX d 222 25 [vR x0, vI x1, vI x2, vI x2, vI 0] [] q2.2)) none)
          (some ((-2), q1.2))))) none :=
  blkE (cs := pgA_222) rfl [25] 15 _ _ _ _
set_option maxRecDepth 100000 in
theorem sg_222_25 (d : Nat) (σ : HP) (x0 x1 x3 x4 : Int) (u2 : MV) : rsP PG0 MX d 222 25 [vR x0, vI x1, u2, vI x3, vI x4] [] σ =
    cnd (0 < x0 ∧ x0 < σ (-1) 0 ∧ σ x0 (-1) = 9) (bnd (clR PG0 MX d 207 [vR x0, vI x1] σ) (fun q1 => 
    cnd (wr (i_shl 1 q1.1) ≤ wr x4)
        (some ((-1), q1.2))
        (cnd (0 < x0 ∧ x0 < q1.2 (-1) 0 ∧ q1.2 x0 (-1) = 9) (bnd (clR PG0 MX d 208 [vR x0, vI x1, vI x4] q1.2) (fun q2 => 
        cnd (wr q2.1 = 0)
            (rsP PG0 MX d 222 25 [vR x0, vI x1, vU, vI x3, vI (x4 + 1)] [] q2.2)
            (cnd (32 ≤ x0 ∧ x0 < q2.2 (-1) 0 ∧ q2.2 x0 (-1) = 9) (cnd (0 < (q2.2 x0 16) ∧ (q2.2 x0 16) < q2.2 (-1) 0 ∧ q2.2 (q2.2 x0 16) (-1) = 20 ∧ 0 ≤ wr x4 ∧ wr x4 < q2.2 (q2.2 x0 16) (-2)) (cnd (wr (q2.2 (q2.2 x0 16) (wr x4)) ≠ 0)
              (rsP PG0 MX d 222 25 [vR x0, vI x1, vU, vI x3, vI (x4 + 1)] [] q2.2)
              (cnd (wr x3 ≠ 0)
                (rsP PG0 MX d 222 25 [vR x0, vI x1, vU, vI (x3 + (-1)), vI (x4 + 1)] [] q2.2)
                (some (x4, q2.2)))) none) none))) none))) none :=
  blkE (cs := pgA_222) rfl [25] 24 _ _ _ _
/-- OneAtATimeModel.turned(II)I -/
theorem ce_223 (d : Nat) (σ : HP) (x0 x1 x2 : Int) : clR PG0 MX (d + 1) 223 [vR x0, vI x1, vI x2] σ = rsP PG0 MX d 223 0 [vR x0, vI x1, vI x2] [] σ := rfl
set_option maxRecDepth 100000 in
theorem sg_223_0 (d : Nat) (σ : HP) (x0 x1 x2 : Int) : rsP PG0 MX d 223 0 [vR x0, vI x1, vI x2] [] σ =
    cnd (0 < x0 ∧ x0 < σ (-1) 0 ∧ σ x0 (-1) = 9) (bnd (clR PG0 MX d 224 [vR x0, vI x1, vI x2] σ) (fun q1 => 
    cnd (wr q1.1 = 0)
        (some ((-2), q1.2))
        (cnd (0 < x0 ∧ x0 < q1.2 (-1) 0 ∧ q1.2 x0 (-1) = 9) (bnd (clR PG0 MX d 225 [vR x0, vI x1, vI x2] q1.2) (fun q2 => 
        some (q2.1, q2.2))) none))) none :=
  blkE (cs := pgA_223) rfl [] 12 _ _ _ _
/-- OneAtATimeModel.isBit(II)Z -/
theorem ce_224 (d : Nat) (σ : HP) (x0 x1 x2 : Int) : clR PG0 MX (d + 1) 224 [vR x0, vI x1, vI x2] σ = rsP PG0 MX d 224 0 [vR x0, vI x1, vI x2] [] σ := rfl
set_option maxRecDepth 100000 in
theorem sg_224_0 (d : Nat) (σ : HP) (x0 x1 x2 : Int) : rsP PG0 MX d 224 0 [vR x0, vI x1, vI x2] [] σ =
    cnd (0 < x0 ∧ x0 < σ (-1) 0 ∧ σ x0 (-1) = 9) (bnd (clR PG0 MX d 180 [vR x0, vI x1] σ) (fun q1 => 
    cnd (wr q1.1 = 0)
        (some (0, q1.2))
        (cnd (0 < x0 ∧ x0 < q1.2 (-1) 0 ∧ q1.2 x0 (-1) = 9) (bnd (clR PG0 MX d 207 [vR x0, vI x1] q1.2) (fun q2 => 
        bnd (clR PG0 MX d 179 [vL (wr x2), vL 0, vL (wr (q2.1 - 1))] q2.2) (fun q3 => 
          cnd (wr q3.1 = 0)
              (some (0, q3.2))
              (some (1, q3.2))))) none))) none :=
  blkE (cs := pgA_224) rfl [] 19 _ _ _ _
/-- OneAtATimeModel.turnedOf(II)I -/
theorem ce_225 (d : Nat) (σ : HP) (x0 x1 x2 : Int) : clR PG0 MX (d + 1) 225 [vR x0, vI x1, vI x2] σ = rsP PG0 MX d 225 0 [vR x0, vI x1, vI x2, vU, vU] [] σ := rfl
set_option maxRecDepth 100000 in
theorem sg_225_0 (d : Nat) (σ : HP) (x0 x1 x2 : Int) : rsP PG0 MX d 225 0 [vR x0, vI x1, vI x2, vU, vU] [] σ =
    rsP PG0 MX d 225 5 [vR x0, vI x1, vI x2, vI 0, vI 0] [] σ :=
  blkE (cs := pgA_225) rfl [5] 6 _ _ _ _
set_option maxRecDepth 100000 in
theorem sg_225_5 (d : Nat) (σ : HP) (x0 x1 x2 x3 x4 : Int) : rsP PG0 MX d 225 5 [vR x0, vI x1, vI x2, vI x3, vI x4] [] σ =
    cnd (0 < x0 ∧ x0 < σ (-1) 0 ∧ σ x0 (-1) = 9) (bnd (clR PG0 MX d 204 [vR x0, vI x1] σ) (fun q1 => 
    cnd (wr q1.1 ≤ wr x4)
        (some (x3, q1.2))
        (cnd (0 < x0 ∧ x0 < q1.2 (-1) 0 ∧ q1.2 x0 (-1) = 9) (bnd (clR PG0 MX d 205 [vR x0, vI x1, vI x4] q1.2) (fun q2 => 
        cnd (wr q2.1 ≠ wr x2)
            (rsP PG0 MX d 225 5 [vR x0, vI x1, vI x2, vI (x3 + 0), vI (x4 + 1)] [] q2.2)
            (rsP PG0 MX d 225 5 [vR x0, vI x1, vI x2, vI (x3 + 1), vI (x4 + 1)] [] q2.2))) none))) none :=
  blkE (cs := pgA_225) rfl [5] 20 _ _ _ _
/-- OneAtATimeModel.order(II)I -/
theorem ce_226 (d : Nat) (σ : HP) (x0 x1 x2 : Int) : clR PG0 MX (d + 1) 226 [vR x0, vI x1, vI x2] σ = rsP PG0 MX d 226 0 [vR x0, vI x1, vI x2, vU, vU, vU] [] σ := rfl
set_option maxRecDepth 100000 in
theorem sg_226_0 (d : Nat) (σ : HP) (x0 x1 x2 : Int) : rsP PG0 MX d 226 0 [vR x0, vI x1, vI x2, vU, vU, vU] [] σ =
    cnd (0 < x0 ∧ x0 < σ (-1) 0 ∧ σ x0 (-1) = 9) (bnd (clR PG0 MX d 224 [vR x0, vI x1, vI x2] σ) (fun q1 => 
    cnd (wr q1.1 ≠ 0)
        (rsP PG0 MX d 226 14 [vR x0, vI x1, vI x2, vI 0, vU, vU] [] q1.2)
        (some ((-2), q1.2)))) none :=
  blkE (cs := pgA_226) rfl [14, 29, 79, 87] 9 _ _ _ _
set_option maxRecDepth 100000 in
theorem sg_226_14 (d : Nat) (σ : HP) (x0 x1 x2 x3 : Int) (u4 u5 : MV) : rsP PG0 MX d 226 14 [vR x0, vI x1, vI x2, vI x3, u4, u5] [] σ =
    cnd (0 < x0 ∧ x0 < σ (-1) 0 ∧ σ x0 (-1) = 9) (bnd (clR PG0 MX d 207 [vR x0, vI x1] σ) (fun q1 => 
    cnd (wr q1.1 ≤ wr x3)
        (some ((-1), q1.2))
        (rsP PG0 MX d 226 29 [vR x0, vI x1, vI x2, vI x3, vI 0, vI 0] [] q1.2))) none :=
  blkE (cs := pgA_226) rfl [14, 29, 79, 87] 11 _ _ _ _
set_option maxRecDepth 100000 in
theorem sg_226_29 (d : Nat) (σ : HP) (x0 x1 x2 x3 x4 x5 : Int) : rsP PG0 MX d 226 29 [vR x0, vI x1, vI x2, vI x3, vI x4, vI x5] [] σ =
    cnd (0 < x0 ∧ x0 < σ (-1) 0 ∧ σ x0 (-1) = 9) (bnd (clR PG0 MX d 207 [vR x0, vI x1] σ) (fun q1 => 
    cnd (wr q1.1 ≤ wr x5)
        (cnd (wr x4 ≠ wr x2)
          (rsP PG0 MX d 226 14 [vR x0, vI x1, vI x2, vI (x3 + 1), vI x4, vI x5] [] q1.2)
          (some (x3, q1.2)))
        (cnd (0 < x0 ∧ x0 < q1.2 (-1) 0 ∧ q1.2 x0 (-1) = 9) (bnd (clR PG0 MX d 225 [vR x0, vI x1, vI x5] q1.2) (fun q2 => 
        cnd (0 < x0 ∧ x0 < q2.2 (-1) 0 ∧ q2.2 x0 (-1) = 9) (bnd (clR PG0 MX d 225 [vR x0, vI x1, vI x3] q2.2) (fun q3 => 
          cnd (wr q3.1 < wr q2.1)
              (rsP PG0 MX d 226 79 [vR x0, vI x1, vI x2, vI x3, vI x4, vI x5] [vI x4] q3.2)
              (cnd (0 < x0 ∧ x0 < q3.2 (-1) 0 ∧ q3.2 x0 (-1) = 9) (bnd (clR PG0 MX d 225 [vR x0, vI x1, vI x5] q3.2) (fun q4 => 
              cnd (0 < x0 ∧ x0 < q4.2 (-1) 0 ∧ q4.2 x0 (-1) = 9) (bnd (clR PG0 MX d 225 [vR x0, vI x1, vI x3] q4.2) (fun q5 => 
                cnd (wr q4.1 ≠ wr q5.1)
                    (rsP PG0 MX d 226 87 [vR x0, vI x1, vI x2, vI x3, vI (x4 + 0), vI x5] [] q5.2)
                    (cnd (wr x3 ≤ wr x5)
                      (rsP PG0 MX d 226 87 [vR x0, vI x1, vI x2, vI x3, vI (x4 + 0), vI x5] [] q5.2)
                      (rsP PG0 MX d 226 79 [vR x0, vI x1, vI x2, vI x3, vI x4, vI x5] [vI x4] q5.2)))) none)) none))) none)) none))) none :=
  blkE (cs := pgA_226) rfl [14, 29, 79, 87] 32 _ _ _ _
set_option maxRecDepth 100000 in
theorem sg_226_79 (d : Nat) (σ : HP) (x0 x1 x2 x3 x5 y0 : Int) (u4 : MV) : rsP PG0 MX d 226 79 [vR x0, vI x1, vI x2, vI x3, u4, vI x5] [vI y0] σ =
    rsP PG0 MX d 226 87 [vR x0, vI x1, vI x2, vI x3, vI (y0 + 1), vI x5] [] σ :=
  blkE (cs := pgA_226) rfl [14, 29, 79, 87] 6 _ _ _ _
set_option maxRecDepth 100000 in
theorem sg_226_87 (d : Nat) (σ : HP) (x0 x1 x2 x3 x4 x5 : Int) : rsP PG0 MX d 226 87 [vR x0, vI x1, vI x2, vI x3, vI x4, vI x5] [] σ =
    rsP PG0 MX d 226 29 [vR x0, vI x1, vI x2, vI x3, vI x4, vI (x5 + 1)] [] σ :=
  blkE (cs := pgA_226) rfl [14, 29, 79, 87] 4 _ _ _ _
/-- OneAtATimeModel.uneven(I)I -/
theorem ce_227 (d : Nat) (σ : HP) (x0 x1 : Int) : clR PG0 MX (d + 1) 227 [vR x0, vI x1] σ = rsP PG0 MX d 227 0 [vR x0, vI x1] [] σ := rfl
set_option maxRecDepth 100000 in
theorem sg_227_0 (d : Nat) (σ : HP) (x0 x1 : Int) : rsP PG0 MX d 227 0 [vR x0, vI x1] [] σ =
    cnd (0 < x0 ∧ x0 < σ (-1) 0 ∧ σ x0 (-1) = 9) (bnd (clR PG0 MX d 180 [vR x0, vI x1] σ) (fun q1 => 
    cnd (wr q1.1 ≠ 0)
        (cnd (0 < x0 ∧ x0 < q1.2 (-1) 0 ∧ q1.2 x0 (-1) = 9) (bnd (clR PG0 MX d 226 [vR x0, vI x1, vI 0] q1.2) (fun q2 => 
        cnd (0 < x0 ∧ x0 < q2.2 (-1) 0 ∧ q2.2 x0 (-1) = 9) (bnd (clR PG0 MX d 225 [vR x0, vI x1, vI q2.1] q2.2) (fun q3 => 
          cnd (0 < x0 ∧ x0 < q3.2 (-1) 0 ∧ q3.2 x0 (-1) = 9) (bnd (clR PG0 MX d 207 [vR x0, vI x1] q3.2) (fun q4 => 
            cnd (0 < x0 ∧ x0 < q4.2 (-1) 0 ∧ q4.2 x0 (-1) = 9) (bnd (clR PG0 MX d 226 [vR x0, vI x1, vI (q4.1 - 1)] q4.2) (fun q5 => 
              cnd (0 < x0 ∧ x0 < q5.2 (-1) 0 ∧ q5.2 x0 (-1) = 9) (bnd (clR PG0 MX d 225 [vR x0, vI x1, vI q5.1] q5.2) (fun q6 => 
                some (q3.1 - q6.1, q6.2))) none)) none)) none)) none)) none)
        (some ((-2), q1.2)))) none :=
  blkE (cs := pgA_227) rfl [] 25 _ _ _ _
/-- OneAtATimeModel.gap(II)I -/
theorem ce_228 (d : Nat) (σ : HP) (x0 x1 x2 : Int) : clR PG0 MX (d + 1) 228 [vR x0, vI x1, vI x2] σ = rsP PG0 MX d 228 0 [vR x0, vI x1, vI x2, vU, vU, vU] [] σ := rfl
set_option maxRecDepth 100000 in
theorem sg_228_0 (d : Nat) (σ : HP) (x0 x1 x2 : Int) : rsP PG0 MX d 228 0 [vR x0, vI x1, vI x2, vU, vU, vU] [] σ =
    cnd (0 < x0 ∧ x0 < σ (-1) 0 ∧ σ x0 (-1) = 9) (bnd (clR PG0 MX d 180 [vR x0, vI x1] σ) (fun q1 => 
    cnd (wr q1.1 = 0)
        (some ((-2), q1.2))
        (cnd (wr x2 = wr ((-1)))
          (rsP PG0 MX d 228 25 [vR x0, vI x1, vI x2, vU, vU, vU] [] q1.2)
          (cnd (0 < x0 ∧ x0 < q1.2 (-1) 0 ∧ q1.2 x0 (-1) = 9) (bnd (clR PG0 MX d 224 [vR x0, vI x1, vI x2] q1.2) (fun q2 => 
          cnd (wr q2.1 ≠ 0)
              (rsP PG0 MX d 228 25 [vR x0, vI x1, vI x2, vU, vU, vU] [] q2.2)
              (some ((-2), q2.2)))) none)))) none :=
  blkE (cs := pgA_228) rfl [25, 42] 15 _ _ _ _
set_option maxRecDepth 100000 in
theorem sg_228_25 (d : Nat) (σ : HP) (x0 x1 x2 : Int) (u3 u4 u5 : MV) : rsP PG0 MX d 228 25 [vR x0, vI x1, vI x2, u3, u4, u5] [] σ =
    cnd (wr x2 = wr ((-1)))
      (rsP PG0 MX d 228 42 [vR x0, vI x1, vI x2, vI ((-1)), vI 0, vU] [] σ)
      (cnd (0 < x0 ∧ x0 < σ (-1) 0 ∧ σ x0 (-1) = 9) (bnd (clR PG0 MX d 229 [vR x0, vI x1, vI x2] σ) (fun q1 => 
      some (q1.1, q1.2))) none) :=
  blkE (cs := pgA_228) rfl [25, 42] 9 _ _ _ _
set_option maxRecDepth 100000 in
theorem sg_228_42 (d : Nat) (σ : HP) (x0 x1 x3 x4 : Int) (u2 u5 : MV) : rsP PG0 MX d 228 42 [vR x0, vI x1, u2, vI x3, vI x4, u5] [] σ =
    cnd (0 < x0 ∧ x0 < σ (-1) 0 ∧ σ x0 (-1) = 9) (bnd (clR PG0 MX d 207 [vR x0, vI x1] σ) (fun q1 => 
    cnd (wr q1.1 ≤ wr x4)
        (some (x3, q1.2))
        (cnd (0 < x0 ∧ x0 < q1.2 (-1) 0 ∧ q1.2 x0 (-1) = 9) (bnd (clR PG0 MX d 229 [vR x0, vI x1, vI x4] q1.2) (fun q2 => 
        cnd (wr q2.1 = wr ((-1)))
            (rsP PG0 MX d 228 42 [vR x0, vI x1, vU, vI x3, vI (x4 + 1), vU] [] q2.2)
            (cnd (wr x3 = wr ((-1)))
              (rsP PG0 MX d 228 42 [vR x0, vI x1, vU, vI q2.1, vI (x4 + 1), vU] [] q2.2)
              (cnd (wr x3 ≤ wr q2.1)
                (rsP PG0 MX d 228 42 [vR x0, vI x1, vU, vI x3, vI (x4 + 1), vU] [] q2.2)
                (rsP PG0 MX d 228 42 [vR x0, vI x1, vU, vI q2.1, vI (x4 + 1), vU] [] q2.2))))) none))) none :=
  blkE (cs := pgA_228) rfl [25, 42] 26 _ _ _ _
/-- OneAtATimeModel.gapOf(II)I -/
theorem ce_229 (d : Nat) (σ : HP) (x0 x1 x2 : Int) : clR PG0 MX (d + 1) 229 [vR x0, vI x1, vI x2] σ = rsP PG0 MX d 229 0 [vR x0, vI x1, vI x2, vU, vU, vU, vU] [] σ := rfl
set_option maxRecDepth 100000 in
theorem sg_229_0 (d : Nat) (σ : HP) (x0 x1 x2 : Int) : rsP PG0 MX d 229 0 [vR x0, vI x1, vI x2, vU, vU, vU, vU] [] σ =
    rsP PG0 MX d 229 11 [vR x0, vI x1, vI x2, vI ((-1)), vI ((-1)), vI ((-1)), vI 0] [] σ :=
  blkE (cs := pgA_229) rfl [11, 55, 63, 64] 10 _ _ _ _
set_option maxRecDepth 100000 in
theorem sg_229_11 (d : Nat) (σ : HP) (x0 x1 x2 x3 x4 x5 x6 : Int) : rsP PG0 MX d 229 11 [vR x0, vI x1, vI x2, vI x3, vI x4, vI x5, vI x6] [] σ =
    cnd (0 < x0 ∧ x0 < σ (-1) 0 ∧ σ x0 (-1) = 9) (bnd (clR PG0 MX d 204 [vR x0, vI x1] σ) (fun q1 => 
    cnd (wr q1.1 ≤ wr x6)
        (cnd (0 < x0 ∧ x0 < q1.2 (-1) 0 ∧ q1.2 x0 (-1) = 9) (bnd (clR PG0 MX d 203 [vR x0, vI x1] q1.2) (fun q2 => 
        cnd (32 ≤ x0 ∧ x0 < q2.2 (-1) 0 ∧ q2.2 x0 (-1) = 9) (cnd (wr (q2.2 x0 18) = 0)
            (some (x3, q2.2))
            (cnd (wr x5 = wr ((-1)))
              (some (x3, q2.2))
              (cnd (0 < x0 ∧ x0 < q2.2 (-1) 0 ∧ q2.2 x0 (-1) = 9) (bnd (clR PG0 MX d 204 [vR x0, vI x1] q2.2) (fun q3 => 
              cnd (wr x3 = wr ((-1)))
                  (some ((x5 + q3.1) - x4, q3.2))
                  (cnd (wr x3 ≤ wr ((x5 + q3.1) - x4))
                    (some (x3, q3.2))
                    (some ((x5 + q3.1) - x4, q3.2))))) none))) none)) none)
        (cnd (0 < x0 ∧ x0 < q1.2 (-1) 0 ∧ q1.2 x0 (-1) = 9) (bnd (clR PG0 MX d 205 [vR x0, vI x1, vI x6] q1.2) (fun q4 => 
        cnd (wr q4.1 = wr x2)
            (cnd (wr x4 = wr ((-1)))
              (rsP PG0 MX d 229 63 [vR x0, vI x1, vI x2, vI x3, vI x4, vI x5, vI x6] [] q4.2)
              (cnd (wr x3 = wr ((-1)))
                (rsP PG0 MX d 229 55 [vR x0, vI x1, vI x2, vI x3, vI x4, vI x5, vI x6] [] q4.2)
                (cnd (wr x3 ≤ wr (x6 - x4))
                  (rsP PG0 MX d 229 63 [vR x0, vI x1, vI x2, vI x3, vI x4, vI x5, vI x6] [] q4.2)
                  (rsP PG0 MX d 229 55 [vR x0, vI x1, vI x2, vI x3, vI x4, vI x5, vI x6] [] q4.2))))
            (rsP PG0 MX d 229 11 [vR x0, vI x1, vI x2, vI x3, vI x4, vI x5, vI (x6 + 1)] [] q4.2))) none))) none :=
  blkE (cs := pgA_229) rfl [11, 55, 63, 64] 34 _ _ _ _
set_option maxRecDepth 100000 in
theorem sg_229_55 (d : Nat) (σ : HP) (x0 x1 x2 x4 x5 x6 : Int) (u3 : MV) : rsP PG0 MX d 229 55 [vR x0, vI x1, vI x2, u3, vI x4, vI x5, vI x6] [] σ =
    rsP PG0 MX d 229 64 [vR x0, vI x1, vI x2, vU, vI x4, vI x5, vI x6] [vI (x6 - x4)] σ :=
  blkE (cs := pgA_229) rfl [11, 55, 63, 64] 6 _ _ _ _
set_option maxRecDepth 100000 in
theorem sg_229_63 (d : Nat) (σ : HP) (x0 x1 x2 x3 x5 x6 : Int) (u4 : MV) : rsP PG0 MX d 229 63 [vR x0, vI x1, vI x2, vI x3, u4, vI x5, vI x6] [] σ =
    rsP PG0 MX d 229 64 [vR x0, vI x1, vI x2, vI x3, vU, vI x5, vI x6] [vI x3] σ :=
  blkE (cs := pgA_229) rfl [11, 55, 63, 64] 3 _ _ _ _
set_option maxRecDepth 100000 in
theorem sg_229_64 (d : Nat) (σ : HP) (x0 x1 x2 x5 x6 y0 : Int) (u3 u4 : MV) : rsP PG0 MX d 229 64 [vR x0, vI x1, vI x2, u3, u4, vI x5, vI x6] [vI y0] σ =
    cnd (wr x5 ≠ wr ((-1)))
      (rsP PG0 MX d 229 11 [vR x0, vI x1, vI x2, vI y0, vI x6, vI x5, vI (x6 + 1)] [] σ)
      (rsP PG0 MX d 229 11 [vR x0, vI x1, vI x2, vI y0, vI x6, vI x6, vI (x6 + 1)] [] σ) :=
  blkE (cs := pgA_229) rfl [11, 55, 63, 64] 13 _ _ _ _
/-- OneAtATimeModel.run(III)I -/
theorem ce_230 (d : Nat) (σ : HP) (x0 x1 x2 x3 : Int) : clR PG0 MX (d + 1) 230 [vR x0, vI x1, vI x2, vI x3] σ = rsP PG0 MX d 230 0 [vR x0, vI x1, vI x2, vI x3, vU, vU, vU] [] σ := rfl
set_option maxRecDepth 100000 in
theorem sg_230_0 (d : Nat) (σ : HP) (x0 x1 x2 x3 : Int) : rsP PG0 MX d 230 0 [vR x0, vI x1, vI x2, vI x3, vU, vU, vU] [] σ =
    cnd (0 < x0 ∧ x0 < σ (-1) 0 ∧ σ x0 (-1) = 9) (bnd (clR PG0 MX d 224 [vR x0, vI x1, vI x2] σ) (fun q1 => 
    cnd (wr q1.1 = 0)
        (some ((-2), q1.2))
        (bnd (clR PG0 MX d 179 [vL (wr x3), vL 0, vL 1] q1.2) (fun q2 => 
        cnd (wr q2.1 ≠ 0)
            (cnd (0 < x0 ∧ x0 < q2.2 (-1) 0 ∧ q2.2 x0 (-1) = 9) (bnd (clR PG0 MX d 203 [vR x0, vI x1] q2.2) (fun q3 => 
            rsP PG0 MX d 230 36 [vR x0, vI x1, vI x2, vI x3, vI 0, vI 0, vI 0] [] q3.2)) none)
            (some ((-2), q2.2)))))) none :=
  blkE (cs := pgA_230) rfl [36, 58, 85] 22 _ _ _ _
set_option maxRecDepth 100000 in
theorem sg_230_36 (d : Nat) (σ : HP) (x0 x2 x3 x4 x5 x6 : Int) (u1 : MV) : rsP PG0 MX d 230 36 [vR x0, u1, vI x2, vI x3, vI x4, vI x5, vI x6] [] σ =
    cnd (32 ≤ x0 ∧ x0 < σ (-1) 0 ∧ σ x0 (-1) = 9) (cnd (wr (σ x0 18) = 0)
      (cnd (32 ≤ x0 ∧ x0 < σ (-1) 0 ∧ σ x0 (-1) = 9) (rsP PG0 MX d 230 58 [vR x0, vU, vI x2, vI x3, vI x4, vI x5, vI x6] [vI (σ x0 17), vI x6] σ) none)
      (cnd (32 ≤ x0 ∧ x0 < σ (-1) 0 ∧ σ x0 (-1) = 9) (rsP PG0 MX d 230 58 [vR x0, vU, vI x2, vI x3, vI x4, vI x5, vI x6] [vI (2 * (σ x0 17)), vI x6] σ) none)) none :=
  blkE (cs := pgA_230) rfl [36, 58, 85] 11 _ _ _ _
set_option maxRecDepth 100000 in
theorem sg_230_58 (d : Nat) (σ : HP) (x0 x2 x3 x4 x5 x6 y0 y1 : Int) (u1 : MV) : rsP PG0 MX d 230 58 [vR x0, u1, vI x2, vI x3, vI x4, vI x5, vI x6] [vI y1, vI y0] σ =
    cnd (wr y1 ≤ wr y0)
      (some (x4, σ))
      (cnd (32 ≤ x0 ∧ x0 < σ (-1) 0 ∧ σ x0 (-1) = 9) (cnd (wr (σ x0 17) ≠ 0) (cnd (0 < x0 ∧ x0 < σ (-1) 0 ∧ σ x0 (-1) = 9) (bnd (clR PG0 MX d 231 [vR x0, vI (i_rem x6 (σ x0 17)), vI x2, vI x3] σ) (fun q1 => 
      cnd (wr q1.1 = 0)
          (rsP PG0 MX d 230 85 [vR x0, vU, vI x2, vI x3, vI x4, vI x5, vI x6] [vI 0] q1.2)
          (rsP PG0 MX d 230 85 [vR x0, vU, vI x2, vI x3, vI x4, vI x5, vI x6] [vI (x5 + 1)] q1.2))) none) none) none) :=
  blkE (cs := pgA_230) rfl [36, 58, 85] 16 _ _ _ _
set_option maxRecDepth 100000 in
theorem sg_230_85 (d : Nat) (σ : HP) (x0 x2 x3 x4 x6 y0 : Int) (u1 u5 : MV) : rsP PG0 MX d 230 85 [vR x0, u1, vI x2, vI x3, vI x4, u5, vI x6] [vI y0] σ =
    cnd (32 ≤ x0 ∧ x0 < σ (-1) 0 ∧ σ x0 (-1) = 9) (bnd (clR PG0 MX d 1005 [vI y0, vI (σ x0 17)] σ) (fun q1 => 
    bnd (clR PG0 MX d 1004 [vI x4, vI q1.1] q1.2) (fun q2 => 
      rsP PG0 MX d 230 36 [vR x0, vU, vI x2, vI x3, vI q2.1, vI y0, vI (x6 + 1)] [] q2.2))) none :=
  blkE (cs := pgA_230) rfl [36, 58, 85] 12 _ _ _ _
