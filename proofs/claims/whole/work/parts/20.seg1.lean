/-- OneAtATime$BitList.hasWord(I)Z -/
theorem ce_68 (d : Nat) (σ : HP) (x0 x1 : Int) : clR PG0 MX (d + 1) 68 [vR x0, vI x1] σ = rsP PG0 MX d 68 0 [vR x0, vI x1] [] σ := rfl
set_option maxRecDepth 100000 in
theorem sg_68_0 (d : Nat) (σ : HP) (x0 x1 : Int) : rsP PG0 MX d 68 0 [vR x0, vI x1] [] σ =
    cnd (wr x1 < 0)
      (some (0, σ))
      (cnd (0 < x0 ∧ x0 < σ (-1) 0 ∧ σ x0 (-1) = 0) (bnd (clR PG0 MX d 47 [vR x0] σ) (fun q1 => 
      cnd (wr q1.1 ≤ wr x1)
          (some (0, q1.2))
          (some (1, q1.2)))) none) :=
  blkE (cs := pgA_68) rfl [] 10 _ _ _ _
/-- OneAtATime.lacks(II)I -/
theorem ce_69 (d : Nat) (σ : HP) (x0 x1 x2 : Int) : clR PG0 MX (d + 1) 69 [vR x0, vI x1, vI x2] σ = rsP PG0 MX d 69 0 [vR x0, vI x1, vI x2, vU] [] σ := rfl
set_option maxRecDepth 100000 in
theorem sg_69_0 (d : Nat) (σ : HP) (x0 x1 x2 : Int) : rsP PG0 MX d 69 0 [vR x0, vI x1, vI x2, vU] [] σ =
    cnd (0 < x0 ∧ x0 < σ (-1) 0 ∧ σ x0 (-1) = 8) (bnd (clR PG0 MX d 41 [vR x0, vI x1] σ) (fun q1 => 
    cnd (q1.1 ≤ 0)
        (some ((-2), q1.2))
        (cnd (0 ≤ wr x2)
          (cnd (32 ≤ x0 ∧ x0 < q1.2 (-1) 0 ∧ q1.2 x0 (-1) = 8) (cnd (0 < (q1.2 x0 5) ∧ (q1.2 x0 5) < q1.2 (-1) 0 ∧ q1.2 (q1.2 x0 5) (-1) = 7) (bnd (clR PG0 MX d 70 [vR (q1.2 x0 5), vR q1.1, vI x2] q1.2) (fun q2 => 
          some (q2.1, q2.2))) none) none)
          (some ((-2), q1.2))))) none :=
  blkE (cs := pgA_69) rfl [] 15 _ _ _ _
/-- OneAtATime$Survey.lackedWord(LOneAtATime$BitList;I)I -/
theorem ce_70 (d : Nat) (σ : HP) (x0 x1 x2 : Int) : clR PG0 MX (d + 1) 70 [vR x0, vR x1, vI x2] σ = rsP PG0 MX d 70 0 [vR x0, vR x1, vI x2, vU, vU] [] σ := rfl
set_option maxRecDepth 100000 in
theorem sg_70_0 (d : Nat) (σ : HP) (x0 x1 x2 : Int) : rsP PG0 MX d 70 0 [vR x0, vR x1, vI x2, vU, vU] [] σ =
    cnd (0 < x0 ∧ x0 < σ (-1) 0 ∧ σ x0 (-1) = 7) (bnd (clR PG0 MX d 45 [vR x0, vR x1] σ) (fun q1 => 
    rsP PG0 MX d 70 10 [vR x0, vR x1, vI x2, vI x2, vI 0] [] q1.2)) none :=
  blkE (cs := pgA_70) rfl [10] 9 _ _ _ _
set_option maxRecDepth 100000 in
theorem sg_70_10 (d : Nat) (σ : HP) (x0 x1 x3 x4 : Int) (u2 : MV) : rsP PG0 MX d 70 10 [vR x0, vR x1, u2, vI x3, vI x4] [] σ =
    cnd (0 < x1 ∧ x1 < σ (-1) 0 ∧ σ x1 (-1) = 0) (bnd (clR PG0 MX d 47 [vR x1] σ) (fun q1 => 
    cnd (wr q1.1 ≤ wr x4)
        (some ((-1), q1.2))
        (cnd (32 ≤ x0 ∧ x0 < q1.2 (-1) 0 ∧ q1.2 x0 (-1) = 7) (cnd (0 < (q1.2 x0 0) ∧ (q1.2 x0 0) < q1.2 (-1) 0 ∧ q1.2 (q1.2 x0 0) (-1) = 20 ∧ 0 ≤ wr x4 ∧ wr x4 < q1.2 (q1.2 x0 0) (-2)) (cnd (wr (q1.2 (q1.2 x0 0) (wr x4)) ≠ 0)
          (rsP PG0 MX d 70 10 [vR x0, vR x1, vU, vI x3, vI (x4 + 1)] [] q1.2)
          (cnd (0 < x1 ∧ x1 < q1.2 (-1) 0 ∧ q1.2 x1 (-1) = 0) (bnd (clR PG0 MX d 49 [vR x1, vI x4] q1.2) (fun q2 => 
          cnd (wr q2.1 = 0)
              (rsP PG0 MX d 70 10 [vR x0, vR x1, vU, vI x3, vI (x4 + 1)] [] q2.2)
              (cnd (wr x3 ≠ 0)
                (rsP PG0 MX d 70 10 [vR x0, vR x1, vU, vI (x3 + (-1)), vI (x4 + 1)] [] q2.2)
                (some (x4, q2.2))))) none)) none) none))) none :=
  blkE (cs := pgA_70) rfl [10] 20 _ _ _ _
/-- OneAtATime.turned(II)I -/
theorem ce_71 (d : Nat) (σ : HP) (x0 x1 x2 : Int) : clR PG0 MX (d + 1) 71 [vR x0, vI x1, vI x2] σ = rsP PG0 MX d 71 0 [vR x0, vI x1, vI x2, vU] [] σ := rfl
set_option maxRecDepth 100000 in
theorem sg_71_0 (d : Nat) (σ : HP) (x0 x1 x2 : Int) : rsP PG0 MX d 71 0 [vR x0, vI x1, vI x2, vU] [] σ =
    cnd (0 < x0 ∧ x0 < σ (-1) 0 ∧ σ x0 (-1) = 8) (bnd (clR PG0 MX d 41 [vR x0, vI x1] σ) (fun q1 => 
    cnd (q1.1 ≤ 0)
        (some ((-2), q1.2))
        (cnd (0 < q1.1 ∧ q1.1 < q1.2 (-1) 0 ∧ q1.2 q1.1 (-1) = 0) (bnd (clR PG0 MX d 30 [vR q1.1, vI x2] q1.2) (fun q2 => 
        cnd (wr q2.1 ≠ 0)
            (cnd (0 < q1.1 ∧ q1.1 < q2.2 (-1) 0 ∧ q2.2 q1.1 (-1) = 0) (bnd (clR PG0 MX d 72 [vR q1.1, vI x2] q2.2) (fun q3 => 
            some (q3.1, q3.2))) none)
            (some ((-2), q2.2)))) none))) none :=
  blkE (cs := pgA_71) rfl [] 15 _ _ _ _
/-- OneAtATime$BitList.turnsOf(I)I -/
theorem ce_72 (d : Nat) (σ : HP) (x0 x1 : Int) : clR PG0 MX (d + 1) 72 [vR x0, vI x1] σ = rsP PG0 MX d 72 0 [vR x0, vI x1, vU, vU] [] σ := rfl
set_option maxRecDepth 100000 in
theorem sg_72_0 (d : Nat) (σ : HP) (x0 x1 : Int) : rsP PG0 MX d 72 0 [vR x0, vI x1, vU, vU] [] σ =
    rsP PG0 MX d 72 4 [vR x0, vI x1, vI 0, vI 0] [] σ :=
  blkE (cs := pgA_72) rfl [4] 6 _ _ _ _
set_option maxRecDepth 100000 in
theorem sg_72_4 (d : Nat) (σ : HP) (x0 x1 x2 x3 : Int) : rsP PG0 MX d 72 4 [vR x0, vI x1, vI x2, vI x3] [] σ =
    cnd (32 ≤ x0 ∧ x0 < σ (-1) 0 ∧ σ x0 (-1) = 0) (cnd (wr (σ x0 6) ≤ wr x3)
      (some (x2, σ))
      (cnd (32 ≤ x0 ∧ x0 < σ (-1) 0 ∧ σ x0 (-1) = 0) (cnd (0 < (σ x0 0) ∧ (σ x0 0) < σ (-1) 0 ∧ σ (σ x0 0) (-1) = 20 ∧ 0 ≤ wr x3 ∧ wr x3 < σ (σ x0 0) (-2)) (cnd (wr (σ (σ x0 0) (wr x3)) ≠ wr x1)
        (rsP PG0 MX d 72 4 [vR x0, vI x1, vI x2, vI (x3 + 1)] [] σ)
        (rsP PG0 MX d 72 4 [vR x0, vI x1, vI (x2 + 1), vI (x3 + 1)] [] σ)) none) none)) none :=
  blkE (cs := pgA_72) rfl [4] 15 _ _ _ _
/-- OneAtATime.order(II)I -/
theorem ce_73 (d : Nat) (σ : HP) (x0 x1 x2 : Int) : clR PG0 MX (d + 1) 73 [vR x0, vI x1, vI x2] σ = rsP PG0 MX d 73 0 [vR x0, vI x1, vI x2, vU] [] σ := rfl
set_option maxRecDepth 100000 in
theorem sg_73_0 (d : Nat) (σ : HP) (x0 x1 x2 : Int) : rsP PG0 MX d 73 0 [vR x0, vI x1, vI x2, vU] [] σ =
    cnd (0 < x0 ∧ x0 < σ (-1) 0 ∧ σ x0 (-1) = 8) (bnd (clR PG0 MX d 41 [vR x0, vI x1] σ) (fun q1 => 
    cnd (q1.1 ≤ 0)
        (some ((-2), q1.2))
        (cnd (0 < q1.1 ∧ q1.1 < q1.2 (-1) 0 ∧ q1.2 q1.1 (-1) = 0) (bnd (clR PG0 MX d 30 [vR q1.1, vI x2] q1.2) (fun q2 => 
        cnd (wr q2.1 ≠ 0)
            (bnd (clR PG0 MX d 74 [vR q1.1, vI x2] q2.2) (fun q3 => 
            some (q3.1, q3.2)))
            (some ((-2), q2.2)))) none))) none :=
  blkE (cs := pgA_73) rfl [] 15 _ _ _ _
/-- OneAtATime$Survey.bitByTurns(LOneAtATime$BitList;I)I -/
theorem ce_74 (d : Nat) (σ : HP) (x0 x1 : Int) : clR PG0 MX (d + 1) 74 [vR x0, vI x1] σ = rsP PG0 MX d 74 0 [vR x0, vI x1, vU, vU, vU, vU, vU] [] σ := rfl
set_option maxRecDepth 100000 in
theorem sg_74_0 (d : Nat) (σ : HP) (x0 x1 : Int) : rsP PG0 MX d 74 0 [vR x0, vI x1, vU, vU, vU, vU, vU] [] σ =
    rsP PG0 MX d 74 2 [vR x0, vI x1, vI 0, vU, vU, vU, vU] [] σ :=
  blkE (cs := pgA_74) rfl [2, 22] 4 _ _ _ _
set_option maxRecDepth 100000 in
theorem sg_74_2 (d : Nat) (σ : HP) (x0 x1 x2 : Int) (u3 u4 u5 u6 : MV) : rsP PG0 MX d 74 2 [vR x0, vI x1, vI x2, u3, u4, u5, u6] [] σ =
    cnd (32 ≤ x0 ∧ x0 < σ (-1) 0 ∧ σ x0 (-1) = 0) (cnd (wr (σ x0 3) ≤ wr x2)
      (some ((-1), σ))
      (cnd (0 < x0 ∧ x0 < σ (-1) 0 ∧ σ x0 (-1) = 0) (bnd (clR PG0 MX d 72 [vR x0, vI x2] σ) (fun q1 => 
      rsP PG0 MX d 74 22 [vR x0, vI x1, vI x2, vI q1.1, vI 0, vI 0, vU] [] q1.2)) none)) none :=
  blkE (cs := pgA_74) rfl [2, 22] 14 _ _ _ _
set_option maxRecDepth 100000 in
theorem sg_74_22 (d : Nat) (σ : HP) (x0 x1 x2 x3 x4 x5 : Int) (u6 : MV) : rsP PG0 MX d 74 22 [vR x0, vI x1, vI x2, vI x3, vI x4, vI x5, u6] [] σ =
    cnd (32 ≤ x0 ∧ x0 < σ (-1) 0 ∧ σ x0 (-1) = 0) (cnd (wr (σ x0 3) ≤ wr x5)
      (cnd (wr x4 ≠ wr x1)
        (rsP PG0 MX d 74 2 [vR x0, vI x1, vI (x2 + 1), vI x3, vI x4, vI x5, vU] [] σ)
        (some (x2, σ)))
      (cnd (0 < x0 ∧ x0 < σ (-1) 0 ∧ σ x0 (-1) = 0) (bnd (clR PG0 MX d 72 [vR x0, vI x5] σ) (fun q1 => 
      cnd (wr x3 < wr q1.1)
          (rsP PG0 MX d 74 22 [vR x0, vI x1, vI x2, vI x3, vI (x4 + 1), vI (x5 + 1), vU] [] q1.2)
          (cnd (wr q1.1 ≠ wr x3)
            (rsP PG0 MX d 74 22 [vR x0, vI x1, vI x2, vI x3, vI x4, vI (x5 + 1), vU] [] q1.2)
            (cnd (wr x2 ≤ wr x5)
              (rsP PG0 MX d 74 22 [vR x0, vI x1, vI x2, vI x3, vI x4, vI (x5 + 1), vU] [] q1.2)
              (rsP PG0 MX d 74 22 [vR x0, vI x1, vI x2, vI x3, vI (x4 + 1), vI (x5 + 1), vU] [] q1.2))))) none)) none :=
  blkE (cs := pgA_74) rfl [2, 22] 22 _ _ _ _
/-- OneAtATime.uneven(I)I -/
theorem ce_75 (d : Nat) (σ : HP) (x0 x1 : Int) : clR PG0 MX (d + 1) 75 [vR x0, vI x1] σ = rsP PG0 MX d 75 0 [vR x0, vI x1, vU] [] σ := rfl
set_option maxRecDepth 100000 in
theorem sg_75_0 (d : Nat) (σ : HP) (x0 x1 : Int) : rsP PG0 MX d 75 0 [vR x0, vI x1, vU] [] σ =
    cnd (0 < x0 ∧ x0 < σ (-1) 0 ∧ σ x0 (-1) = 8) (bnd (clR PG0 MX d 41 [vR x0, vI x1] σ) (fun q1 => 
    cnd (0 < q1.1)
        (bnd (clR PG0 MX d 76 [vR q1.1] q1.2) (fun q2 => 
        some (q2.1, q2.2)))
        (some ((-2), q1.2)))) none :=
  blkE (cs := pgA_75) rfl [] 10 _ _ _ _
/-- OneAtATime$Survey.unevenness(LOneAtATime$BitList;)I -/
theorem ce_76 (d : Nat) (σ : HP) (x0 : Int) : clR PG0 MX (d + 1) 76 [vR x0] σ = rsP PG0 MX d 76 0 [vR x0, vU, vU, vU, vU] [] σ := rfl
set_option maxRecDepth 100000 in
theorem sg_76_0 (d : Nat) (σ : HP) (x0 : Int) : rsP PG0 MX d 76 0 [vR x0, vU, vU, vU, vU] [] σ =
    rsP PG0 MX d 76 8 [vR x0, vI 0, vI 256, vI 0, vU] [] σ :=
  blkE (cs := pgA_76) rfl [8] 8 _ _ _ _
set_option maxRecDepth 100000 in
theorem sg_76_8 (d : Nat) (σ : HP) (x0 x1 x2 x3 : Int) (u4 : MV) : rsP PG0 MX d 76 8 [vR x0, vI x1, vI x2, vI x3, u4] [] σ =
    cnd (32 ≤ x0 ∧ x0 < σ (-1) 0 ∧ σ x0 (-1) = 0) (cnd (wr (σ x0 3) ≤ wr x3)
      (some (x1 - x2, σ))
      (cnd (0 < x0 ∧ x0 < σ (-1) 0 ∧ σ x0 (-1) = 0) (bnd (clR PG0 MX d 72 [vR x0, vI x3] σ) (fun q1 => 
      bnd (clR PG0 MX d 1004 [vI x1, vI q1.1] q1.2) (fun q2 => 
        bnd (clR PG0 MX d 1005 [vI x2, vI q1.1] q2.2) (fun q3 => 
          rsP PG0 MX d 76 8 [vR x0, vI q2.1, vI q3.1, vI (x3 + 1), vI q1.1] [] q3.2)))) none)) none :=
  blkE (cs := pgA_76) rfl [8] 20 _ _ _ _
/-- OneAtATime.gap(II)I -/
theorem ce_77 (d : Nat) (σ : HP) (x0 x1 x2 : Int) : clR PG0 MX (d + 1) 77 [vR x0, vI x1, vI x2] σ = rsP PG0 MX d 77 0 [vR x0, vI x1, vI x2, vU] [] σ := rfl
set_option maxRecDepth 100000 in
theorem sg_77_0 (d : Nat) (σ : HP) (x0 x1 x2 : Int) : rsP PG0 MX d 77 0 [vR x0, vI x1, vI x2, vU] [] σ =
    cnd (0 < x0 ∧ x0 < σ (-1) 0 ∧ σ x0 (-1) = 8) (bnd (clR PG0 MX d 41 [vR x0, vI x1] σ) (fun q1 => 
    cnd (q1.1 ≤ 0)
        (some ((-2), q1.2))
        (cnd (wr x2 = wr ((-1)))
          (rsP PG0 MX d 77 26 [vR x0, vI x1, vI x2, vR q1.1] [] q1.2)
          (cnd (0 < q1.1 ∧ q1.1 < q1.2 (-1) 0 ∧ q1.2 q1.1 (-1) = 0) (bnd (clR PG0 MX d 30 [vR q1.1, vI x2] q1.2) (fun q2 => 
          cnd (wr q2.1 ≠ 0)
              (rsP PG0 MX d 77 26 [vR x0, vI x1, vI x2, vR q1.1] [] q2.2)
              (some ((-2), q2.2)))) none)))) none :=
  blkE (cs := pgA_77) rfl [26] 16 _ _ _ _
set_option maxRecDepth 100000 in
theorem sg_77_26 (d : Nat) (σ : HP) (x2 x3 : Int) (u0 u1 : MV) : rsP PG0 MX d 77 26 [u0, u1, vI x2, vR x3] [] σ =
    cnd (wr x2 ≠ wr ((-1)))
      (bnd (clR PG0 MX d 79 [vR x3, vI x2] σ) (fun q1 => 
      some (q1.1, q1.2)))
      (bnd (clR PG0 MX d 78 [vR x3] σ) (fun q2 => 
      some (q2.1, q2.2))) :=
  blkE (cs := pgA_77) rfl [26] 8 _ _ _ _
/-- OneAtATime$Survey.leastGap(LOneAtATime$BitList;)I -/
theorem ce_78 (d : Nat) (σ : HP) (x0 : Int) : clR PG0 MX (d + 1) 78 [vR x0] σ = rsP PG0 MX d 78 0 [vR x0, vU, vU] [] σ := rfl
set_option maxRecDepth 100000 in
theorem sg_78_0 (d : Nat) (σ : HP) (x0 : Int) : rsP PG0 MX d 78 0 [vR x0, vU, vU] [] σ =
    rsP PG0 MX d 78 4 [vR x0, vI ((-1)), vI 0] [] σ :=
  blkE (cs := pgA_78) rfl [4] 6 _ _ _ _
set_option maxRecDepth 100000 in
theorem sg_78_4 (d : Nat) (σ : HP) (x0 x1 x2 : Int) : rsP PG0 MX d 78 4 [vR x0, vI x1, vI x2] [] σ =
    cnd (32 ≤ x0 ∧ x0 < σ (-1) 0 ∧ σ x0 (-1) = 0) (cnd (wr (σ x0 3) ≤ wr x2)
      (some (x1, σ))
      (bnd (clR PG0 MX d 79 [vR x0, vI x2] σ) (fun q1 => 
      bnd (clR PG0 MX d 80 [vI x1, vI q1.1] q1.2) (fun q2 => 
        rsP PG0 MX d 78 4 [vR x0, vI q2.1, vI (x2 + 1)] [] q2.2)))) none :=
  blkE (cs := pgA_78) rfl [4] 14 _ _ _ _
/-- OneAtATime$Survey.gapOf(LOneAtATime$BitList;I)I -/
theorem ce_79 (d : Nat) (σ : HP) (x0 x1 : Int) : clR PG0 MX (d + 1) 79 [vR x0, vI x1] σ = rsP PG0 MX d 79 0 [vR x0, vI x1, vU, vU, vU, vU] [] σ := rfl
set_option maxRecDepth 100000 in
theorem sg_79_0 (d : Nat) (σ : HP) (x0 x1 : Int) : rsP PG0 MX d 79 0 [vR x0, vI x1, vU, vU, vU, vU] [] σ =
    rsP PG0 MX d 79 10 [vR x0, vI x1, vI ((-1)), vI ((-1)), vI ((-1)), vI 0] [] σ :=
  blkE (cs := pgA_79) rfl [10] 10 _ _ _ _
set_option maxRecDepth 100000 in
theorem sg_79_10 (d : Nat) (σ : HP) (x0 x1 x2 x3 x4 x5 : Int) : rsP PG0 MX d 79 10 [vR x0, vI x1, vI x2, vI x3, vI x4, vI x5] [] σ =
    cnd (32 ≤ x0 ∧ x0 < σ (-1) 0 ∧ σ x0 (-1) = 0) (cnd (wr (σ x0 6) ≤ wr x5)
      (cnd (wr x3 = wr ((-1)))
        (some (x2, σ))
        (cnd (0 < x0 ∧ x0 < σ (-1) 0 ∧ σ x0 (-1) = 0) (bnd (clR PG0 MX d 43 [vR x0] σ) (fun q1 => 
        cnd (wr q1.1 = 0)
            (some (x2, q1.2))
            (cnd (32 ≤ x0 ∧ x0 < q1.2 (-1) 0 ∧ q1.2 x0 (-1) = 0) (bnd (clR PG0 MX d 80 [vI x2, vI ((x3 + (q1.2 x0 6)) - x4)] q1.2) (fun q2 => 
            some (q2.1, q2.2))) none))) none))
      (cnd (32 ≤ x0 ∧ x0 < σ (-1) 0 ∧ σ x0 (-1) = 0) (cnd (0 < (σ x0 0) ∧ (σ x0 0) < σ (-1) 0 ∧ σ (σ x0 0) (-1) = 20 ∧ 0 ≤ wr x5 ∧ wr x5 < σ (σ x0 0) (-2)) (cnd (wr (σ (σ x0 0) (wr x5)) ≠ wr x1)
        (rsP PG0 MX d 79 10 [vR x0, vI x1, vI x2, vI x3, vI x4, vI (x5 + 1)] [] σ)
        (cnd (wr x3 ≠ wr ((-1)))
          (bnd (clR PG0 MX d 80 [vI x2, vI (x5 - x4)] σ) (fun q3 => 
          rsP PG0 MX d 79 10 [vR x0, vI x1, vI q3.1, vI x3, vI x5, vI (x5 + 1)] [] q3.2))
          (rsP PG0 MX d 79 10 [vR x0, vI x1, vI x2, vI x5, vI x5, vI (x5 + 1)] [] σ))) none) none)) none :=
  blkE (cs := pgA_79) rfl [10] 25 _ _ _ _
/-- OneAtATime$Survey.lesser(II)I -/
theorem ce_80 (d : Nat) (σ : HP) (x0 x1 : Int) : clR PG0 MX (d + 1) 80 [vI x0, vI x1] σ = rsP PG0 MX d 80 0 [vI x0, vI x1] [] σ := rfl
set_option maxRecDepth 100000 in
theorem sg_80_0 (d : Nat) (σ : HP) (x0 x1 : Int) : rsP PG0 MX d 80 0 [vI x0, vI x1] [] σ =
    cnd (wr x0 ≠ wr ((-1)))
      (cnd (wr x1 ≠ wr ((-1)))
        (bnd (clR PG0 MX d 1005 [vI x0, vI x1] σ) (fun q1 => 
        some (q1.1, q1.2)))
        (some (x0, σ)))
      (some (x1, σ)) :=
  blkE (cs := pgA_80) rfl [] 11 _ _ _ _
/-- OneAtATime.run(III)I -/
theorem ce_81 (d : Nat) (σ : HP) (x0 x1 x2 x3 : Int) : clR PG0 MX (d + 1) 81 [vR x0, vI x1, vI x2, vI x3] σ = rsP PG0 MX d 81 0 [vR x0, vI x1, vI x2, vI x3, vU] [] σ := rfl
set_option maxRecDepth 100000 in
theorem sg_81_0 (d : Nat) (σ : HP) (x0 x1 x2 x3 : Int) : rsP PG0 MX d 81 0 [vR x0, vI x1, vI x2, vI x3, vU] [] σ =
    cnd (0 < x0 ∧ x0 < σ (-1) 0 ∧ σ x0 (-1) = 8) (bnd (clR PG0 MX d 41 [vR x0, vI x1] σ) (fun q1 => 
    cnd (q1.1 ≤ 0)
        (some ((-2), q1.2))
        (cnd (0 < q1.1 ∧ q1.1 < q1.2 (-1) 0 ∧ q1.2 q1.1 (-1) = 0) (bnd (clR PG0 MX d 30 [vR q1.1, vI x2] q1.2) (fun q2 => 
        cnd (wr q2.1 = 0)
            (some ((-2), q2.2))
            (bnd (clR PG0 MX d 82 [vI x3] q2.2) (fun q3 => 
            cnd (wr q3.1 ≠ 0)
                (bnd (clR PG0 MX d 83 [vR q1.1, vI x2, vI x3] q3.2) (fun q4 => 
                some (q4.1, q4.2)))
                (some ((-2), q3.2)))))) none))) none :=
  blkE (cs := pgA_81) rfl [] 19 _ _ _ _
/-- OneAtATime.isFlag(I)Z -/
theorem ce_82 (d : Nat) (σ : HP) (x0 : Int) : clR PG0 MX (d + 1) 82 [vI x0] σ = rsP PG0 MX d 82 0 [vI x0] [] σ := rfl
set_option maxRecDepth 100000 in
theorem sg_82_0 (d : Nat) (σ : HP) (x0 : Int) : rsP PG0 MX d 82 0 [vI x0] [] σ =
    cnd (wr x0 = 0)
      (some (1, σ))
      (cnd (wr x0 ≠ wr 1)
        (some (0, σ))
        (some (1, σ))) :=
  blkE (cs := pgA_82) rfl [] 9 _ _ _ _
/-- OneAtATime$Survey.longestRow(LOneAtATime$BitList;II)I -/
theorem ce_83 (d : Nat) (σ : HP) (x0 x1 x2 : Int) : clR PG0 MX (d + 1) 83 [vR x0, vI x1, vI x2] σ = rsP PG0 MX d 83 0 [vR x0, vI x1, vI x2, vU, vU, vU, vU, vU, vU] [] σ := rfl
set_option maxRecDepth 100000 in
theorem sg_83_0 (d : Nat) (σ : HP) (x0 x1 x2 : Int) : rsP PG0 MX d 83 0 [vR x0, vI x1, vI x2, vU, vU, vU, vU, vU, vU] [] σ =
    cnd (0 < x0 ∧ x0 < σ (-1) 0 ∧ σ x0 (-1) = 0) (bnd (clR PG0 MX d 42 [vR x0] σ) (fun q1 => 
    cnd (0 < x0 ∧ x0 < q1.2 (-1) 0 ∧ q1.2 x0 (-1) = 0) (bnd (clR PG0 MX d 43 [vR x0] q1.2) (fun q2 => 
      cnd (wr q2.1 = 0)
          (rsP PG0 MX d 83 28 [vR x0, vI x1, vI x2, vI q1.1, vI 0, vI 0, vI 1, vI 0, vU] [] q2.2)
          (rsP PG0 MX d 83 28 [vR x0, vI x1, vI x2, vI q1.1, vI 0, vI 0, vI 2, vI 0, vU] [] q2.2))) none)) none :=
  blkE (cs := pgA_83) rfl [28, 38, 63] 17 _ _ _ _
set_option maxRecDepth 100000 in
theorem sg_83_28 (d : Nat) (σ : HP) (x0 x1 x2 x3 x4 x5 x6 x7 : Int) (u8 : MV) : rsP PG0 MX d 83 28 [vR x0, vI x1, vI x2, vI x3, vI x4, vI x5, vI x6, vI x7, u8] [] σ =
    cnd (wr x6 ≤ wr x7)
      (bnd (clR PG0 MX d 1005 [vI x4, vI x3] σ) (fun q1 => 
      some (q1.1, q1.2)))
      (rsP PG0 MX d 83 38 [vR x0, vI x1, vI x2, vI x3, vI x4, vI x5, vI x6, vI x7, vI 0] [] σ) :=
  blkE (cs := pgA_83) rfl [28, 38, 63] 8 _ _ _ _
set_option maxRecDepth 100000 in
theorem sg_83_38 (d : Nat) (σ : HP) (x0 x1 x2 x3 x4 x5 x6 x7 x8 : Int) : rsP PG0 MX d 83 38 [vR x0, vI x1, vI x2, vI x3, vI x4, vI x5, vI x6, vI x7, vI x8] [] σ =
    cnd (wr x3 ≤ wr x8)
      (rsP PG0 MX d 83 28 [vR x0, vI x1, vI x2, vI x3, vI x4, vI x5, vI x6, vI (x7 + 1), vI x8] [] σ)
      (cnd (0 < x0 ∧ x0 < σ (-1) 0 ∧ σ x0 (-1) = 0) (bnd (clR PG0 MX d 64 [vR x0, vI x8, vI x1] σ) (fun q1 => 
      cnd (wr q1.1 ≠ wr x2)
          (rsP PG0 MX d 83 63 [vR x0, vI x1, vI x2, vI x3, vI x4, vI x5, vI x6, vI x7, vI x8] [vI 0] q1.2)
          (rsP PG0 MX d 83 63 [vR x0, vI x1, vI x2, vI x3, vI x4, vI x5, vI x6, vI x7, vI x8] [vI (x5 + 1)] q1.2))) none) :=
  blkE (cs := pgA_83) rfl [28, 38, 63] 15 _ _ _ _
set_option maxRecDepth 100000 in
theorem sg_83_63 (d : Nat) (σ : HP) (x0 x1 x2 x3 x4 x6 x7 x8 y0 : Int) (u5 : MV) : rsP PG0 MX d 83 63 [vR x0, vI x1, vI x2, vI x3, vI x4, u5, vI x6, vI x7, vI x8] [vI y0] σ =
    bnd (clR PG0 MX d 1004 [vI x4, vI y0] σ) (fun q1 => 
    rsP PG0 MX d 83 38 [vR x0, vI x1, vI x2, vI x3, vI q1.1, vI y0, vI x6, vI x7, vI (x8 + 1)] [] q1.2) :=
  blkE (cs := pgA_83) rfl [28, 38, 63] 9 _ _ _ _
/-- OneAtATime.parts(III)I -/
theorem ce_84 (d : Nat) (σ : HP) (x0 x1 x2 x3 : Int) : clR PG0 MX (d + 1) 84 [vR x0, vI x1, vI x2, vI x3] σ = rsP PG0 MX d 84 0 [vR x0, vI x1, vI x2, vI x3, vU] [] σ := rfl
set_option maxRecDepth 100000 in
theorem sg_84_0 (d : Nat) (σ : HP) (x0 x1 x2 x3 : Int) : rsP PG0 MX d 84 0 [vR x0, vI x1, vI x2, vI x3, vU] [] σ =
    cnd (0 < x0 ∧ x0 < σ (-1) 0 ∧ σ x0 (-1) = 8) (bnd (clR PG0 MX d 41 [vR x0, vI x1] σ) (fun q1 => 
    cnd (q1.1 ≤ 0)
        (some ((-2), q1.2))
        (cnd (0 < q1.1 ∧ q1.1 < q1.2 (-1) 0 ∧ q1.2 q1.1 (-1) = 0) (bnd (clR PG0 MX d 30 [vR q1.1, vI x2] q1.2) (fun q2 => 
        cnd (wr q2.1 = 0)
            (some ((-2), q2.2))
            (bnd (clR PG0 MX d 82 [vI x3] q2.2) (fun q3 => 
            cnd (wr q3.1 ≠ 0)
                (bnd (clR PG0 MX d 85 [vR q1.1, vI x2, vI x3] q3.2) (fun q4 => 
                some (q4.1, q4.2)))
                (some ((-2), q3.2)))))) none))) none :=
  blkE (cs := pgA_84) rfl [] 19 _ _ _ _
/-- OneAtATime$Survey.rowsOf(LOneAtATime$BitList;II)I -/
theorem ce_85 (d : Nat) (σ : HP) (x0 x1 x2 : Int) : clR PG0 MX (d + 1) 85 [vR x0, vI x1, vI x2] σ = rsP PG0 MX d 85 0 [vR x0, vI x1, vI x2, vU, vU, vU, vU] [] σ := rfl
set_option maxRecDepth 100000 in
theorem sg_85_0 (d : Nat) (σ : HP) (x0 x1 x2 : Int) : rsP PG0 MX d 85 0 [vR x0, vI x1, vI x2, vU, vU, vU, vU] [] σ =
    cnd (0 < x0 ∧ x0 < σ (-1) 0 ∧ σ x0 (-1) = 0) (bnd (clR PG0 MX d 42 [vR x0] σ) (fun q1 => 
    rsP PG0 MX d 85 11 [vR x0, vI x1, vI x2, vI q1.1, vI 0, vI 0, vU] [] q1.2)) none :=
  blkE (cs := pgA_85) rfl [11, 35, 40, 100, 101] 9 _ _ _ _
set_option maxRecDepth 100000 in
theorem sg_85_11 (d : Nat) (σ : HP) (x0 x1 x2 x3 x4 x5 : Int) (u6 : MV) : rsP PG0 MX d 85 11 [vR x0, vI x1, vI x2, vI x3, vI x4, vI x5, u6] [] σ =
    cnd (wr x3 ≤ wr x5)
      (cnd (0 < x0 ∧ x0 < σ (-1) 0 ∧ σ x0 (-1) = 0) (bnd (clR PG0 MX d 43 [vR x0] σ) (fun q1 => 
      cnd (wr q1.1 = 0)
          (rsP PG0 MX d 85 100 [vR x0, vI x1, vI x2, vI x3, vI x4, vI x5, vU] [] q1.2)
          (cnd (0 < x0 ∧ x0 < q1.2 (-1) 0 ∧ q1.2 x0 (-1) = 0) (bnd (clR PG0 MX d 64 [vR x0, vI 0, vI x1] q1.2) (fun q2 => 
          cnd (wr q2.1 ≠ wr x2)
              (rsP PG0 MX d 85 100 [vR x0, vI x1, vI x2, vI x3, vI x4, vI x5, vU] [] q2.2)
              (cnd (0 < x0 ∧ x0 < q2.2 (-1) 0 ∧ q2.2 x0 (-1) = 0) (bnd (clR PG0 MX d 64 [vR x0, vI (x3 - 1), vI x1] q2.2) (fun q3 => 
              cnd (wr q3.1 ≠ wr x2)
                  (rsP PG0 MX d 85 100 [vR x0, vI x1, vI x2, vI x3, vI x4, vI x5, vU] [] q3.2)
                  (rsP PG0 MX d 85 101 [vR x0, vI x1, vI x2, vI x3, vI x4, vI x5, vU] [vI 1] q3.2))) none))) none))) none)
      (cnd (wr x5 = 0)
        (rsP PG0 MX d 85 35 [vR x0, vI x1, vI x2, vI x3, vI x4, vI x5, vU] [] σ)
        (cnd (0 < x0 ∧ x0 < σ (-1) 0 ∧ σ x0 (-1) = 0) (bnd (clR PG0 MX d 64 [vR x0, vI (x5 - 1), vI x1] σ) (fun q4 => 
        cnd (wr q4.1 = wr x2)
            (rsP PG0 MX d 85 40 [vR x0, vI x1, vI x2, vI x3, vI x4, vI x5, vU] [vI 0] q4.2)
            (rsP PG0 MX d 85 35 [vR x0, vI x1, vI x2, vI x3, vI x4, vI x5, vU] [] q4.2))) none)) :=
  blkE (cs := pgA_85) rfl [11, 35, 40, 100, 101] 24 _ _ _ _
set_option maxRecDepth 100000 in
theorem sg_85_35 (d : Nat) (σ : HP) (x0 x1 x2 x3 x4 x5 : Int) (u6 : MV) : rsP PG0 MX d 85 35 [vR x0, vI x1, vI x2, vI x3, vI x4, vI x5, u6] [] σ =
    rsP PG0 MX d 85 40 [vR x0, vI x1, vI x2, vI x3, vI x4, vI x5, vU] [vI 1] σ :=
  blkE (cs := pgA_85) rfl [11, 35, 40, 100, 101] 4 _ _ _ _
set_option maxRecDepth 100000 in
theorem sg_85_40 (d : Nat) (σ : HP) (x0 x1 x2 x3 x4 x5 y0 : Int) (u6 : MV) : rsP PG0 MX d 85 40 [vR x0, vI x1, vI x2, vI x3, vI x4, vI x5, u6] [vI y0] σ =
    cnd (wr y0 = 0)
      (rsP PG0 MX d 85 11 [vR x0, vI x1, vI x2, vI x3, vI x4, vI (x5 + 1), vU] [] σ)
      (cnd (0 < x0 ∧ x0 < σ (-1) 0 ∧ σ x0 (-1) = 0) (bnd (clR PG0 MX d 64 [vR x0, vI x5, vI x1] σ) (fun q1 => 
      cnd (wr q1.1 ≠ wr x2)
          (rsP PG0 MX d 85 11 [vR x0, vI x1, vI x2, vI x3, vI x4, vI (x5 + 1), vU] [] q1.2)
          (rsP PG0 MX d 85 11 [vR x0, vI x1, vI x2, vI x3, vI (x4 + 1), vI (x5 + 1), vU] [] q1.2))) none) :=
  blkE (cs := pgA_85) rfl [11, 35, 40, 100, 101] 14 _ _ _ _
set_option maxRecDepth 100000 in
theorem sg_85_100 (d : Nat) (σ : HP) (x4 : Int) (u0 u1 u2 u3 u5 u6 : MV) : rsP PG0 MX d 85 100 [u0, u1, u2, u3, vI x4, u5, u6] [] σ =
    rsP PG0 MX d 85 101 [vU, vU, vU, vU, vI x4, vU, vU] [vI 0] σ :=
  blkE (cs := pgA_85) rfl [11, 35, 40, 100, 101] 3 _ _ _ _
set_option maxRecDepth 100000 in
theorem sg_85_101 (d : Nat) (σ : HP) (x4 y0 : Int) (u0 u1 u2 u3 u5 u6 : MV) : rsP PG0 MX d 85 101 [u0, u1, u2, u3, vI x4, u5, u6] [vI y0] σ =
    cnd (wr y0 = 0)
      (some (x4, σ))
      (cnd (wr x4 ≤ wr 1)
        (some (x4, σ))
        (some (x4 - 1, σ))) :=
  blkE (cs := pgA_85) rfl [11, 35, 40, 100, 101] 12 _ _ _ _
/-- OneAtATime.level(III)I -/
theorem ce_86 (d : Nat) (σ : HP) (x0 x1 x2 x3 : Int) : clR PG0 MX (d + 1) 86 [vR x0, vI x1, vI x2, vI x3] σ = rsP PG0 MX d 86 0 [vR x0, vI x1, vI x2, vI x3, vU] [] σ := rfl
set_option maxRecDepth 100000 in
theorem sg_86_0 (d : Nat) (σ : HP) (x0 x1 x2 x3 : Int) : rsP PG0 MX d 86 0 [vR x0, vI x1, vI x2, vI x3, vU] [] σ =
    cnd (0 < x0 ∧ x0 < σ (-1) 0 ∧ σ x0 (-1) = 8) (bnd (clR PG0 MX d 41 [vR x0, vI x1] σ) (fun q1 => 
    cnd (q1.1 ≤ 0)
        (some ((-2), q1.2))
        (cnd (wr x2 < 0)
          (some ((-2), q1.2))
          (cnd (32 ≤ q1.1 ∧ q1.1 < q1.2 (-1) 0 ∧ q1.2 q1.1 (-1) = 0) (cnd (wr (q1.2 q1.1 3) < wr x2)
            (some ((-2), q1.2))
            (bnd (clR PG0 MX d 82 [vI x3] q1.2) (fun q2 => 
            cnd (wr q2.1 ≠ 0)
                (cnd (wr x3 ≠ wr 1)
                  (rsP PG0 MX d 86 48 [vR x0, vI x1, vI x2, vI x3, vR q1.1] [vI 0, vI x2, vR q1.1] q2.2)
                  (rsP PG0 MX d 86 48 [vR x0, vI x1, vI x2, vI x3, vR q1.1] [vI 1, vI x2, vR q1.1] q2.2))
                (some ((-2), q2.2))))) none)))) none :=
  blkE (cs := pgA_86) rfl [48] 24 _ _ _ _
set_option maxRecDepth 100000 in
theorem sg_86_48 (d : Nat) (σ : HP) (x0 x1 x2 x3 x4 y0 y1 y2 : Int) : rsP PG0 MX d 86 48 [vR x0, vI x1, vI x2, vI x3, vR x4] [vI y2, vI y1, vR y0] σ =
    bnd (clR PG0 MX d 87 [vR y0, vI y1, vI y2] σ) (fun q1 => 
    some (q1.1, q1.2)) :=
  blkE (cs := pgA_86) rfl [48] 3 _ _ _ _
/-- OneAtATime$Survey.placeOfLevel(LOneAtATime$BitList;IZ)I -/
theorem ce_87 (d : Nat) (σ : HP) (x0 x1 x2 : Int) : clR PG0 MX (d + 1) 87 [vR x0, vI x1, vI x2] σ = rsP PG0 MX d 87 0 [vR x0, vI x1, vI x2, vU, vU, vU] [] σ := rfl
set_option maxRecDepth 100000 in
theorem sg_87_0 (d : Nat) (σ : HP) (x0 x1 x2 : Int) : rsP PG0 MX d 87 0 [vR x0, vI x1, vI x2, vU, vU, vU] [] σ =
    cnd (0 < x0 ∧ x0 < σ (-1) 0 ∧ σ x0 (-1) = 0) (bnd (clR PG0 MX d 42 [vR x0] σ) (fun q1 => 
    rsP PG0 MX d 87 11 [vR x0, vI x1, vI x2, vI q1.1, vI ((-1)), vI 0] [] q1.2)) none :=
  blkE (cs := pgA_87) rfl [11] 9 _ _ _ _
set_option maxRecDepth 100000 in
theorem sg_87_11 (d : Nat) (σ : HP) (x0 x1 x2 x3 x4 x5 : Int) : rsP PG0 MX d 87 11 [vR x0, vI x1, vI x2, vI x3, vI x4, vI x5] [] σ =
    cnd (wr x3 ≤ wr x5)
      (some (x4, σ))
      (cnd (32 ≤ x0 ∧ x0 < σ (-1) 0 ∧ σ x0 (-1) = 0) (cnd (0 < (σ x0 1) ∧ (σ x0 1) < σ (-1) 0 ∧ σ (σ x0 1) (-1) = 20 ∧ 0 ≤ wr x5 ∧ wr x5 < σ (σ x0 1) (-2)) (bnd (clR PG0 MX d 50 [vI (σ (σ x0 1) (wr x5))] σ) (fun q1 => 
      cnd (wr q1.1 ≠ wr x1)
          (rsP PG0 MX d 87 11 [vR x0, vI x1, vI x2, vI x3, vI x4, vI (x5 + 1)] [] q1.2)
          (cnd (wr x2 ≠ 0)
            (rsP PG0 MX d 87 11 [vR x0, vI x1, vI x2, vI x3, vI x5, vI (x5 + 1)] [] q1.2)
            (cnd (wr x4 ≠ wr ((-1)))
              (rsP PG0 MX d 87 11 [vR x0, vI x1, vI x2, vI x3, vI x4, vI (x5 + 1)] [] q1.2)
              (rsP PG0 MX d 87 11 [vR x0, vI x1, vI x2, vI x3, vI x5, vI (x5 + 1)] [] q1.2))))) none) none) :=
  blkE (cs := pgA_87) rfl [11] 21 _ _ _ _
/-- OneAtATime.same(II)I -/
theorem ce_88 (d : Nat) (σ : HP) (x0 x1 x2 : Int) : clR PG0 MX (d + 1) 88 [vR x0, vI x1, vI x2] σ = rsP PG0 MX d 88 0 [vR x0, vI x1, vI x2, vU, vU, vU, vU, vU] [] σ := rfl
set_option maxRecDepth 100000 in
theorem sg_88_0 (d : Nat) (σ : HP) (x0 x1 x2 : Int) : rsP PG0 MX d 88 0 [vR x0, vI x1, vI x2, vU, vU, vU, vU, vU] [] σ =
    cnd (0 < x0 ∧ x0 < σ (-1) 0 ∧ σ x0 (-1) = 8) (bnd (clR PG0 MX d 41 [vR x0, vI x1] σ) (fun q1 => 
    cnd (0 < x0 ∧ x0 < q1.2 (-1) 0 ∧ q1.2 x0 (-1) = 8) (bnd (clR PG0 MX d 41 [vR x0, vI x2] q1.2) (fun q2 => 
      cnd (q1.1 ≤ 0)
          (some ((-2), q2.2))
          (cnd (0 < q2.1)
            (cnd (32 ≤ q1.1 ∧ q1.1 < q2.2 (-1) 0 ∧ q2.2 q1.1 (-1) = 0) (cnd (32 ≤ q2.1 ∧ q2.1 < q2.2 (-1) 0 ∧ q2.2 q2.1 (-1) = 0) (bnd (clR PG0 MX d 1005 [vI (q2.2 q1.1 6), vI (q2.2 q2.1 6)] q2.2) (fun q3 => 
            rsP PG0 MX d 88 45 [vR x0, vI x1, vI x2, vR q1.1, vR q2.1, vI q3.1, vI 0, vI 0] [] q3.2)) none) none)
            (some ((-2), q2.2))))) none)) none :=
  blkE (cs := pgA_88) rfl [45] 24 _ _ _ _
set_option maxRecDepth 100000 in
theorem sg_88_45 (d : Nat) (σ : HP) (x3 x4 x5 x6 x7 : Int) (u0 u1 u2 : MV) : rsP PG0 MX d 88 45 [u0, u1, u2, vR x3, vR x4, vI x5, vI x6, vI x7] [] σ =
    cnd (wr x5 < wr x7)
      (some (x6, σ))
      (cnd (32 ≤ x3 ∧ x3 < σ (-1) 0 ∧ σ x3 (-1) = 0) (cnd (0 < (σ x3 1) ∧ (σ x3 1) < σ (-1) 0 ∧ σ (σ x3 1) (-1) = 20 ∧ 0 ≤ wr x7 ∧ wr x7 < σ (σ x3 1) (-2)) (cnd (32 ≤ x4 ∧ x4 < σ (-1) 0 ∧ σ x4 (-1) = 0) (cnd (0 < (σ x4 1) ∧ (σ x4 1) < σ (-1) 0 ∧ σ (σ x4 1) (-1) = 20 ∧ 0 ≤ wr x7 ∧ wr x7 < σ (σ x4 1) (-2)) (cnd (wr (σ (σ x3 1) (wr x7)) ≠ wr (σ (σ x4 1) (wr x7)))
        (rsP PG0 MX d 88 45 [vU, vU, vU, vR x3, vR x4, vI x5, vI x6, vI (x7 + 1)] [] σ)
        (rsP PG0 MX d 88 45 [vU, vU, vU, vR x3, vR x4, vI x5, vI (x6 + 1), vI (x7 + 1)] [] σ)) none) none) none) none) :=
  blkE (cs := pgA_88) rfl [45] 17 _ _ _ _
/-- OneAtATime.shift(II)I -/
theorem ce_89 (d : Nat) (σ : HP) (x0 x1 x2 : Int) : clR PG0 MX (d + 1) 89 [vR x0, vI x1, vI x2] σ = rsP PG0 MX d 89 0 [vR x0, vI x1, vI x2, vU] [] σ := rfl
set_option maxRecDepth 100000 in
theorem sg_89_0 (d : Nat) (σ : HP) (x0 x1 x2 : Int) : rsP PG0 MX d 89 0 [vR x0, vI x1, vI x2, vU] [] σ =
    cnd (0 < x0 ∧ x0 < σ (-1) 0 ∧ σ x0 (-1) = 8) (bnd (clR PG0 MX d 41 [vR x0, vI x1] σ) (fun q1 => 
    cnd (q1.1 ≤ 0)
        (some ((-2), q1.2))
        (cnd (0 < q1.1 ∧ q1.1 < q1.2 (-1) 0 ∧ q1.2 q1.1 (-1) = 0) (bnd (clR PG0 MX d 30 [vR q1.1, vI x2] q1.2) (fun q2 => 
        cnd (wr q2.1 ≠ 0)
            (bnd (clR PG0 MX d 62 [vR q1.1, vI x2] q2.2) (fun q3 => 
            some (q3.1, q3.2)))
            (some ((-2), q2.2)))) none))) none :=
  blkE (cs := pgA_89) rfl [] 15 _ _ _ _
/-- OneAtATime.apart(III)I -/
theorem ce_90 (d : Nat) (σ : HP) (x0 x1 x2 x3 : Int) : clR PG0 MX (d + 1) 90 [vR x0, vI x1, vI x2, vI x3] σ = rsP PG0 MX d 90 0 [vR x0, vI x1, vI x2, vI x3, vU] [] σ := rfl
set_option maxRecDepth 100000 in
theorem sg_90_0 (d : Nat) (σ : HP) (x0 x1 x2 x3 : Int) : rsP PG0 MX d 90 0 [vR x0, vI x1, vI x2, vI x3, vU] [] σ =
    cnd (0 < x0 ∧ x0 < σ (-1) 0 ∧ σ x0 (-1) = 8) (bnd (clR PG0 MX d 41 [vR x0, vI x1] σ) (fun q1 => 
    cnd (q1.1 ≤ 0)
        (some ((-2), q1.2))
        (cnd (0 < q1.1 ∧ q1.1 < q1.2 (-1) 0 ∧ q1.2 q1.1 (-1) = 0) (bnd (clR PG0 MX d 91 [vR q1.1, vI x2] q1.2) (fun q2 => 
        cnd (wr q2.1 = 0)
            (some ((-2), q2.2))
            (cnd (0 < q1.1 ∧ q1.1 < q2.2 (-1) 0 ∧ q2.2 q1.1 (-1) = 0) (bnd (clR PG0 MX d 91 [vR q1.1, vI x3] q2.2) (fun q3 => 
            cnd (wr q3.1 ≠ 0)
                (cnd (32 ≤ q1.1 ∧ q1.1 < q3.2 (-1) 0 ∧ q3.2 q1.1 (-1) = 0) (cnd (0 < (q3.2 q1.1 1) ∧ (q3.2 q1.1 1) < q3.2 (-1) 0 ∧ q3.2 (q3.2 q1.1 1) (-1) = 20 ∧ 0 ≤ wr x2 ∧ wr x2 < q3.2 (q3.2 q1.1 1) (-2)) (cnd (32 ≤ q1.1 ∧ q1.1 < q3.2 (-1) 0 ∧ q3.2 q1.1 (-1) = 0) (cnd (0 < (q3.2 q1.1 1) ∧ (q3.2 q1.1 1) < q3.2 (-1) 0 ∧ q3.2 (q3.2 q1.1 1) (-1) = 20 ∧ 0 ≤ wr x3 ∧ wr x3 < q3.2 (q3.2 q1.1 1) (-2)) (bnd (clR PG0 MX d 50 [vI (i_xor (q3.2 (q3.2 q1.1 1) (wr x2)) (q3.2 (q3.2 q1.1 1) (wr x3)))] q3.2) (fun q4 => 
                some (q4.1, q4.2))) none) none) none) none)
                (some ((-2), q3.2)))) none))) none))) none :=
  blkE (cs := pgA_90) rfl [] 26 _ _ _ _
/-- OneAtATime$BitList.hasPlace(I)Z -/
theorem ce_91 (d : Nat) (σ : HP) (x0 x1 : Int) : clR PG0 MX (d + 1) 91 [vR x0, vI x1] σ = rsP PG0 MX d 91 0 [vR x0, vI x1] [] σ := rfl
set_option maxRecDepth 100000 in
theorem sg_91_0 (d : Nat) (σ : HP) (x0 x1 : Int) : rsP PG0 MX d 91 0 [vR x0, vI x1] [] σ =
    cnd (wr x1 < 0)
      (some (0, σ))
      (cnd (32 ≤ x0 ∧ x0 < σ (-1) 0 ∧ σ x0 (-1) = 0) (cnd (wr (σ x0 6) < wr x1)
        (some (0, σ))
        (some (1, σ))) none) :=
  blkE (cs := pgA_91) rfl [] 10 _ _ _ _
/-- OneAtATime.spread(I)I -/
theorem ce_92 (d : Nat) (σ : HP) (x0 x1 : Int) : clR PG0 MX (d + 1) 92 [vR x0, vI x1] σ = rsP PG0 MX d 92 0 [vR x0, vI x1, vU] [] σ := rfl
set_option maxRecDepth 100000 in
theorem sg_92_0 (d : Nat) (σ : HP) (x0 x1 : Int) : rsP PG0 MX d 92 0 [vR x0, vI x1, vU] [] σ =
    cnd (0 < x0 ∧ x0 < σ (-1) 0 ∧ σ x0 (-1) = 8) (bnd (clR PG0 MX d 41 [vR x0, vI x1] σ) (fun q1 => 
    cnd (0 < q1.1)
        (cnd (32 ≤ x0 ∧ x0 < q1.2 (-1) 0 ∧ q1.2 x0 (-1) = 8) (cnd (0 < (q1.2 x0 5) ∧ (q1.2 x0 5) < q1.2 (-1) 0 ∧ q1.2 (q1.2 x0 5) (-1) = 7) (bnd (clR PG0 MX d 93 [vR (q1.2 x0 5), vR q1.1] q1.2) (fun q2 => 
        some (q2.1, q2.2))) none) none)
        (some ((-2), q1.2)))) none :=
  blkE (cs := pgA_92) rfl [] 12 _ _ _ _
/-- OneAtATime$Survey.widestSpread(LOneAtATime$BitList;)I -/
theorem ce_93 (d : Nat) (σ : HP) (x0 x1 : Int) : clR PG0 MX (d + 1) 93 [vR x0, vR x1] σ = rsP PG0 MX d 93 0 [vR x0, vR x1, vU] [] σ := rfl
set_option maxRecDepth 100000 in
theorem sg_93_0 (d : Nat) (σ : HP) (x0 x1 : Int) : rsP PG0 MX d 93 0 [vR x0, vR x1, vU] [] σ =
    cnd (0 < x0 ∧ x0 < σ (-1) 0 ∧ σ x0 (-1) = 7) (bnd (clR PG0 MX d 53 [vR x0, vR x1] σ) (fun q1 => 
    cnd (wr q1.1 ≠ 0)
        (cnd (0 < x0 ∧ x0 < q1.2 (-1) 0 ∧ q1.2 x0 (-1) = 7) (bnd (clR PG0 MX d 94 [vR x0, vR x1] q1.2) (fun q2 => 
        cnd (32 ≤ x1 ∧ x1 < q2.2 (-1) 0 ∧ q2.2 x1 (-1) = 0) (rsP PG0 MX d 93 20 [vR x0, vR x1, vI (q2.2 x1 3)] [] q2.2) none)) none)
        (some ((-1), q1.2)))) none :=
  blkE (cs := pgA_93) rfl [20] 12 _ _ _ _
set_option maxRecDepth 100000 in
theorem sg_93_20 (d : Nat) (σ : HP) (x0 x2 : Int) (u1 : MV) : rsP PG0 MX d 93 20 [vR x0, u1, vI x2] [] σ =
    cnd (wr x2 ≤ wr 1)
      (some (1, σ))
      (cnd (0 < x0 ∧ x0 < σ (-1) 0 ∧ σ x0 (-1) = 7) (bnd (clR PG0 MX d 95 [vR x0, vI x2] σ) (fun q1 => 
      cnd (wr q1.1 = 0)
          (rsP PG0 MX d 93 20 [vR x0, vU, vI (x2 + (-1))] [] q1.2)
          (some (x2, q1.2)))) none) :=
  blkE (cs := pgA_93) rfl [20] 11 _ _ _ _
/-- OneAtATime$Survey.measureFarthest(LOneAtATime$BitList;)V -/
theorem ce_94 (d : Nat) (σ : HP) (x0 x1 : Int) : clR PG0 MX (d + 1) 94 [vR x0, vR x1] σ = rsP PG0 MX d 94 0 [vR x0, vR x1, vU, vU, vU, vU] [] σ := rfl
set_option maxRecDepth 100000 in
theorem sg_94_0 (d : Nat) (σ : HP) (x0 x1 : Int) : rsP PG0 MX d 94 0 [vR x0, vR x1, vU, vU, vU, vU] [] σ =
    cnd (32 ≤ x0 ∧ x0 < σ (-1) 0 ∧ σ x0 (-1) = 7) (bnd (clR PG0 MX d 46 [vR (σ x0 4), vI 0] σ) (fun q1 => 
    cnd (0 < x1 ∧ x1 < q1.2 (-1) 0 ∧ q1.2 x1 (-1) = 0) (bnd (clR PG0 MX d 42 [vR x1] q1.2) (fun q2 => 
      rsP PG0 MX d 94 15 [vR x0, vR x1, vI q2.1, vI 0, vU, vU] [] q2.2)) none)) none :=
  blkE (cs := pgA_94) rfl [15, 25] 11 _ _ _ _
set_option maxRecDepth 100000 in
theorem sg_94_15 (d : Nat) (σ : HP) (x0 x1 x2 x3 : Int) (u4 u5 : MV) : rsP PG0 MX d 94 15 [vR x0, vR x1, vI x2, vI x3, u4, u5] [] σ =
    cnd (wr x2 ≤ wr x3)
      (some (0, σ))
      (rsP PG0 MX d 94 25 [vR x0, vR x1, vI x2, vI x3, vI (x3 + 1), vU] [] σ) :=
  blkE (cs := pgA_94) rfl [15, 25] 9 _ _ _ _
set_option maxRecDepth 100000 in
theorem sg_94_25 (d : Nat) (σ : HP) (x0 x1 x2 x3 x4 : Int) (u5 : MV) : rsP PG0 MX d 94 25 [vR x0, vR x1, vI x2, vI x3, vI x4, u5] [] σ =
    cnd (wr x2 ≤ wr x4)
      (rsP PG0 MX d 94 15 [vR x0, vR x1, vI x2, vI (x3 + 1), vI x4, vU] [] σ)
      (cnd (32 ≤ x1 ∧ x1 < σ (-1) 0 ∧ σ x1 (-1) = 0) (cnd (0 < (σ x1 1) ∧ (σ x1 1) < σ (-1) 0 ∧ σ (σ x1 1) (-1) = 20 ∧ 0 ≤ wr x3 ∧ wr x3 < σ (σ x1 1) (-2)) (cnd (32 ≤ x1 ∧ x1 < σ (-1) 0 ∧ σ x1 (-1) = 0) (cnd (0 < (σ x1 1) ∧ (σ x1 1) < σ (-1) 0 ∧ σ (σ x1 1) (-1) = 20 ∧ 0 ≤ wr x4 ∧ wr x4 < σ (σ x1 1) (-2)) (bnd (clR PG0 MX d 50 [vI (i_xor (σ (σ x1 1) (wr x3)) (σ (σ x1 1) (wr x4)))] σ) (fun q1 => 
      cnd (32 ≤ x0 ∧ x0 < q1.2 (-1) 0 ∧ q1.2 x0 (-1) = 7) (cnd (32 ≤ x0 ∧ x0 < q1.2 (-1) 0 ∧ q1.2 x0 (-1) = 7) (cnd (0 < (q1.2 x0 4) ∧ (q1.2 x0 4) < q1.2 (-1) 0 ∧ q1.2 (q1.2 x0 4) (-1) = 20 ∧ 0 ≤ wr q1.1 ∧ wr q1.1 < q1.2 (q1.2 x0 4) (-2)) (bnd (clR PG0 MX d 58 [vR x1, vI x3, vI x4] q1.2) (fun q2 => 
        bnd (clR PG0 MX d 1004 [vI (q1.2 (q1.2 x0 4) (wr q1.1)), vI q2.1] q2.2) (fun q3 => 
          cnd (32 ≤ (q1.2 x0 4) ∧ (q1.2 x0 4) < q3.2 (-1) 0 ∧ q3.2 (q1.2 x0 4) (-1) = 20 ∧ 0 ≤ wr q1.1 ∧ wr q1.1 < q3.2 (q1.2 x0 4) (-2)) (rsP PG0 MX d 94 25 [vR x0, vR x1, vI x2, vI x3, vI (x4 + 1), vI q1.1] [] (up q3.2 (q1.2 x0 4) (wr q1.1) q3.1)) none))) none) none) none)) none) none) none) none) :=
  blkE (cs := pgA_94) rfl [15, 25] 31 _ _ _ _
/-- OneAtATime$Survey.spreadHolds(I)Z -/
theorem ce_95 (d : Nat) (σ : HP) (x0 x1 : Int) : clR PG0 MX (d + 1) 95 [vR x0, vI x1] σ = rsP PG0 MX d 95 0 [vR x0, vI x1, vU] [] σ := rfl
set_option maxRecDepth 100000 in
theorem sg_95_0 (d : Nat) (σ : HP) (x0 x1 : Int) : rsP PG0 MX d 95 0 [vR x0, vI x1, vU] [] σ =
    rsP PG0 MX d 95 2 [vR x0, vI x1, vI 0] [] σ :=
  blkE (cs := pgA_95) rfl [2] 4 _ _ _ _
set_option maxRecDepth 100000 in
theorem sg_95_2 (d : Nat) (σ : HP) (x0 x1 x2 : Int) : rsP PG0 MX d 95 2 [vR x0, vI x1, vI x2] [] σ =
    cnd (wr x1 ≤ wr x2)
      (some (1, σ))
      (cnd (32 ≤ x0 ∧ x0 < σ (-1) 0 ∧ σ x0 (-1) = 7) (cnd (0 < (σ x0 4) ∧ (σ x0 4) < σ (-1) 0 ∧ σ (σ x0 4) (-1) = 20 ∧ 0 ≤ wr x2 ∧ wr x2 < σ (σ x0 4) (-2)) (cnd (wr (σ (σ x0 4) (wr x2)) < wr x1)
        (rsP PG0 MX d 95 2 [vR x0, vI x1, vI (x2 + 1)] [] σ)
        (some (0, σ))) none) none) :=
  blkE (cs := pgA_95) rfl [2] 13 _ _ _ _
/-- OneAtATime.climbs(III)I -/
theorem ce_96 (d : Nat) (σ : HP) (x0 x1 x2 x3 : Int) : clR PG0 MX (d + 1) 96 [vR x0, vI x1, vI x2, vI x3] σ = rsP PG0 MX d 96 0 [vR x0, vI x1, vI x2, vI x3, vU] [] σ := rfl
set_option maxRecDepth 100000 in
theorem sg_96_0 (d : Nat) (σ : HP) (x0 x1 x2 x3 : Int) : rsP PG0 MX d 96 0 [vR x0, vI x1, vI x2, vI x3, vU] [] σ =
    cnd (0 < x0 ∧ x0 < σ (-1) 0 ∧ σ x0 (-1) = 8) (bnd (clR PG0 MX d 41 [vR x0, vI x1] σ) (fun q1 => 
    cnd (q1.1 ≤ 0)
        (some ((-2), q1.2))
        (cnd (wr x2 < 0)
          (some ((-2), q1.2))
          (cnd (32 ≤ q1.1 ∧ q1.1 < q1.2 (-1) 0 ∧ q1.2 q1.1 (-1) = 0) (cnd (wr (q1.2 q1.1 3) ≤ wr x2)
            (some ((-2), q1.2))
            (bnd (clR PG0 MX d 82 [vI x3] q1.2) (fun q2 => 
            cnd (wr q2.1 ≠ 0)
                (cnd (wr x3 ≠ wr 1)
                  (rsP PG0 MX d 96 49 [vR x0, vI x1, vI x2, vI x3, vR q1.1] [vI (x2 + 1), vR q1.1] q2.2)
                  (rsP PG0 MX d 96 49 [vR x0, vI x1, vI x2, vI x3, vR q1.1] [vI x2, vR q1.1] q2.2))
                (some ((-2), q2.2))))) none)))) none :=
  blkE (cs := pgA_96) rfl [49, 61] 24 _ _ _ _
set_option maxRecDepth 100000 in
theorem sg_96_49 (d : Nat) (σ : HP) (x2 x3 y0 y1 : Int) (u0 u1 u4 : MV) : rsP PG0 MX d 96 49 [u0, u1, vI x2, vI x3, u4] [vI y1, vR y0] σ =
    cnd (wr x3 ≠ wr 1)
      (rsP PG0 MX d 96 61 [vU, vU, vI x2, vI x3, vU] [vI x2, vI y1, vR y0] σ)
      (rsP PG0 MX d 96 61 [vU, vU, vI x2, vI x3, vU] [vI (x2 + 1), vI y1, vR y0] σ) :=
  blkE (cs := pgA_96) rfl [49, 61] 9 _ _ _ _
set_option maxRecDepth 100000 in
theorem sg_96_61 (d : Nat) (σ : HP) (x2 x3 y0 y1 y2 : Int) (u0 u1 u4 : MV) : rsP PG0 MX d 96 61 [u0, u1, vI x2, vI x3, u4] [vI y2, vI y1, vR y0] σ =
    bnd (clR PG0 MX d 97 [vR y0, vI y1, vI y2] σ) (fun q1 => 
    some (q1.1, q1.2)) :=
  blkE (cs := pgA_96) rfl [49, 61] 3 _ _ _ _
/-- OneAtATime$Survey.stepsBetween(LOneAtATime$BitList;II)I -/
theorem ce_97 (d : Nat) (σ : HP) (x0 x1 x2 : Int) : clR PG0 MX (d + 1) 97 [vR x0, vI x1, vI x2] σ = rsP PG0 MX d 97 0 [vR x0, vI x1, vI x2, vU, vU] [] σ := rfl
set_option maxRecDepth 100000 in
theorem sg_97_0 (d : Nat) (σ : HP) (x0 x1 x2 : Int) : rsP PG0 MX d 97 0 [vR x0, vI x1, vI x2, vU, vU] [] σ =
    rsP PG0 MX d 97 5 [vR x0, vI x1, vI x2, vI 0, vI 0] [] σ :=
  blkE (cs := pgA_97) rfl [5] 6 _ _ _ _
set_option maxRecDepth 100000 in
theorem sg_97_5 (d : Nat) (σ : HP) (x0 x1 x2 x3 x4 : Int) : rsP PG0 MX d 97 5 [vR x0, vI x1, vI x2, vI x3, vI x4] [] σ =
    cnd (32 ≤ x0 ∧ x0 < σ (-1) 0 ∧ σ x0 (-1) = 0) (cnd (wr (σ x0 6) ≤ wr x4)
      (some (x3, σ))
      (cnd (32 ≤ x0 ∧ x0 < σ (-1) 0 ∧ σ x0 (-1) = 0) (cnd (0 < (σ x0 1) ∧ (σ x0 1) < σ (-1) 0 ∧ σ (σ x0 1) (-1) = 20 ∧ 0 ≤ wr x4 ∧ wr x4 < σ (σ x0 1) (-2)) (bnd (clR PG0 MX d 50 [vI (σ (σ x0 1) (wr x4))] σ) (fun q1 => 
      cnd (wr q1.1 ≠ wr x1)
          (rsP PG0 MX d 97 5 [vR x0, vI x1, vI x2, vI x3, vI (x4 + 1)] [] q1.2)
          (cnd (32 ≤ x0 ∧ x0 < q1.2 (-1) 0 ∧ q1.2 x0 (-1) = 0) (cnd (0 < (q1.2 x0 1) ∧ (q1.2 x0 1) < q1.2 (-1) 0 ∧ q1.2 (q1.2 x0 1) (-1) = 20 ∧ 0 ≤ wr (x4 + 1) ∧ wr (x4 + 1) < q1.2 (q1.2 x0 1) (-2)) (bnd (clR PG0 MX d 50 [vI (q1.2 (q1.2 x0 1) (wr (x4 + 1)))] q1.2) (fun q2 => 
          cnd (wr q2.1 ≠ wr x2)
              (rsP PG0 MX d 97 5 [vR x0, vI x1, vI x2, vI x3, vI (x4 + 1)] [] q2.2)
              (rsP PG0 MX d 97 5 [vR x0, vI x1, vI x2, vI (x3 + 1), vI (x4 + 1)] [] q2.2))) none) none))) none) none)) none :=
  blkE (cs := pgA_97) rfl [5] 25 _ _ _ _
/-- OneAtATime.code(I)I -/
theorem ce_98 (d : Nat) (σ : HP) (x0 x1 : Int) : clR PG0 MX (d + 1) 98 [vR x0, vI x1] σ = rsP PG0 MX d 98 0 [vR x0, vI x1] [] σ := rfl
set_option maxRecDepth 100000 in
theorem sg_98_0 (d : Nat) (σ : HP) (x0 x1 : Int) : rsP PG0 MX d 98 0 [vR x0, vI x1] [] σ =
    cnd (0 ≤ wr x1)
      (some (i_xor x1 (i_shr x1 1), σ))
      (some ((-2), σ)) :=
  blkE (cs := pgA_98) rfl [] 9 _ _ _ _
/-- OneAtATime.rank(I)I -/
theorem ce_99 (d : Nat) (σ : HP) (x0 x1 : Int) : clR PG0 MX (d + 1) 99 [vR x0, vI x1] σ = rsP PG0 MX d 99 0 [vR x0, vI x1, vU, vU] [] σ := rfl
set_option maxRecDepth 100000 in
theorem sg_99_0 (d : Nat) (σ : HP) (x0 x1 : Int) : rsP PG0 MX d 99 0 [vR x0, vI x1, vU, vU] [] σ =
    cnd (0 ≤ wr x1)
      (rsP PG0 MX d 99 11 [vR x0, vI x1, vI x1, vI 1] [] σ)
      (some ((-2), σ)) :=
  blkE (cs := pgA_99) rfl [11] 8 _ _ _ _
set_option maxRecDepth 100000 in
theorem sg_99_11 (d : Nat) (σ : HP) (x2 x3 : Int) (u0 u1 : MV) : rsP PG0 MX d 99 11 [u0, u1, vI x2, vI x3] [] σ =
    cnd (wr 32 ≤ wr x3)
      (some (x2, σ))
      (rsP PG0 MX d 99 11 [vU, vU, vI (i_xor x2 (i_shr x2 x3)), vI (x3 * 2)] [] σ) :=
  blkE (cs := pgA_99) rfl [11] 16 _ _ _ _
/-- OneAtATime.ruler(I)I -/
theorem ce_100 (d : Nat) (σ : HP) (x0 x1 : Int) : clR PG0 MX (d + 1) 100 [vR x0, vI x1] σ = rsP PG0 MX d 100 0 [vR x0, vI x1] [] σ := rfl
set_option maxRecDepth 100000 in
theorem sg_100_0 (d : Nat) (σ : HP) (x0 x1 : Int) : rsP PG0 MX d 100 0 [vR x0, vI x1] [] σ =
    cnd (wr 1 ≤ wr x1)
      (bnd (clR PG0 MX d 101 [vI x1] σ) (fun q1 => 
      some (q1.1, q1.2)))
      (some ((-2), σ)) :=
  blkE (cs := pgA_100) rfl [] 7 _ _ _ _
/-- java/lang/Integer.numberOfTrailingZeros(I)I -/
theorem ce_101 (d : Nat) (σ : HP) (x0 : Int) : clR PG0 MX (d + 1) 101 [vI x0] σ = rsP PG0 MX d 101 0 [vI x0, vU] [] σ := rfl
set_option maxRecDepth 100000 in
theorem sg_101_0 (d : Nat) (σ : HP) (x0 : Int) : rsP PG0 MX d 101 0 [vI x0, vU] [] σ =
    cnd (0 < wr (i_and (i_xor x0 ((-1))) (x0 - 1)))
      (cnd (wr (i_and (i_xor x0 ((-1))) (x0 - 1)) ≤ wr 65536)
        (rsP PG0 MX d 101 34 [vI (i_and (i_xor x0 ((-1))) (x0 - 1)), vI 1] [] σ)
        (rsP PG0 MX d 101 34 [vI (i_ushr (i_and (i_xor x0 ((-1))) (x0 - 1)) 16), vI (1 + 16)] [] σ))
      (some (i_and (i_and (i_xor x0 ((-1))) (x0 - 1)) 32, σ)) :=
  blkE (cs := pgA_101) rfl [34, 49, 62] 22 _ _ _ _
set_option maxRecDepth 100000 in
theorem sg_101_34 (d : Nat) (σ : HP) (x0 x1 : Int) : rsP PG0 MX d 101 34 [vI x0, vI x1] [] σ =
    cnd (wr x0 ≤ wr 256)
      (rsP PG0 MX d 101 49 [vI x0, vI x1] [] σ)
      (rsP PG0 MX d 101 49 [vI (i_ushr x0 8), vI (x1 + 8)] [] σ) :=
  blkE (cs := pgA_101) rfl [34, 49, 62] 10 _ _ _ _
set_option maxRecDepth 100000 in
theorem sg_101_49 (d : Nat) (σ : HP) (x0 x1 : Int) : rsP PG0 MX d 101 49 [vI x0, vI x1] [] σ =
    cnd (wr x0 ≤ wr 16)
      (rsP PG0 MX d 101 62 [vI x0, vI x1] [] σ)
      (rsP PG0 MX d 101 62 [vI (i_ushr x0 4), vI (x1 + 4)] [] σ) :=
  blkE (cs := pgA_101) rfl [34, 49, 62] 10 _ _ _ _
set_option maxRecDepth 100000 in
theorem sg_101_62 (d : Nat) (σ : HP) (x0 x1 : Int) : rsP PG0 MX d 101 62 [vI x0, vI x1] [] σ =
    cnd (wr x0 ≤ wr 4)
      (some (x1 + (i_ushr x0 1), σ))
      (some ((x1 + 2) + (i_ushr (i_ushr x0 2) 1), σ)) :=
  blkE (cs := pgA_101) rfl [34, 49, 62] 15 _ _ _ _
/-- OneAtATime.makes(II)I -/
theorem ce_102 (d : Nat) (σ : HP) (x0 x1 x2 : Int) : clR PG0 MX (d + 1) 102 [vR x0, vI x1, vI x2] σ = rsP PG0 MX d 102 0 [vR x0, vI x1, vI x2, vU] [] σ := rfl
set_option maxRecDepth 100000 in
theorem sg_102_0 (d : Nat) (σ : HP) (x0 x1 x2 : Int) : rsP PG0 MX d 102 0 [vR x0, vI x1, vI x2, vU] [] σ =
    cnd (0 < x0 ∧ x0 < σ (-1) 0 ∧ σ x0 (-1) = 8) (bnd (clR PG0 MX d 41 [vR x0, vI x1] σ) (fun q1 => 
    cnd (0 < q1.1)
        (cnd (wr x2 = 0)
          (cnd (32 ≤ x0 ∧ x0 < q1.2 (-1) 0 ∧ q1.2 x0 (-1) = 8) (bnd (clR PG0 MX d 103 [vR q1.1, vR (q1.2 x0 1)] q1.2) (fun q2 => 
          cnd (0 < x0 ∧ x0 < q2.2 (-1) 0 ∧ q2.2 x0 (-1) = 8) (bnd (clR PG0 MX d 32 [vR x0, vI x1] q2.2) (fun q3 => 
            some (q3.1, q3.2))) none)) none)
          (cnd (wr x2 = 1)
          (cnd (32 ≤ x0 ∧ x0 < q1.2 (-1) 0 ∧ q1.2 x0 (-1) = 8) (bnd (clR PG0 MX d 105 [vR q1.1, vR (q1.2 x0 1)] q1.2) (fun q4 => 
          cnd (0 < x0 ∧ x0 < q4.2 (-1) 0 ∧ q4.2 x0 (-1) = 8) (bnd (clR PG0 MX d 32 [vR x0, vI x1] q4.2) (fun q5 => 
            some (q5.1, q5.2))) none)) none)
          (cnd (wr x2 = 2)
          (cnd (32 ≤ q1.1 ∧ q1.1 < q1.2 (-1) 0 ∧ q1.2 q1.1 (-1) = 0) (cnd (wr ((q1.2 q1.1 6) * 2) ≤ wr 256)
            (cnd (32 ≤ x0 ∧ x0 < q1.2 (-1) 0 ∧ q1.2 x0 (-1) = 8) (bnd (clR PG0 MX d 106 [vR q1.1, vR (q1.2 x0 1)] q1.2) (fun q6 => 
            cnd (0 < x0 ∧ x0 < q6.2 (-1) 0 ∧ q6.2 x0 (-1) = 8) (bnd (clR PG0 MX d 32 [vR x0, vI x1] q6.2) (fun q7 => 
              some (q7.1, q7.2))) none)) none)
            (some ((-2), q1.2))) none)
          (some ((-2), q1.2)))))
        (some ((-2), q1.2)))) none :=
  blkE (cs := pgA_102) rfl [] 23 _ _ _ _
/-- OneAtATime$Maker.reflected(LOneAtATime$BitList;LOneAtATime$BitList;)V -/
theorem ce_103 (d : Nat) (σ : HP) (x0 x1 : Int) : clR PG0 MX (d + 1) 103 [vR x0, vR x1] σ = rsP PG0 MX d 103 0 [vR x0, vR x1, vU] [] σ := rfl
set_option maxRecDepth 100000 in
theorem sg_103_0 (d : Nat) (σ : HP) (x0 x1 : Int) : rsP PG0 MX d 103 0 [vR x0, vR x1, vU] [] σ =
    cnd (32 ≤ x0 ∧ x0 < σ (-1) 0 ∧ σ x0 (-1) = 0) (cnd (0 < (σ x0 1) ∧ (σ x0 1) < σ (-1) 0 ∧ σ (σ x0 1) (-1) = 20 ∧ 0 ≤ wr 0 ∧ wr 0 < σ (σ x0 1) (-2)) (cnd (0 < x1 ∧ x1 < σ (-1) 0 ∧ σ x1 (-1) = 0) (bnd (clR PG0 MX d 104 [vR x1, vR x0, vI (σ (σ x0 1) (wr 0))] σ) (fun q1 => 
    rsP PG0 MX d 103 13 [vR x0, vR x1, vI 1] [] q1.2)) none) none) none :=
  blkE (cs := pgA_103) rfl [13] 11 _ _ _ _
set_option maxRecDepth 100000 in
theorem sg_103_13 (d : Nat) (σ : HP) (x0 x1 x2 : Int) : rsP PG0 MX d 103 13 [vR x0, vR x1, vI x2] [] σ =
    cnd (0 < x0 ∧ x0 < σ (-1) 0 ∧ σ x0 (-1) = 0) (bnd (clR PG0 MX d 47 [vR x0] σ) (fun q1 => 
    cnd (wr q1.1 ≤ wr x2)
        (cnd (32 ≤ x0 ∧ x0 < q1.2 (-1) 0 ∧ q1.2 x0 (-1) = 0) (cnd (0 < x1 ∧ x1 < q1.2 (-1) 0 ∧ q1.2 x1 (-1) = 0) (bnd (clR PG0 MX d 31 [vR x1, vI ((q1.2 x0 3) - 1)] q1.2) (fun q2 => 
        some (0, q2.2))) none) none)
        (bnd (clR PG0 MX d 101 [vI x2] q1.2) (fun q3 => 
        cnd (0 < x1 ∧ x1 < q3.2 (-1) 0 ∧ q3.2 x1 (-1) = 0) (bnd (clR PG0 MX d 31 [vR x1, vI q3.1] q3.2) (fun q4 => 
          rsP PG0 MX d 103 13 [vR x0, vR x1, vI (x2 + 1)] [] q4.2)) none)))) none :=
  blkE (cs := pgA_103) rfl [13] 12 _ _ _ _
/-- OneAtATime$BitList.beginLike(LOneAtATime$BitList;I)V -/
theorem ce_104 (d : Nat) (σ : HP) (x0 x1 x2 : Int) : clR PG0 MX (d + 1) 104 [vR x0, vR x1, vI x2] σ = rsP PG0 MX d 104 0 [vR x0, vR x1, vI x2] [] σ := rfl
set_option maxRecDepth 100000 in
theorem sg_104_0 (d : Nat) (σ : HP) (x0 x1 x2 : Int) : rsP PG0 MX d 104 0 [vR x0, vR x1, vI x2] [] σ =
    cnd (32 ≤ x1 ∧ x1 < σ (-1) 0 ∧ σ x1 (-1) = 0) (cnd (32 ≤ x1 ∧ x1 < σ (-1) 0 ∧ σ x1 (-1) = 0) (cnd (32 ≤ x1 ∧ x1 < σ (-1) 0 ∧ σ x1 (-1) = 0) (cnd (0 < x0 ∧ x0 < σ (-1) 0 ∧ σ x0 (-1) = 0) (bnd (clR PG0 MX d 28 [vR x0, vI (σ x1 3), vI (σ x1 4), vI (σ x1 5), vI x2] σ) (fun q1 => 
    some (0, q1.2))) none) none) none) none :=
  blkE (cs := pgA_104) rfl [] 11 _ _ _ _
/-- OneAtATime$Maker.ladder(LOneAtATime$BitList;LOneAtATime$BitList;)V -/
theorem ce_105 (d : Nat) (σ : HP) (x0 x1 : Int) : clR PG0 MX (d + 1) 105 [vR x0, vR x1] σ = rsP PG0 MX d 105 0 [vR x0, vR x1, vU, vU] [] σ := rfl
set_option maxRecDepth 100000 in
theorem sg_105_0 (d : Nat) (σ : HP) (x0 x1 : Int) : rsP PG0 MX d 105 0 [vR x0, vR x1, vU, vU] [] σ =
    cnd (32 ≤ x0 ∧ x0 < σ (-1) 0 ∧ σ x0 (-1) = 0) (cnd (0 < (σ x0 1) ∧ (σ x0 1) < σ (-1) 0 ∧ σ (σ x0 1) (-1) = 20 ∧ 0 ≤ wr 0 ∧ wr 0 < σ (σ x0 1) (-2)) (cnd (0 < x1 ∧ x1 < σ (-1) 0 ∧ σ x1 (-1) = 0) (bnd (clR PG0 MX d 104 [vR x1, vR x0, vI (σ (σ x0 1) (wr 0))] σ) (fun q1 => 
    rsP PG0 MX d 105 13 [vR x0, vR x1, vI 0, vU] [] q1.2)) none) none) none :=
  blkE (cs := pgA_105) rfl [13, 20] 11 _ _ _ _
set_option maxRecDepth 100000 in
theorem sg_105_13 (d : Nat) (σ : HP) (x0 x1 x2 : Int) (u3 : MV) : rsP PG0 MX d 105 13 [vR x0, vR x1, vI x2, u3] [] σ =
    cnd (wr 2 ≤ wr x2)
      (some (0, σ))
      (rsP PG0 MX d 105 20 [vR x0, vR x1, vI x2, vI 0] [] σ) :=
  blkE (cs := pgA_105) rfl [13, 20] 7 _ _ _ _
set_option maxRecDepth 100000 in
theorem sg_105_20 (d : Nat) (σ : HP) (x0 x1 x2 x3 : Int) : rsP PG0 MX d 105 20 [vR x0, vR x1, vI x2, vI x3] [] σ =
    cnd (32 ≤ x0 ∧ x0 < σ (-1) 0 ∧ σ x0 (-1) = 0) (cnd (wr (σ x0 3) ≤ wr x3)
      (rsP PG0 MX d 105 13 [vR x0, vR x1, vI (x2 + 1), vI x3] [] σ)
      (cnd (0 < x1 ∧ x1 < σ (-1) 0 ∧ σ x1 (-1) = 0) (bnd (clR PG0 MX d 31 [vR x1, vI x3] σ) (fun q1 => 
      rsP PG0 MX d 105 20 [vR x0, vR x1, vI x2, vI (x3 + 1)] [] q1.2)) none)) none :=
  blkE (cs := pgA_105) rfl [13, 20] 11 _ _ _ _
/-- OneAtATime$Maker.twice(LOneAtATime$BitList;LOneAtATime$BitList;)V -/
theorem ce_106 (d : Nat) (σ : HP) (x0 x1 : Int) : clR PG0 MX (d + 1) 106 [vR x0, vR x1] σ = rsP PG0 MX d 106 0 [vR x0, vR x1] [] σ := rfl
set_option maxRecDepth 100000 in
theorem sg_106_0 (d : Nat) (σ : HP) (x0 x1 : Int) : rsP PG0 MX d 106 0 [vR x0, vR x1] [] σ =
    cnd (0 < x1 ∧ x1 < σ (-1) 0 ∧ σ x1 (-1) = 0) (bnd (clR PG0 MX d 35 [vR x1, vR x0] σ) (fun q1 => 
    cnd (32 ≤ x0 ∧ x0 < q1.2 (-1) 0 ∧ q1.2 x0 (-1) = 0) (cnd (0 < x1 ∧ x1 < q1.2 (-1) 0 ∧ q1.2 x1 (-1) = 0) (bnd (clR PG0 MX d 107 [vR x1, vR x0, vI 0, vI (q1.2 x0 6), vI 0] q1.2) (fun q2 => 
      some (0, q2.2))) none) none)) none :=
  blkE (cs := pgA_106) rfl [] 12 _ _ _ _
/-- OneAtATime$BitList.pushOn(LOneAtATime$BitList;III)V -/
theorem ce_107 (d : Nat) (σ : HP) (x0 x1 x2 x3 x4 : Int) : clR PG0 MX (d + 1) 107 [vR x0, vR x1, vI x2, vI x3, vI x4] σ = rsP PG0 MX d 107 0 [vR x0, vR x1, vI x2, vI x3, vI x4, vU] [] σ := rfl
set_option maxRecDepth 100000 in
theorem sg_107_0 (d : Nat) (σ : HP) (x0 x1 x2 x3 x4 : Int) : rsP PG0 MX d 107 0 [vR x0, vR x1, vI x2, vI x3, vI x4, vU] [] σ =
    bnd (clR PG0 MX d 1004 [vI x2, vI 0] σ) (fun q1 => 
    rsP PG0 MX d 107 7 [vR x0, vR x1, vI x2, vI x3, vI x4, vI q1.1] [] q1.2) :=
  blkE (cs := pgA_107) rfl [7] 6 _ _ _ _
set_option maxRecDepth 100000 in
theorem sg_107_7 (d : Nat) (σ : HP) (x0 x1 x3 x4 x5 : Int) (u2 : MV) : rsP PG0 MX d 107 7 [vR x0, vR x1, u2, vI x3, vI x4, vI x5] [] σ =
    cnd (wr x3 ≤ wr x5)
      (some (0, σ))
      (cnd (32 ≤ x1 ∧ x1 < σ (-1) 0 ∧ σ x1 (-1) = 0) (cnd (wr (σ x1 6) ≤ wr x5)
        (some (0, σ))
        (cnd (32 ≤ x1 ∧ x1 < σ (-1) 0 ∧ σ x1 (-1) = 0) (cnd (0 < (σ x1 0) ∧ (σ x1 0) < σ (-1) 0 ∧ σ (σ x1 0) (-1) = 20 ∧ 0 ≤ wr x5 ∧ wr x5 < σ (σ x1 0) (-2)) (cnd (0 < x0 ∧ x0 < σ (-1) 0 ∧ σ x0 (-1) = 0) (bnd (clR PG0 MX d 31 [vR x0, vI ((σ (σ x1 0) (wr x5)) + x4)] σ) (fun q1 => 
        rsP PG0 MX d 107 7 [vR x0, vR x1, vU, vI x3, vI x4, vI (x5 + 1)] [] q1.2)) none) none) none)) none) :=
  blkE (cs := pgA_107) rfl [7] 19 _ _ _ _
/-- OneAtATime.finds(III)I -/
theorem ce_108 (d : Nat) (σ : HP) (x0 x1 x2 x3 : Int) : clR PG0 MX (d + 1) 108 [vR x0, vI x1, vI x2, vI x3] σ = rsP PG0 MX d 108 0 [vR x0, vI x1, vI x2, vI x3, vU, vU] [] σ := rfl
set_option maxRecDepth 100000 in
theorem sg_108_0 (d : Nat) (σ : HP) (x0 x1 x2 x3 : Int) : rsP PG0 MX d 108 0 [vR x0, vI x1, vI x2, vI x3, vU, vU] [] σ =
    cnd (0 < x0 ∧ x0 < σ (-1) 0 ∧ σ x0 (-1) = 8) (bnd (clR PG0 MX d 41 [vR x0, vI x1] σ) (fun q1 => 
    cnd (q1.1 ≤ 0)
        (some ((-2), q1.2))
        (cnd (wr x2 < 0)
          (some ((-2), q1.2))
          (cnd (wr 3 < wr x2)
            (some ((-2), q1.2))
            (cnd (wr x3 < wr 1)
              (some ((-2), q1.2))
              (cnd (wr x3 ≤ wr 50000)
                (cnd (32 ≤ x0 ∧ x0 < q1.2 (-1) 0 ∧ q1.2 x0 (-1) = 8) (cnd (32 ≤ x0 ∧ x0 < q1.2 (-1) 0 ∧ q1.2 x0 (-1) = 8) (cnd (0 < (q1.2 x0 6) ∧ (q1.2 x0 6) < q1.2 (-1) 0 ∧ q1.2 (q1.2 x0 6) (-1) = 6) (bnd (clR PG0 MX d 109 [vR (q1.2 x0 6), vR q1.1, vI x2, vI x3, vR (q1.2 x0 1)] q1.2) (fun q2 => 
                cnd (0 ≤ wr q2.1)
                    (cnd (0 < x0 ∧ x0 < q2.2 (-1) 0 ∧ q2.2 x0 (-1) = 8) (bnd (clR PG0 MX d 32 [vR x0, vI x1] q2.2) (fun q3 => 
                    some (q3.1, q3.2))) none)
                    (some (q2.1, q2.2)))) none) none) none)
                (some ((-2), q1.2)))))))) none :=
  blkE (cs := pgA_108) rfl [] 33 _ _ _ _
/-- OneAtATime$Search.byLaw(LOneAtATime$BitList;IILOneAtATime$BitList;)I -/
theorem ce_109 (d : Nat) (σ : HP) (x0 x1 x2 x3 x4 : Int) : clR PG0 MX (d + 1) 109 [vR x0, vR x1, vI x2, vI x3, vR x4] σ = rsP PG0 MX d 109 0 [vR x0, vR x1, vI x2, vI x3, vR x4, vU, vU, vU, vU, vU] [] σ := rfl
set_option maxRecDepth 100000 in
theorem sg_109_0 (d : Nat) (σ : HP) (x0 x1 x2 x3 x4 : Int) : rsP PG0 MX d 109 0 [vR x0, vR x1, vI x2, vI x3, vR x4, vU, vU, vU, vU, vU] [] σ =
    cnd (32 ≤ x1 ∧ x1 < σ (-1) 0 ∧ σ x1 (-1) = 0) (cnd (0 < (σ x1 1) ∧ (σ x1 1) < σ (-1) 0 ∧ σ (σ x1 1) (-1) = 20 ∧ 0 ≤ wr 0 ∧ wr 0 < σ (σ x1 1) (-2)) (cnd (0 < x1 ∧ x1 < σ (-1) 0 ∧ σ x1 (-1) = 0) (bnd (clR PG0 MX d 49 [vR x1, vI (σ (σ x1 1) (wr 0))] σ) (fun q1 => 
    cnd (wr q1.1 ≠ 0)
        (cnd (0 < x0 ∧ x0 < q1.2 (-1) 0 ∧ q1.2 x0 (-1) = 6) (bnd (clR PG0 MX d 110 [vR x0, vR x1] q1.2) (fun q2 => 
        cnd (0 < x4 ∧ x4 < q2.2 (-1) 0 ∧ q2.2 x4 (-1) = 0) (bnd (clR PG0 MX d 104 [vR x4, vR x1, vI (σ (σ x1 1) (wr 0))] q2.2) (fun q3 => 
          cnd (32 ≤ x0 ∧ x0 < q3.2 (-1) 0 ∧ q3.2 x0 (-1) = 6) (cnd (32 ≤ (q3.2 x0 0) ∧ (q3.2 x0 0) < q3.2 (-1) 0 ∧ q3.2 (q3.2 x0 0) (-1) = 20 ∧ 0 ≤ wr (σ (σ x1 1) (wr 0)) ∧ wr (σ (σ x1 1) (wr 0)) < q3.2 (q3.2 x0 0) (-2)) (cnd (32 ≤ x0 ∧ x0 < (up q3.2 (q3.2 x0 0) (wr (σ (σ x1 1) (wr 0))) 1) (-1) 0 ∧ (up q3.2 (q3.2 x0 0) (wr (σ (σ x1 1) (wr 0))) 1) x0 (-1) = 6) (cnd (32 ≤ ((up q3.2 (q3.2 x0 0) (wr (σ (σ x1 1) (wr 0))) 1) x0 1) ∧ ((up q3.2 (q3.2 x0 0) (wr (σ (σ x1 1) (wr 0))) 1) x0 1) < (up q3.2 (q3.2 x0 0) (wr (σ (σ x1 1) (wr 0))) 1) (-1) 0 ∧ (up q3.2 (q3.2 x0 0) (wr (σ (σ x1 1) (wr 0))) 1) ((up q3.2 (q3.2 x0 0) (wr (σ (σ x1 1) (wr 0))) 1) x0 1) (-1) = 20 ∧ 0 ≤ wr 0 ∧ wr 0 < (up q3.2 (q3.2 x0 0) (wr (σ (σ x1 1) (wr 0))) 1) ((up q3.2 (q3.2 x0 0) (wr (σ (σ x1 1) (wr 0))) 1) x0 1) (-2)) (rsP PG0 MX d 109 47 [vR x0, vR x1, vI x2, vI x3, vR x4, vI (σ (σ x1 1) (wr 0)), vU, vU, vU, vU] [] (up (up q3.2 (q3.2 x0 0) (wr (σ (σ x1 1) (wr 0))) 1) ((up q3.2 (q3.2 x0 0) (wr (σ (σ x1 1) (wr 0))) 1) x0 1) (wr 0) 0)) none) none) none) none)) none)) none)
        (some ((-1), q1.2)))) none) none) none :=
  blkE (cs := pgA_109) rfl [47, 68, 100] 28 _ _ _ _
set_option maxRecDepth 100000 in
theorem sg_109_47 (d : Nat) (σ : HP) (x0 x1 x2 x3 x4 x5 : Int) (u6 u7 u8 u9 : MV) : rsP PG0 MX d 109 47 [vR x0, vR x1, vI x2, vI x3, vR x4, vI x5, u6, u7, u8, u9] [] σ =
    cnd (32 ≤ x0 ∧ x0 < σ (-1) 0 ∧ σ x0 (-1) = 6) (cnd (32 ≤ (σ x0 2) ∧ (σ x0 2) < σ (-1) 0 ∧ σ (σ x0 2) (-1) = 20 ∧ 0 ≤ wr 0 ∧ wr 0 < σ (σ x0 2) (-2)) (cnd (0 < x1 ∧ x1 < (up σ (σ x0 2) (wr 0) 0) (-1) 0 ∧ (up σ (σ x0 2) (wr 0) 0) x1 (-1) = 0) (bnd (clR PG0 MX d 48 [vR x1] (up σ (σ x0 2) (wr 0) 0)) (fun q1 => 
    rsP PG0 MX d 109 68 [vR x0, vR x1, vI x2, vI x3, vR x4, vI x5, vI (q1.1 - 1), vI 0, vI 0, u9] [] q1.2)) none) none) none :=
  blkE (cs := pgA_109) rfl [47, 68, 100] 16 _ _ _ _
set_option maxRecDepth 100000 in
theorem sg_109_68 (d : Nat) (σ : HP) (x0 x2 x3 x4 x6 x7 x8 : Int) (u1 u5 u9 : MV) : rsP PG0 MX d 109 68 [vR x0, u1, vI x2, vI x3, vR x4, u5, vI x6, vI x7, vI x8, u9] [] σ =
    cnd (wr 1000000 ≤ wr x8)
      (some ((-3), σ))
      (cnd (32 ≤ x4 ∧ x4 < σ (-1) 0 ∧ σ x4 (-1) = 0) (cnd (wr (σ x4 6) ≠ wr x6)
        (rsP PG0 MX d 109 100 [vR x0, vU, vI x2, vI x3, vR x4, vU, vI x6, vI x7, vI x8, vU] [] σ)
        (bnd (clR PG0 MX d 111 [vR x4, vI x2] σ) (fun q1 => 
        cnd (wr q1.1 = 0)
            (rsP PG0 MX d 109 100 [vR x0, vU, vI x2, vI x3, vR x4, vU, vI x6, vI x7, vI x8, vU] [] q1.2)
            (cnd (32 ≤ x4 ∧ x4 < q1.2 (-1) 0 ∧ q1.2 x4 (-1) = 0) (some (q1.2 x4 6, q1.2)) none)))) none) :=
  blkE (cs := pgA_109) rfl [47, 68, 100] 15 _ _ _ _
set_option maxRecDepth 100000 in
theorem sg_109_100 (d : Nat) (σ : HP) (x0 x2 x3 x4 x6 x7 x8 : Int) (u1 u5 u9 : MV) : rsP PG0 MX d 109 100 [vR x0, u1, vI x2, vI x3, vR x4, u5, vI x6, vI x7, vI x8, u9] [] σ =
    cnd (0 < x0 ∧ x0 < σ (-1) 0 ∧ σ x0 (-1) = 6) (bnd (clR PG0 MX d 114 [vR x0, vR x4, vI x2] σ) (fun q1 => 
    cnd (wr q1.1 ≠ wr ((-1)))
        (cnd (wr x7 ≠ wr x3)
          (cnd (0 < x0 ∧ x0 < q1.2 (-1) 0 ∧ q1.2 x0 (-1) = 6) (bnd (clR PG0 MX d 116 [vR x0, vR x4, vI q1.1] q1.2) (fun q2 => 
          cnd (32 ≤ x0 ∧ x0 < q2.2 (-1) 0 ∧ q2.2 x0 (-1) = 6) (cnd (0 < x4 ∧ x4 < q2.2 (-1) 0 ∧ q2.2 x4 (-1) = 0) (bnd (clR PG0 MX d 112 [vR x4] q2.2) (fun q3 => 
            cnd (32 ≤ (q2.2 x0 0) ∧ (q2.2 x0 0) < q3.2 (-1) 0 ∧ q3.2 (q2.2 x0 0) (-1) = 20 ∧ 0 ≤ wr q3.1 ∧ wr q3.1 < q3.2 (q2.2 x0 0) (-2)) (rsP PG0 MX d 109 68 [vR x0, vU, vI x2, vI x3, vR x4, vU, vI x6, vI (x7 + 1), vI (x8 + 1), vU] [] (up q3.2 (q2.2 x0 0) (wr q3.1) 1)) none)) none) none)) none)
          (some ((-3), q1.2)))
        (cnd (32 ≤ x4 ∧ x4 < q1.2 (-1) 0 ∧ q1.2 x4 (-1) = 0) (cnd (wr (q1.2 x4 6) ≠ 0)
          (cnd (32 ≤ x0 ∧ x0 < q1.2 (-1) 0 ∧ q1.2 x0 (-1) = 6) (cnd (0 < x4 ∧ x4 < q1.2 (-1) 0 ∧ q1.2 x4 (-1) = 0) (bnd (clR PG0 MX d 112 [vR x4] q1.2) (fun q4 => 
          cnd (32 ≤ (q1.2 x0 0) ∧ (q1.2 x0 0) < q4.2 (-1) 0 ∧ q4.2 (q1.2 x0 0) (-1) = 20 ∧ 0 ≤ wr q4.1 ∧ wr q4.1 < q4.2 (q1.2 x0 0) (-2)) (cnd (0 < x4 ∧ x4 < (up q4.2 (q1.2 x0 0) (wr q4.1) 0) (-1) 0 ∧ (up q4.2 (q1.2 x0 0) (wr q4.1) 0) x4 (-1) = 0) (bnd (clR PG0 MX d 113 [vR x4] (up q4.2 (q1.2 x0 0) (wr q4.1) 0)) (fun q5 => 
            rsP PG0 MX d 109 68 [vR x0, vU, vI x2, vI x3, vR x4, vU, vI x6, vI x7, vI (x8 + 1), vU] [] q5.2)) none) none)) none) none)
          (some ((-1), q1.2))) none))) none :=
  blkE (cs := pgA_109) rfl [47, 68, 100] 26 _ _ _ _
/-- OneAtATime$Search.barOutsideScope(LOneAtATime$BitList;)V -/
theorem ce_110 (d : Nat) (σ : HP) (x0 x1 : Int) : clR PG0 MX (d + 1) 110 [vR x0, vR x1] σ = rsP PG0 MX d 110 0 [vR x0, vR x1, vU] [] σ := rfl
set_option maxRecDepth 100000 in
theorem sg_110_0 (d : Nat) (σ : HP) (x0 x1 : Int) : rsP PG0 MX d 110 0 [vR x0, vR x1, vU] [] σ =
    rsP PG0 MX d 110 2 [vR x0, vR x1, vI 0] [] σ :=
  blkE (cs := pgA_110) rfl [2] 4 _ _ _ _
set_option maxRecDepth 100000 in
theorem sg_110_2 (d : Nat) (σ : HP) (x0 x1 x2 : Int) : rsP PG0 MX d 110 2 [vR x0, vR x1, vI x2] [] σ =
    cnd (0 < x1 ∧ x1 < σ (-1) 0 ∧ σ x1 (-1) = 0) (bnd (clR PG0 MX d 47 [vR x1] σ) (fun q1 => 
    cnd (wr q1.1 ≤ wr x2)
        (some (0, q1.2))
        (cnd (32 ≤ x0 ∧ x0 < q1.2 (-1) 0 ∧ q1.2 x0 (-1) = 6) (cnd (0 < x1 ∧ x1 < q1.2 (-1) 0 ∧ q1.2 x1 (-1) = 0) (bnd (clR PG0 MX d 49 [vR x1, vI x2] q1.2) (fun q2 => 
        cnd (wr q2.1 = 0)
            (cnd (32 ≤ (q1.2 x0 0) ∧ (q1.2 x0 0) < q2.2 (-1) 0 ∧ q2.2 (q1.2 x0 0) (-1) = 20 ∧ 0 ≤ wr x2 ∧ wr x2 < q2.2 (q1.2 x0 0) (-2)) (rsP PG0 MX d 110 2 [vR x0, vR x1, vI (x2 + 1)] [] (up q2.2 (q1.2 x0 0) (wr x2) 1)) none)
            (cnd (32 ≤ (q1.2 x0 0) ∧ (q1.2 x0 0) < q2.2 (-1) 0 ∧ q2.2 (q1.2 x0 0) (-1) = 20 ∧ 0 ≤ wr x2 ∧ wr x2 < q2.2 (q1.2 x0 0) (-2)) (rsP PG0 MX d 110 2 [vR x0, vR x1, vI (x2 + 1)] [] (up q2.2 (q1.2 x0 0) (wr x2) 0)) none))) none) none))) none :=
  blkE (cs := pgA_110) rfl [2] 18 _ _ _ _
/-- OneAtATime$Search.isAccepted(LOneAtATime$BitList;I)Z -/
theorem ce_111 (d : Nat) (σ : HP) (x0 x1 : Int) : clR PG0 MX (d + 1) 111 [vR x0, vI x1] σ = rsP PG0 MX d 111 0 [vR x0, vI x1, vU] [] σ := rfl
set_option maxRecDepth 100000 in
theorem sg_111_0 (d : Nat) (σ : HP) (x0 x1 : Int) : rsP PG0 MX d 111 0 [vR x0, vI x1, vU] [] σ =
    cnd (wr x1 = wr 1)
      (rsP PG0 MX d 111 12 [vR x0, vI x1, vU] [] σ)
      (cnd (wr x1 = wr 3)
        (rsP PG0 MX d 111 12 [vR x0, vI x1, vU] [] σ)
        (some (1, σ))) :=
  blkE (cs := pgA_111) rfl [12, 42] 9 _ _ _ _
set_option maxRecDepth 100000 in
theorem sg_111_12 (d : Nat) (σ : HP) (x0 x1 : Int) (u2 : MV) : rsP PG0 MX d 111 12 [vR x0, vI x1, u2] [] σ =
    cnd (0 < x0 ∧ x0 < σ (-1) 0 ∧ σ x0 (-1) = 0) (bnd (clR PG0 MX d 112 [vR x0] σ) (fun q1 => 
    cnd (32 ≤ x0 ∧ x0 < q1.2 (-1) 0 ∧ q1.2 x0 (-1) = 0) (cnd (0 < (q1.2 x0 1) ∧ (q1.2 x0 1) < q1.2 (-1) 0 ∧ q1.2 (q1.2 x0 1) (-1) = 20 ∧ 0 ≤ wr 0 ∧ wr 0 < q1.2 (q1.2 x0 1) (-2)) (bnd (clR PG0 MX d 50 [vI (i_xor q1.1 (q1.2 (q1.2 x0 1) (wr 0)))] q1.2) (fun q2 => 
      cnd (wr q2.1 = wr 1)
          (bnd (clR PG0 MX d 101 [vI (i_xor q1.1 (q1.2 (q1.2 x0 1) (wr 0)))] q2.2) (fun q3 => 
          cnd (0 < x0 ∧ x0 < q3.2 (-1) 0 ∧ q3.2 x0 (-1) = 0) (bnd (clR PG0 MX d 31 [vR x0, vI q3.1] q3.2) (fun q4 => 
            rsP PG0 MX d 111 42 [vR x0, vI x1, vI (i_xor q1.1 (q1.2 (q1.2 x0 1) (wr 0)))] [] q4.2)) none))
          (some (0, q2.2)))) none) none)) none :=
  blkE (cs := pgA_111) rfl [12, 42] 18 _ _ _ _
set_option maxRecDepth 100000 in
theorem sg_111_42 (d : Nat) (σ : HP) (x0 x1 x2 : Int) : rsP PG0 MX d 111 42 [vR x0, vI x1, vI x2] [] σ =
    cnd (wr x1 ≠ wr 3)
      (some (1, σ))
      (bnd (clR PG0 MX d 60 [vR x0] σ) (fun q1 => 
      cnd (wr q1.1 ≠ 0)
          (some (1, q1.2))
          (cnd (0 < x0 ∧ x0 < q1.2 (-1) 0 ∧ q1.2 x0 (-1) = 0) (bnd (clR PG0 MX d 113 [vR x0] q1.2) (fun q2 => 
          some (0, q2.2))) none))) :=
  blkE (cs := pgA_111) rfl [12, 42] 11 _ _ _ _
/-- OneAtATime$BitList.lastWord()I -/
theorem ce_112 (d : Nat) (σ : HP) (x0 : Int) : clR PG0 MX (d + 1) 112 [vR x0] σ = rsP PG0 MX d 112 0 [vR x0] [] σ := rfl
set_option maxRecDepth 100000 in
theorem sg_112_0 (d : Nat) (σ : HP) (x0 : Int) : rsP PG0 MX d 112 0 [vR x0] [] σ =
    cnd (32 ≤ x0 ∧ x0 < σ (-1) 0 ∧ σ x0 (-1) = 0) (cnd (32 ≤ x0 ∧ x0 < σ (-1) 0 ∧ σ x0 (-1) = 0) (cnd (0 < (σ x0 1) ∧ (σ x0 1) < σ (-1) 0 ∧ σ (σ x0 1) (-1) = 20 ∧ 0 ≤ wr (σ x0 6) ∧ wr (σ x0 6) < σ (σ x0 1) (-2)) (some (σ (σ x0 1) (wr (σ x0 6)), σ)) none) none) none :=
  blkE (cs := pgA_112) rfl [] 7 _ _ _ _
/-- OneAtATime$BitList.pop()V -/
theorem ce_113 (d : Nat) (σ : HP) (x0 : Int) : clR PG0 MX (d + 1) 113 [vR x0] σ = rsP PG0 MX d 113 0 [vR x0] [] σ := rfl
set_option maxRecDepth 100000 in
theorem sg_113_0 (d : Nat) (σ : HP) (x0 : Int) : rsP PG0 MX d 113 0 [vR x0] [] σ =
    cnd (32 ≤ x0 ∧ x0 < σ (-1) 0 ∧ σ x0 (-1) = 0) (cnd (wr (σ x0 6) ≤ 0)
      (some (0, σ))
      (cnd (32 ≤ x0 ∧ x0 < σ (-1) 0 ∧ σ x0 (-1) = 0) (cnd (32 ≤ x0 ∧ x0 < σ (-1) 0 ∧ σ x0 (-1) = 0) (some (0, up σ x0 6 ((σ x0 6) - 1))) none) none)) none :=
  blkE (cs := pgA_113) rfl [] 11 _ _ _ _
/-- OneAtATime$Search.freeBit(LOneAtATime$BitList;I)I -/
theorem ce_114 (d : Nat) (σ : HP) (x0 x1 x2 : Int) : clR PG0 MX (d + 1) 114 [vR x0, vR x1, vI x2] σ = rsP PG0 MX d 114 0 [vR x0, vR x1, vI x2, vU, vU, vU] [] σ := rfl
set_option maxRecDepth 100000 in
theorem sg_114_0 (d : Nat) (σ : HP) (x0 x1 x2 : Int) : rsP PG0 MX d 114 0 [vR x0, vR x1, vI x2, vU, vU, vU] [] σ =
    cnd (0 < x1 ∧ x1 < σ (-1) 0 ∧ σ x1 (-1) = 0) (bnd (clR PG0 MX d 112 [vR x1] σ) (fun q1 => 
    cnd (32 ≤ x0 ∧ x0 < q1.2 (-1) 0 ∧ q1.2 x0 (-1) = 6) (cnd (32 ≤ x1 ∧ x1 < q1.2 (-1) 0 ∧ q1.2 x1 (-1) = 0) (cnd (0 < (q1.2 x0 1) ∧ (q1.2 x0 1) < q1.2 (-1) 0 ∧ q1.2 (q1.2 x0 1) (-1) = 20 ∧ 0 ≤ wr (q1.2 x1 6) ∧ wr (q1.2 x1 6) < q1.2 (q1.2 x0 1) (-2)) (rsP PG0 MX d 114 16 [vR x0, vR x1, vI x2, vI q1.1, vI (q1.2 (q1.2 x0 1) (wr (q1.2 x1 6))), vU] [] q1.2) none) none) none)) none :=
  blkE (cs := pgA_114) rfl [16] 11 _ _ _ _
set_option maxRecDepth 100000 in
theorem sg_114_16 (d : Nat) (σ : HP) (x0 x1 x2 x3 x4 : Int) (u5 : MV) : rsP PG0 MX d 114 16 [vR x0, vR x1, vI x2, vI x3, vI x4, u5] [] σ =
    cnd (32 ≤ x1 ∧ x1 < σ (-1) 0 ∧ σ x1 (-1) = 0) (cnd (wr (σ x1 3) ≤ wr x4)
      (some ((-1), σ))
      (cnd (32 ≤ x0 ∧ x0 < σ (-1) 0 ∧ σ x0 (-1) = 6) (cnd (0 < (σ x0 0) ∧ (σ x0 0) < σ (-1) 0 ∧ σ (σ x0 0) (-1) = 20 ∧ 0 ≤ wr (i_xor x3 (i_shl 1 x4)) ∧ wr (i_xor x3 (i_shl 1 x4)) < σ (σ x0 0) (-2)) (cnd (wr (σ (σ x0 0) (wr (i_xor x3 (i_shl 1 x4)))) ≠ 0)
        (rsP PG0 MX d 114 16 [vR x0, vR x1, vI x2, vI x3, vI (x4 + 1), vU] [] σ)
        (cnd (wr x2 ≠ wr 2)
          (some (x4, σ))
          (cnd (0 < x0 ∧ x0 < σ (-1) 0 ∧ σ x0 (-1) = 6) (bnd (clR PG0 MX d 115 [vR x0, vR x1, vI (i_xor x3 (i_shl 1 x4))] σ) (fun q1 => 
          cnd (wr q1.1 = 0)
              (rsP PG0 MX d 114 16 [vR x0, vR x1, vI x2, vI x3, vI (x4 + 1), vU] [] q1.2)
              (some (x4, q1.2)))) none))) none) none)) none :=
  blkE (cs := pgA_114) rfl [16] 27 _ _ _ _
/-- OneAtATime$Search.staysMonotone(LOneAtATime$BitList;I)Z -/
theorem ce_115 (d : Nat) (σ : HP) (x0 x1 x2 : Int) : clR PG0 MX (d + 1) 115 [vR x0, vR x1, vI x2] σ = rsP PG0 MX d 115 0 [vR x0, vR x1, vI x2, vU] [] σ := rfl
set_option maxRecDepth 100000 in
theorem sg_115_0 (d : Nat) (σ : HP) (x0 x1 x2 : Int) : rsP PG0 MX d 115 0 [vR x0, vR x1, vI x2, vU] [] σ =
    cnd (0 < x1 ∧ x1 < σ (-1) 0 ∧ σ x1 (-1) = 0) (bnd (clR PG0 MX d 112 [vR x1] σ) (fun q1 => 
    bnd (clR PG0 MX d 50 [vI q1.1] q1.2) (fun q2 => 
      bnd (clR PG0 MX d 50 [vI x2] q2.2) (fun q3 => 
        bnd (clR PG0 MX d 1005 [vI q2.1, vI q3.1] q3.2) (fun q4 => 
          rsP PG0 MX d 115 15 [vR x0, vR x1, vI x2, vI q4.1] [] q4.2))))) none :=
  blkE (cs := pgA_115) rfl [15] 9 _ _ _ _
set_option maxRecDepth 100000 in
theorem sg_115_15 (d : Nat) (σ : HP) (x0 x1 x2 x3 : Int) : rsP PG0 MX d 115 15 [vR x0, vR x1, vI x2, vI x3] [] σ =
    cnd (32 ≤ x0 ∧ x0 < σ (-1) 0 ∧ σ x0 (-1) = 6) (cnd (32 ≤ x1 ∧ x1 < σ (-1) 0 ∧ σ x1 (-1) = 0) (cnd (0 < (σ x0 2) ∧ (σ x0 2) < σ (-1) 0 ∧ σ (σ x0 2) (-1) = 20 ∧ 0 ≤ wr (σ x1 6) ∧ wr (σ x1 6) < σ (σ x0 2) (-2)) (cnd (wr (x3 + 2) ≤ wr (σ (σ x0 2) (wr (σ x1 6))))
      (some (0, σ))
      (some (1, σ))) none) none) none :=
  blkE (cs := pgA_115) rfl [15] 13 _ _ _ _
/-- OneAtATime$Search.takeStep(LOneAtATime$BitList;I)V -/
theorem ce_116 (d : Nat) (σ : HP) (x0 x1 x2 : Int) : clR PG0 MX (d + 1) 116 [vR x0, vR x1, vI x2] σ = rsP PG0 MX d 116 0 [vR x0, vR x1, vI x2, vU] [] σ := rfl
set_option maxRecDepth 100000 in
theorem sg_116_0 (d : Nat) (σ : HP) (x0 x1 x2 : Int) : rsP PG0 MX d 116 0 [vR x0, vR x1, vI x2, vU] [] σ =
    cnd (32 ≤ x1 ∧ x1 < σ (-1) 0 ∧ σ x1 (-1) = 0) (cnd (wr 256 ≤ wr (σ x1 6))
      (some (0, σ))
      (cnd (32 ≤ x0 ∧ x0 < σ (-1) 0 ∧ σ x0 (-1) = 6) (cnd (32 ≤ (σ x0 1) ∧ (σ x0 1) < σ (-1) 0 ∧ σ (σ x0 1) (-1) = 20 ∧ 0 ≤ wr (σ x1 6) ∧ wr (σ x1 6) < σ (σ x0 1) (-2)) (cnd (0 < x1 ∧ x1 < (up σ (σ x0 1) (wr (σ x1 6)) (x2 + 1)) (-1) 0 ∧ (up σ (σ x0 1) (wr (σ x1 6)) (x2 + 1)) x1 (-1) = 0) (bnd (clR PG0 MX d 31 [vR x1, vI x2] (up σ (σ x0 1) (wr (σ x1 6)) (x2 + 1))) (fun q1 => 
      cnd (32 ≤ x0 ∧ x0 < q1.2 (-1) 0 ∧ q1.2 x0 (-1) = 6) (cnd (32 ≤ (q1.2 x0 1) ∧ (q1.2 x0 1) < q1.2 (-1) 0 ∧ q1.2 (q1.2 x0 1) (-1) = 20 ∧ 0 ≤ wr ((σ x1 6) + 1) ∧ wr ((σ x1 6) + 1) < q1.2 (q1.2 x0 1) (-2)) (cnd (32 ≤ x0 ∧ x0 < (up q1.2 (q1.2 x0 1) (wr ((σ x1 6) + 1)) 0) (-1) 0 ∧ (up q1.2 (q1.2 x0 1) (wr ((σ x1 6) + 1)) 0) x0 (-1) = 6) (cnd (32 ≤ x0 ∧ x0 < (up q1.2 (q1.2 x0 1) (wr ((σ x1 6) + 1)) 0) (-1) 0 ∧ (up q1.2 (q1.2 x0 1) (wr ((σ x1 6) + 1)) 0) x0 (-1) = 6) (cnd (0 < ((up q1.2 (q1.2 x0 1) (wr ((σ x1 6) + 1)) 0) x0 2) ∧ ((up q1.2 (q1.2 x0 1) (wr ((σ x1 6) + 1)) 0) x0 2) < (up q1.2 (q1.2 x0 1) (wr ((σ x1 6) + 1)) 0) (-1) 0 ∧ (up q1.2 (q1.2 x0 1) (wr ((σ x1 6) + 1)) 0) ((up q1.2 (q1.2 x0 1) (wr ((σ x1 6) + 1)) 0) x0 2) (-1) = 20 ∧ 0 ≤ wr (σ x1 6) ∧ wr (σ x1 6) < (up q1.2 (q1.2 x0 1) (wr ((σ x1 6) + 1)) 0) ((up q1.2 (q1.2 x0 1) (wr ((σ x1 6) + 1)) 0) x0 2) (-2)) (cnd (0 < x1 ∧ x1 < (up q1.2 (q1.2 x0 1) (wr ((σ x1 6) + 1)) 0) (-1) 0 ∧ (up q1.2 (q1.2 x0 1) (wr ((σ x1 6) + 1)) 0) x1 (-1) = 0) (bnd (clR PG0 MX d 56 [vR x1, vI (σ x1 6)] (up q1.2 (q1.2 x0 1) (wr ((σ x1 6) + 1)) 0)) (fun q2 => 
        bnd (clR PG0 MX d 1004 [vI ((up q1.2 (q1.2 x0 1) (wr ((σ x1 6) + 1)) 0) ((up q1.2 (q1.2 x0 1) (wr ((σ x1 6) + 1)) 0) x0 2) (wr (σ x1 6))), vI q2.1] q2.2) (fun q3 => 
          cnd (32 ≤ ((up q1.2 (q1.2 x0 1) (wr ((σ x1 6) + 1)) 0) x0 2) ∧ ((up q1.2 (q1.2 x0 1) (wr ((σ x1 6) + 1)) 0) x0 2) < q3.2 (-1) 0 ∧ q3.2 ((up q1.2 (q1.2 x0 1) (wr ((σ x1 6) + 1)) 0) x0 2) (-1) = 20 ∧ 0 ≤ wr ((σ x1 6) + 1) ∧ wr ((σ x1 6) + 1) < q3.2 ((up q1.2 (q1.2 x0 1) (wr ((σ x1 6) + 1)) 0) x0 2) (-2)) (some (0, up q3.2 ((up q1.2 (q1.2 x0 1) (wr ((σ x1 6) + 1)) 0) x0 2) (wr ((σ x1 6) + 1)) q3.1)) none))) none) none) none) none) none) none)) none) none) none)) none :=
  blkE (cs := pgA_116) rfl [] 39 _ _ _ _
/-- OneAtATime.extend(IJ)I -/
theorem ce_117 (d : Nat) (σ : HP) (x0 x1 x2 : Int) : clR PG0 MX (d + 1) 117 [vR x0, vI x1, vL x2] σ = rsP PG0 MX d 117 0 [vR x0, vI x1, vL x2, vU, vU] [] σ := rfl
set_option maxRecDepth 100000 in
theorem sg_117_0 (d : Nat) (σ : HP) (x0 x1 x2 : Int) : rsP PG0 MX d 117 0 [vR x0, vI x1, vL x2, vU, vU] [] σ =
    cnd (0 < x0 ∧ x0 < σ (-1) 0 ∧ σ x0 (-1) = 8) (bnd (clR PG0 MX d 41 [vR x0, vI x1] σ) (fun q1 => 
    cnd (q1.1 ≤ 0)
        (some ((-2), q1.2))
        (bnd (clR PG0 MX d 118 [vR q1.1, vL x2] q1.2) (fun q2 => 
        cnd (wr q2.1 ≠ 0)
            (cnd (32 ≤ q1.1 ∧ q1.1 < q2.2 (-1) 0 ∧ q2.2 q1.1 (-1) = 0) (cnd (wr (q2.2 q1.1 3) ≤ wr 6)
              (cnd (0 < x0 ∧ x0 < q2.2 (-1) 0 ∧ q2.2 x0 (-1) = 8) (bnd (clR PG0 MX d 120 [vR x0, vR q1.1] q2.2) (fun q3 => 
              cnd (wr q3.1 ≠ 0)
                  (cnd (32 ≤ x0 ∧ x0 < q3.2 (-1) 0 ∧ q3.2 x0 (-1) = 8) (bnd (clR PG0 MX d 121 [vR q1.1, vL x2, vR (q3.2 x0 1)] q3.2) (fun q4 => 
                  rsP PG0 MX d 117 59 [vR x0, vI x1, vL x2, vU, vR q1.1] [] q4.2)) none)
                  (some ((-6), q3.2)))) none)
              (some ((-5), q2.2))) none)
            (some ((-2), q2.2)))))) none :=
  blkE (cs := pgA_117) rfl [59] 25 _ _ _ _
set_option maxRecDepth 100000 in
theorem sg_117_59 (d : Nat) (σ : HP) (x0 x1 x2 x4 : Int) (u3 : MV) : rsP PG0 MX d 117 59 [vR x0, vI x1, vL x2, u3, vR x4] [] σ =
    cnd (0 < x0 ∧ x0 < σ (-1) 0 ∧ σ x0 (-1) = 8) (bnd (clR PG0 MX d 32 [vR x0, vI x1] σ) (fun q1 => 
    cnd (32 ≤ x0 ∧ x0 < q1.2 (-1) 0 ∧ q1.2 x0 (-1) = 8) (cnd (32 ≤ (q1.2 x0 1) ∧ (q1.2 x0 1) < q1.2 (-1) 0 ∧ q1.2 (q1.2 x0 1) (-1) = 0) (some (q1.2 (q1.2 x0 1) 3, q1.2)) none) none)) none :=
  blkE (cs := pgA_117) rfl [59] 9 _ _ _ _
/-- OneAtATime$Maker.canBeCut(LOneAtATime$BitList;J)Z -/
theorem ce_118 (d : Nat) (σ : HP) (x0 x1 : Int) : clR PG0 MX (d + 1) 118 [vR x0, vL x1] σ = rsP PG0 MX d 118 0 [vR x0, vL x1, vU, vU, vU, vU] [] σ := rfl
set_option maxRecDepth 100000 in
theorem sg_118_0 (d : Nat) (σ : HP) (x0 x1 : Int) : rsP PG0 MX d 118 0 [vR x0, vL x1, vU, vU, vU, vU] [] σ =
    cnd (32 ≤ x0 ∧ x0 < σ (-1) 0 ∧ σ x0 (-1) = 0) (bnd (clR PG0 MX d 1004 [vI ((σ x0 6) - 1), vI 0] σ) (fun q1 => 
    cnd (wr q1.1 < wr 64)
        (rsP PG0 MX d 118 24 [vR x0, vL x1, vU, vI q1.1, vU, vU] [vL (l_ushr x1 q1.1)] q1.2)
        (rsP PG0 MX d 118 24 [vR x0, vL x1, vU, vI q1.1, vU, vU] [vL 0] q1.2))) none :=
  blkE (cs := pgA_118) rfl [24] 15 _ _ _ _
set_option maxRecDepth 100000 in
theorem sg_118_24 (d : Nat) (σ : HP) (x1 y0 : Int) (u0 u2 u3 u4 u5 : MV) : rsP PG0 MX d 118 24 [u0, vL x1, u2, u3, u4, u5] [vL y0] σ =
    cnd (wr (l_cmp y0 0) ≠ 0)
      (some (0, σ))
      (bnd (clR PG0 MX d 119 [vL x1] σ) (fun q1 => 
      cnd (wr 2 ≠ 0) (cnd (wr (i_rem q1.1 2) ≠ 0)
          (some (0, q1.2))
          (some (1, q1.2))) none)) :=
  blkE (cs := pgA_118) rfl [24] 14 _ _ _ _
/-- java/lang/Long.bitCount(J)I -/
theorem ce_119 (d : Nat) (σ : HP) (x0 : Int) : clR PG0 MX (d + 1) 119 [vL x0] σ = rsP PG0 MX d 119 0 [vL x0, vU] [] σ := rfl
set_option maxRecDepth 100000 in
theorem sg_119_0 (d : Nat) (σ : HP) (x0 : Int) : rsP PG0 MX d 119 0 [vL x0, vU] [] σ =
    some (i_and ((((l_and (((l_and (x0 - (l_and (l_ushr x0 1) 6148914691236517205)) 3689348814741910323) + (l_and (l_ushr (x0 - (l_and (l_ushr x0 1) 6148914691236517205)) 2) 3689348814741910323)) + (l_ushr ((l_and (x0 - (l_and (l_ushr x0 1) 6148914691236517205)) 3689348814741910323) + (l_and (l_ushr (x0 - (l_and (l_ushr x0 1) 6148914691236517205)) 2) 3689348814741910323)) 4)) 1085102592571150095) + (l_ushr (l_and (((l_and (x0 - (l_and (l_ushr x0 1) 6148914691236517205)) 3689348814741910323) + (l_and (l_ushr (x0 - (l_and (l_ushr x0 1) 6148914691236517205)) 2) 3689348814741910323)) + (l_ushr ((l_and (x0 - (l_and (l_ushr x0 1) 6148914691236517205)) 3689348814741910323) + (l_and (l_ushr (x0 - (l_and (l_ushr x0 1) 6148914691236517205)) 2) 3689348814741910323)) 4)) 1085102592571150095) 8)) + (l_ushr ((l_and (((l_and (x0 - (l_and (l_ushr x0 1) 6148914691236517205)) 3689348814741910323) + (l_and (l_ushr (x0 - (l_and (l_ushr x0 1) 6148914691236517205)) 2) 3689348814741910323)) + (l_ushr ((l_and (x0 - (l_and (l_ushr x0 1) 6148914691236517205)) 3689348814741910323) + (l_and (l_ushr (x0 - (l_and (l_ushr x0 1) 6148914691236517205)) 2) 3689348814741910323)) 4)) 1085102592571150095) + (l_ushr (l_and (((l_and (x0 - (l_and (l_ushr x0 1) 6148914691236517205)) 3689348814741910323) + (l_and (l_ushr (x0 - (l_and (l_ushr x0 1) 6148914691236517205)) 2) 3689348814741910323)) + (l_ushr ((l_and (x0 - (l_and (l_ushr x0 1) 6148914691236517205)) 3689348814741910323) + (l_and (l_ushr (x0 - (l_and (l_ushr x0 1) 6148914691236517205)) 2) 3689348814741910323)) 4)) 1085102592571150095) 8)) 16)) + (l_ushr (((l_and (((l_and (x0 - (l_and (l_ushr x0 1) 6148914691236517205)) 3689348814741910323) + (l_and (l_ushr (x0 - (l_and (l_ushr x0 1) 6148914691236517205)) 2) 3689348814741910323)) + (l_ushr ((l_and (x0 - (l_and (l_ushr x0 1) 6148914691236517205)) 3689348814741910323) + (l_and (l_ushr (x0 - (l_and (l_ushr x0 1) 6148914691236517205)) 2) 3689348814741910323)) 4)) 1085102592571150095) + (l_ushr (l_and (((l_and (x0 - (l_and (l_ushr x0 1) 6148914691236517205)) 3689348814741910323) + (l_and (l_ushr (x0 - (l_and (l_ushr x0 1) 6148914691236517205)) 2) 3689348814741910323)) + (l_ushr ((l_and (x0 - (l_and (l_ushr x0 1) 6148914691236517205)) 3689348814741910323) + (l_and (l_ushr (x0 - (l_and (l_ushr x0 1) 6148914691236517205)) 2) 3689348814741910323)) 4)) 1085102592571150095) 8)) + (l_ushr ((l_and (((l_and (x0 - (l_and (l_ushr x0 1) 6148914691236517205)) 3689348814741910323) + (l_and (l_ushr (x0 - (l_and (l_ushr x0 1) 6148914691236517205)) 2) 3689348814741910323)) + (l_ushr ((l_and (x0 - (l_and (l_ushr x0 1) 6148914691236517205)) 3689348814741910323) + (l_and (l_ushr (x0 - (l_and (l_ushr x0 1) 6148914691236517205)) 2) 3689348814741910323)) 4)) 1085102592571150095) + (l_ushr (l_and (((l_and (x0 - (l_and (l_ushr x0 1) 6148914691236517205)) 3689348814741910323) + (l_and (l_ushr (x0 - (l_and (l_ushr x0 1) 6148914691236517205)) 2) 3689348814741910323)) + (l_ushr ((l_and (x0 - (l_and (l_ushr x0 1) 6148914691236517205)) 3689348814741910323) + (l_and (l_ushr (x0 - (l_and (l_ushr x0 1) 6148914691236517205)) 2) 3689348814741910323)) 4)) 1085102592571150095) 8)) 16)) 32)) 127, σ) :=
  blkE (cs := pgA_119) rfl [] 50 _ _ _ _
/-- OneAtATime.isWholeLoop(LOneAtATime$BitList;)Z -/
theorem ce_120 (d : Nat) (σ : HP) (x0 x1 : Int) : clR PG0 MX (d + 1) 120 [vR x0, vR x1] σ = rsP PG0 MX d 120 0 [vR x0, vR x1] [] σ := rfl
set_option maxRecDepth 100000 in
theorem sg_120_0 (d : Nat) (σ : HP) (x0 x1 : Int) : rsP PG0 MX d 120 0 [vR x0, vR x1] [] σ =
    cnd (32 ≤ x1 ∧ x1 < σ (-1) 0 ∧ σ x1 (-1) = 0) (cnd (wr (σ x1 4) ≠ 0)
      (some (0, σ))
      (cnd (32 ≤ x1 ∧ x1 < σ (-1) 0 ∧ σ x1 (-1) = 0) (cnd (32 ≤ x1 ∧ x1 < σ (-1) 0 ∧ σ x1 (-1) = 0) (cnd (wr (σ x1 5) ≠ wr (σ x1 3))
        (some (0, σ))
        (cnd (0 < x1 ∧ x1 < σ (-1) 0 ∧ σ x1 (-1) = 0) (bnd (clR PG0 MX d 43 [vR x1] σ) (fun q1 => 
        cnd (wr q1.1 = 0)
            (some (0, q1.2))
            (cnd (32 ≤ x0 ∧ x0 < q1.2 (-1) 0 ∧ q1.2 x0 (-1) = 8) (cnd (0 < (q1.2 x0 5) ∧ (q1.2 x0 5) < q1.2 (-1) 0 ∧ q1.2 (q1.2 x0 5) (-1) = 7) (bnd (clR PG0 MX d 54 [vR (q1.2 x0 5), vR x1] q1.2) (fun q2 => 
            cnd (wr q2.1 = 0)
                (some (0, q2.2))
                (some (1, q2.2)))) none) none))) none)) none) none)) none :=
  blkE (cs := pgA_120) rfl [] 20 _ _ _ _
/-- OneAtATime$Maker.extended(LOneAtATime$BitList;JLOneAtATime$BitList;)V -/
theorem ce_121 (d : Nat) (σ : HP) (x0 x1 x3 : Int) : clR PG0 MX (d + 1) 121 [vR x0, vL x1, vR x3] σ = rsP PG0 MX d 121 0 [vR x0, vL x1, vU, vR x3, vU, vU, vU, vU, vU, vU] [] σ := rfl
set_option maxRecDepth 100000 in
theorem sg_121_0 (d : Nat) (σ : HP) (x0 x1 x3 : Int) : rsP PG0 MX d 121 0 [vR x0, vL x1, vU, vR x3, vU, vU, vU, vU, vU, vU] [] σ =
    cnd (32 ≤ x0 ∧ x0 < σ (-1) 0 ∧ σ x0 (-1) = 0) (cnd (32 ≤ x0 ∧ x0 < σ (-1) 0 ∧ σ x0 (-1) = 0) (cnd (32 ≤ x0 ∧ x0 < σ (-1) 0 ∧ σ x0 (-1) = 0) (cnd (32 ≤ x0 ∧ x0 < σ (-1) 0 ∧ σ x0 (-1) = 0) (cnd (32 ≤ x0 ∧ x0 < σ (-1) 0 ∧ σ x0 (-1) = 0) (cnd (0 < (σ x0 1) ∧ (σ x0 1) < σ (-1) 0 ∧ σ (σ x0 1) (-1) = 20 ∧ 0 ≤ wr 0 ∧ wr 0 < σ (σ x0 1) (-2)) (cnd (0 < x3 ∧ x3 < σ (-1) 0 ∧ σ x3 (-1) = 0) (bnd (clR PG0 MX d 28 [vR x3, vI ((σ x0 3) + 2), vI 0, vI ((σ x0 3) + 2), vI (σ (σ x0 1) (wr 0))] σ) (fun q1 => 
    rsP PG0 MX d 121 43 [vR x0, vL x1, vU, vR x3, vI (σ x0 3), vI ((σ x0 3) + 1), vI 0, vI 0, vU, vU] [] q1.2)) none) none) none) none) none) none) none :=
  blkE (cs := pgA_121) rfl [43, 68, 84, 115, 141] 29 _ _ _ _
set_option maxRecDepth 100000 in
theorem sg_121_43 (d : Nat) (σ : HP) (x0 x1 x3 x4 x5 x6 x7 : Int) (u2 u8 u9 : MV) : rsP PG0 MX d 121 43 [vR x0, vL x1, u2, vR x3, vI x4, vI x5, vI x6, vI x7, u8, u9] [] σ =
    cnd (32 ≤ x0 ∧ x0 < σ (-1) 0 ∧ σ x0 (-1) = 0) (cnd (wr (σ x0 6) ≤ wr x7)
      (cnd (32 ≤ x0 ∧ x0 < σ (-1) 0 ∧ σ x0 (-1) = 0) (cnd (0 < x3 ∧ x3 < σ (-1) 0 ∧ σ x3 (-1) = 0) (bnd (clR PG0 MX d 31 [vR x3, vI (σ x0 3)] σ) (fun q1 => 
      cnd (32 ≤ x0 ∧ x0 < q1.2 (-1) 0 ∧ q1.2 x0 (-1) = 0) (cnd (0 < x3 ∧ x3 < q1.2 (-1) 0 ∧ q1.2 x3 (-1) = 0) (bnd (clR PG0 MX d 123 [vR x3, vR x0, vI 0, vI ((q1.2 x0 6) - 1)] q1.2) (fun q2 => 
        cnd (32 ≤ x0 ∧ x0 < q2.2 (-1) 0 ∧ q2.2 x0 (-1) = 0) (cnd (0 < x3 ∧ x3 < q2.2 (-1) 0 ∧ q2.2 x3 (-1) = 0) (bnd (clR PG0 MX d 31 [vR x3, vI ((q2.2 x0 3) + 1)] q2.2) (fun q3 => 
          some (0, q3.2))) none) none)) none) none)) none) none)
      (cnd (32 ≤ x0 ∧ x0 < σ (-1) 0 ∧ σ x0 (-1) = 0) (cnd (wr x7 ≠ wr ((σ x0 6) - 1))
        (rsP PG0 MX d 121 68 [vR x0, vL x1, vU, vR x3, vI x4, vI x5, vI x6, vI x7, vU, vU] [vI 0] σ)
        (rsP PG0 MX d 121 68 [vR x0, vL x1, vU, vR x3, vI x4, vI x5, vI x6, vI x7, vU, vU] [vI 1] σ)) none)) none :=
  blkE (cs := pgA_121) rfl [43, 68, 84, 115, 141] 24 _ _ _ _
set_option maxRecDepth 100000 in
theorem sg_121_68 (d : Nat) (σ : HP) (x0 x1 x3 x4 x5 x6 x7 y0 : Int) (u2 u8 u9 : MV) : rsP PG0 MX d 121 68 [vR x0, vL x1, u2, vR x3, vI x4, vI x5, vI x6, vI x7, u8, u9] [vI y0] σ =
    cnd (wr y0 ≠ 0)
      (rsP PG0 MX d 121 84 [vR x0, vL x1, vU, vR x3, vI x4, vI x5, vI x6, vI x7, vI y0, vU] [] σ)
      (bnd (clR PG0 MX d 122 [vL x1, vI x7] σ) (fun q1 => 
      cnd (wr q1.1 = 0)
          (rsP PG0 MX d 121 43 [vR x0, vL x1, vU, vR x3, vI x4, vI x5, vI x6, vI (x7 + 1), vU, vU] [] q1.2)
          (rsP PG0 MX d 121 84 [vR x0, vL x1, vU, vR x3, vI x4, vI x5, vI x6, vI x7, vI y0, vU] [] q1.2))) :=
  blkE (cs := pgA_121) rfl [43, 68, 84, 115, 141] 11 _ _ _ _
set_option maxRecDepth 100000 in
theorem sg_121_84 (d : Nat) (σ : HP) (x0 x1 x3 x4 x5 x6 x7 x8 : Int) (u2 u9 : MV) : rsP PG0 MX d 121 84 [vR x0, vL x1, u2, vR x3, vI x4, vI x5, vI x6, vI x7, vI x8, u9] [] σ =
    cnd (0 < x3 ∧ x3 < σ (-1) 0 ∧ σ x3 (-1) = 0) (bnd (clR PG0 MX d 107 [vR x3, vR x0, vI x6, vI x7, vI 0] σ) (fun q1 => 
    cnd (0 < x3 ∧ x3 < q1.2 (-1) 0 ∧ q1.2 x3 (-1) = 0) (bnd (clR PG0 MX d 31 [vR x3, vI x4] q1.2) (fun q2 => 
      cnd (0 < x3 ∧ x3 < q2.2 (-1) 0 ∧ q2.2 x3 (-1) = 0) (bnd (clR PG0 MX d 123 [vR x3, vR x0, vI x6, vI x7] q2.2) (fun q3 => 
        cnd (0 < x3 ∧ x3 < q3.2 (-1) 0 ∧ q3.2 x3 (-1) = 0) (bnd (clR PG0 MX d 31 [vR x3, vI x5] q3.2) (fun q4 => 
          rsP PG0 MX d 121 115 [vR x0, vL x1, vU, vR x3, vI x4, vI x5, vI x6, vI x7, vI x8, vU] [] q4.2)) none)) none)) none)) none :=
  blkE (cs := pgA_121) rfl [43, 68, 84, 115, 141] 19 _ _ _ _
set_option maxRecDepth 100000 in
theorem sg_121_115 (d : Nat) (σ : HP) (x0 x1 x3 x4 x5 x6 x7 x8 : Int) (u2 u9 : MV) : rsP PG0 MX d 121 115 [vR x0, vL x1, u2, vR x3, vI x4, vI x5, vI x6, vI x7, vI x8, u9] [] σ =
    cnd (0 < x3 ∧ x3 < σ (-1) 0 ∧ σ x3 (-1) = 0) (bnd (clR PG0 MX d 107 [vR x3, vR x0, vI x6, vI x7, vI 0] σ) (fun q1 => 
    cnd (wr x8 ≠ 0)
        (rsP PG0 MX d 121 141 [vR x0, vL x1, u2, vR x3, vI x4, vI x5, vI x6, vI x7, vI x8, u9] [] q1.2)
        (cnd (32 ≤ x0 ∧ x0 < q1.2 (-1) 0 ∧ q1.2 x0 (-1) = 0) (cnd (0 < (q1.2 x0 0) ∧ (q1.2 x0 0) < q1.2 (-1) 0 ∧ q1.2 (q1.2 x0 0) (-1) = 20 ∧ 0 ≤ wr x7 ∧ wr x7 < q1.2 (q1.2 x0 0) (-2)) (cnd (0 < x3 ∧ x3 < q1.2 (-1) 0 ∧ q1.2 x3 (-1) = 0) (bnd (clR PG0 MX d 31 [vR x3, vI (q1.2 (q1.2 x0 0) (wr x7))] q1.2) (fun q2 => 
        rsP PG0 MX d 121 141 [vR x0, vL x1, u2, vR x3, vI x4, vI x5, vI x6, vI x7, vI x8, u9] [] q2.2)) none) none) none))) none :=
  blkE (cs := pgA_121) rfl [43, 68, 84, 115, 141] 16 _ _ _ _
set_option maxRecDepth 100000 in
theorem sg_121_141 (d : Nat) (σ : HP) (x0 x1 x3 x4 x5 x7 : Int) (u2 u6 u8 u9 : MV) : rsP PG0 MX d 121 141 [vR x0, vL x1, u2, vR x3, vI x4, vI x5, u6, vI x7, u8, u9] [] σ =
    rsP PG0 MX d 121 43 [vR x0, vL x1, vU, vR x3, vI x5, vI x4, vI (x7 + 1), vI (x7 + 1), vU, vU] [] σ :=
  blkE (cs := pgA_121) rfl [43, 68, 84, 115, 141] 14 _ _ _ _
/-- OneAtATime$Maker.isCut(JI)Z -/
theorem ce_122 (d : Nat) (σ : HP) (x0 x2 : Int) : clR PG0 MX (d + 1) 122 [vL x0, vI x2] σ = rsP PG0 MX d 122 0 [vL x0, vU, vI x2] [] σ := rfl
set_option maxRecDepth 100000 in
theorem sg_122_0 (d : Nat) (σ : HP) (x0 x2 : Int) : rsP PG0 MX d 122 0 [vL x0, vU, vI x2] [] σ =
    cnd (wr 64 ≤ wr x2)
      (some (0, σ))
      (cnd (wr (l_cmp (l_and (l_ushr x0 x2) 1) 1) ≠ 0)
        (some (0, σ))
        (some (1, σ))) :=
  blkE (cs := pgA_122) rfl [] 15 _ _ _ _
/-- OneAtATime$BitList.pushBack(LOneAtATime$BitList;II)V -/
theorem ce_123 (d : Nat) (σ : HP) (x0 x1 x2 x3 : Int) : clR PG0 MX (d + 1) 123 [vR x0, vR x1, vI x2, vI x3] σ = rsP PG0 MX d 123 0 [vR x0, vR x1, vI x2, vI x3, vU] [] σ := rfl
set_option maxRecDepth 100000 in
theorem sg_123_0 (d : Nat) (σ : HP) (x0 x1 x2 x3 : Int) : rsP PG0 MX d 123 0 [vR x0, vR x1, vI x2, vI x3, vU] [] σ =
    cnd (32 ≤ x1 ∧ x1 < σ (-1) 0 ∧ σ x1 (-1) = 0) (bnd (clR PG0 MX d 1005 [vI x3, vI (σ x1 6)] σ) (fun q1 => 
    rsP PG0 MX d 123 12 [vR x0, vR x1, vI x2, vI x3, vI (q1.1 - 1)] [] q1.2)) none :=
  blkE (cs := pgA_123) rfl [12] 9 _ _ _ _
set_option maxRecDepth 100000 in
theorem sg_123_12 (d : Nat) (σ : HP) (x0 x1 x2 x4 : Int) (u3 : MV) : rsP PG0 MX d 123 12 [vR x0, vR x1, vI x2, u3, vI x4] [] σ =
    cnd (wr x4 < wr x2)
      (some (0, σ))
      (cnd (wr x4 < 0)
        (some (0, σ))
        (cnd (32 ≤ x1 ∧ x1 < σ (-1) 0 ∧ σ x1 (-1) = 0) (cnd (0 < (σ x1 0) ∧ (σ x1 0) < σ (-1) 0 ∧ σ (σ x1 0) (-1) = 20 ∧ 0 ≤ wr x4 ∧ wr x4 < σ (σ x1 0) (-2)) (cnd (0 < x0 ∧ x0 < σ (-1) 0 ∧ σ x0 (-1) = 0) (bnd (clR PG0 MX d 31 [vR x0, vI (σ (σ x1 0) (wr x4))] σ) (fun q1 => 
        rsP PG0 MX d 123 12 [vR x0, vR x1, vI x2, vU, vI (x4 + (-1))] [] q1.2)) none) none) none)) :=
  blkE (cs := pgA_123) rfl [12] 15 _ _ _ _
/-- OneAtATime.open(I)I -/
theorem ce_124 (d : Nat) (σ : HP) (x0 x1 : Int) : clR PG0 MX (d + 1) 124 [vR x0, vI x1] σ = rsP PG0 MX d 124 0 [vR x0, vI x1, vU] [] σ := rfl
set_option maxRecDepth 100000 in
theorem sg_124_0 (d : Nat) (σ : HP) (x0 x1 : Int) : rsP PG0 MX d 124 0 [vR x0, vI x1, vU] [] σ =
    cnd (0 < x0 ∧ x0 < σ (-1) 0 ∧ σ x0 (-1) = 8) (bnd (clR PG0 MX d 41 [vR x0, vI x1] σ) (fun q1 => 
    cnd (0 < q1.1)
        (cnd (32 ≤ x0 ∧ x0 < q1.2 (-1) 0 ∧ q1.2 x0 (-1) = 8) (cnd (0 < (q1.2 x0 5) ∧ (q1.2 x0 5) < q1.2 (-1) 0 ∧ q1.2 (q1.2 x0 5) (-1) = 7) (bnd (clR PG0 MX d 125 [vR (q1.2 x0 5), vR q1.1] q1.2) (fun q2 => 
        some (q2.1, q2.2))) none) none)
        (some ((-2), q1.2)))) none :=
  blkE (cs := pgA_124) rfl [] 12 _ _ _ _
/-- OneAtATime$Survey.openBits(LOneAtATime$BitList;)I -/
theorem ce_125 (d : Nat) (σ : HP) (x0 x1 : Int) : clR PG0 MX (d + 1) 125 [vR x0, vR x1] σ = rsP PG0 MX d 125 0 [vR x0, vR x1, vU, vU, vU] [] σ := rfl
set_option maxRecDepth 100000 in
theorem sg_125_0 (d : Nat) (σ : HP) (x0 x1 : Int) : rsP PG0 MX d 125 0 [vR x0, vR x1, vU, vU, vU] [] σ =
    cnd (0 < x0 ∧ x0 < σ (-1) 0 ∧ σ x0 (-1) = 7) (bnd (clR PG0 MX d 45 [vR x0, vR x1] σ) (fun q1 => 
    rsP PG0 MX d 125 9 [vR x0, vR x1, vI 0, vI 0, vU] [] q1.2)) none :=
  blkE (cs := pgA_125) rfl [9] 9 _ _ _ _
set_option maxRecDepth 100000 in
theorem sg_125_9 (d : Nat) (σ : HP) (x0 x1 x2 x3 : Int) (u4 : MV) : rsP PG0 MX d 125 9 [vR x0, vR x1, vI x2, vI x3, u4] [] σ =
    cnd (32 ≤ x1 ∧ x1 < σ (-1) 0 ∧ σ x1 (-1) = 0) (cnd (wr (σ x1 3) ≤ wr x3)
      (some (x2, σ))
      (cnd (0 < x1 ∧ x1 < σ (-1) 0 ∧ σ x1 (-1) = 0) (bnd (clR PG0 MX d 112 [vR x1] σ) (fun q1 => 
      cnd (32 ≤ x0 ∧ x0 < q1.2 (-1) 0 ∧ q1.2 x0 (-1) = 7) (cnd (0 < (q1.2 x0 0) ∧ (q1.2 x0 0) < q1.2 (-1) 0 ∧ q1.2 (q1.2 x0 0) (-1) = 20 ∧ 0 ≤ wr (i_xor q1.1 (i_shl 1 x3)) ∧ wr (i_xor q1.1 (i_shl 1 x3)) < q1.2 (q1.2 x0 0) (-2)) (cnd (wr (q1.2 (q1.2 x0 0) (wr (i_xor q1.1 (i_shl 1 x3)))) ≠ 0)
          (rsP PG0 MX d 125 9 [vR x0, vR x1, vI x2, vI (x3 + 1), vU] [] q1.2)
          (cnd (0 < x1 ∧ x1 < q1.2 (-1) 0 ∧ q1.2 x1 (-1) = 0) (bnd (clR PG0 MX d 49 [vR x1, vI (i_xor q1.1 (i_shl 1 x3))] q1.2) (fun q2 => 
          cnd (wr q2.1 = 0)
              (rsP PG0 MX d 125 9 [vR x0, vR x1, vI x2, vI (x3 + 1), vU] [] q2.2)
              (rsP PG0 MX d 125 9 [vR x0, vR x1, vI (i_or x2 (i_shl 1 x3)), vI (x3 + 1), vU] [] q2.2))) none)) none) none)) none)) none :=
  blkE (cs := pgA_125) rfl [9] 30 _ _ _ _
/-- OneAtATime.way(III)I -/
theorem ce_126 (d : Nat) (σ : HP) (x0 x1 x2 x3 : Int) : clR PG0 MX (d + 1) 126 [vR x0, vI x1, vI x2, vI x3] σ = rsP PG0 MX d 126 0 [vR x0, vI x1, vI x2, vI x3, vU] [] σ := rfl
set_option maxRecDepth 100000 in
theorem sg_126_0 (d : Nat) (σ : HP) (x0 x1 x2 x3 : Int) : rsP PG0 MX d 126 0 [vR x0, vI x1, vI x2, vI x3, vU] [] σ =
    cnd (0 < x0 ∧ x0 < σ (-1) 0 ∧ σ x0 (-1) = 8) (bnd (clR PG0 MX d 41 [vR x0, vI x1] σ) (fun q1 => 
    cnd (q1.1 ≤ 0)
        (some ((-2), q1.2))
        (cnd (0 < q1.1 ∧ q1.1 < q1.2 (-1) 0 ∧ q1.2 q1.1 (-1) = 0) (bnd (clR PG0 MX d 68 [vR q1.1, vI x2] q1.2) (fun q2 => 
        cnd (wr q2.1 = 0)
            (some ((-2), q2.2))
            (cnd (0 < q1.1 ∧ q1.1 < q2.2 (-1) 0 ∧ q2.2 q1.1 (-1) = 0) (bnd (clR PG0 MX d 68 [vR q1.1, vI x3] q2.2) (fun q3 => 
            cnd (wr q3.1 ≠ 0)
                (cnd (32 ≤ x0 ∧ x0 < q3.2 (-1) 0 ∧ q3.2 x0 (-1) = 8) (cnd (0 < (q3.2 x0 5) ∧ (q3.2 x0 5) < q3.2 (-1) 0 ∧ q3.2 (q3.2 x0 5) (-1) = 7) (bnd (clR PG0 MX d 127 [vR (q3.2 x0 5), vR q1.1, vI x2, vI x3] q3.2) (fun q4 => 
                some (q4.1, q4.2))) none) none)
                (some ((-2), q3.2)))) none))) none))) none :=
  blkE (cs := pgA_126) rfl [] 22 _ _ _ _
/-- OneAtATime$Survey.shortestWay(LOneAtATime$BitList;II)I -/
theorem ce_127 (d : Nat) (σ : HP) (x0 x1 x2 x3 : Int) : clR PG0 MX (d + 1) 127 [vR x0, vR x1, vI x2, vI x3] σ = rsP PG0 MX d 127 0 [vR x0, vR x1, vI x2, vI x3, vU, vU, vU, vU, vU, vU] [] σ := rfl
set_option maxRecDepth 100000 in
theorem sg_127_0 (d : Nat) (σ : HP) (x0 x1 x2 x3 : Int) : rsP PG0 MX d 127 0 [vR x0, vR x1, vI x2, vI x3, vU, vU, vU, vU, vU, vU] [] σ =
    cnd (0 < x0 ∧ x0 < σ (-1) 0 ∧ σ x0 (-1) = 7) (bnd (clR PG0 MX d 45 [vR x0, vR x1] σ) (fun q1 => 
    cnd (32 ≤ x0 ∧ x0 < q1.2 (-1) 0 ∧ q1.2 x0 (-1) = 7) (bnd (clR PG0 MX d 46 [vR (q1.2 x0 2), vI ((-1))] q1.2) (fun q2 => 
      cnd (32 ≤ x0 ∧ x0 < q2.2 (-1) 0 ∧ q2.2 x0 (-1) = 7) (cnd (32 ≤ (q2.2 x0 2) ∧ (q2.2 x0 2) < q2.2 (-1) 0 ∧ q2.2 (q2.2 x0 2) (-1) = 20 ∧ 0 ≤ wr x2 ∧ wr x2 < q2.2 (q2.2 x0 2) (-2)) (cnd (32 ≤ x0 ∧ x0 < (up q2.2 (q2.2 x0 2) (wr x2) 0) (-1) 0 ∧ (up q2.2 (q2.2 x0 2) (wr x2) 0) x0 (-1) = 7) (cnd (32 ≤ ((up q2.2 (q2.2 x0 2) (wr x2) 0) x0 3) ∧ ((up q2.2 (q2.2 x0 2) (wr x2) 0) x0 3) < (up q2.2 (q2.2 x0 2) (wr x2) 0) (-1) 0 ∧ (up q2.2 (q2.2 x0 2) (wr x2) 0) ((up q2.2 (q2.2 x0 2) (wr x2) 0) x0 3) (-1) = 20 ∧ 0 ≤ wr 0 ∧ wr 0 < (up q2.2 (q2.2 x0 2) (wr x2) 0) ((up q2.2 (q2.2 x0 2) (wr x2) 0) x0 3) (-2)) (rsP PG0 MX d 127 33 [vR x0, vR x1, vI x2, vI x3, vI 1, vI 0, vU, vU, vU, vU] [] (up (up q2.2 (q2.2 x0 2) (wr x2) 0) ((up q2.2 (q2.2 x0 2) (wr x2) 0) x0 3) (wr 0) x2)) none) none) none) none)) none)) none :=
  blkE (cs := pgA_127) rfl [33, 62, 105, 109, 110, 161] 23 _ _ _ _
set_option maxRecDepth 100000 in
theorem sg_127_33 (d : Nat) (σ : HP) (x0 x1 x3 x4 x5 : Int) (u2 u6 u7 u8 u9 : MV) : rsP PG0 MX d 127 33 [vR x0, vR x1, u2, vI x3, vI x4, vI x5, u6, u7, u8, u9] [] σ =
    cnd (wr x4 ≤ wr x5)
      (cnd (32 ≤ x0 ∧ x0 < σ (-1) 0 ∧ σ x0 (-1) = 7) (cnd (0 < (σ x0 2) ∧ (σ x0 2) < σ (-1) 0 ∧ σ (σ x0 2) (-1) = 20 ∧ 0 ≤ wr x3 ∧ wr x3 < σ (σ x0 2) (-2)) (some (σ (σ x0 2) (wr x3), σ)) none) none)
      (cnd (32 ≤ x0 ∧ x0 < σ (-1) 0 ∧ σ x0 (-1) = 7) (cnd (0 < (σ x0 2) ∧ (σ x0 2) < σ (-1) 0 ∧ σ (σ x0 2) (-1) = 20 ∧ 0 ≤ wr x3 ∧ wr x3 < σ (σ x0 2) (-2)) (cnd (wr (σ (σ x0 2) (wr x3)) ≠ wr ((-1)))
        (cnd (32 ≤ x0 ∧ x0 < σ (-1) 0 ∧ σ x0 (-1) = 7) (cnd (0 < (σ x0 2) ∧ (σ x0 2) < σ (-1) 0 ∧ σ (σ x0 2) (-1) = 20 ∧ 0 ≤ wr x3 ∧ wr x3 < σ (σ x0 2) (-2)) (some (σ (σ x0 2) (wr x3), σ)) none) none)
        (cnd (32 ≤ x0 ∧ x0 < σ (-1) 0 ∧ σ x0 (-1) = 7) (cnd (0 < (σ x0 3) ∧ (σ x0 3) < σ (-1) 0 ∧ σ (σ x0 3) (-1) = 20 ∧ 0 ≤ wr x5 ∧ wr x5 < σ (σ x0 3) (-2)) (rsP PG0 MX d 127 62 [vR x0, vR x1, vU, vI x3, vI x4, vI x5, vI (σ (σ x0 3) (wr x5)), vI 0, vU, vU] [] σ) none) none)) none) none) :=
  blkE (cs := pgA_127) rfl [33, 62, 105, 109, 110, 161] 18 _ _ _ _
set_option maxRecDepth 100000 in
theorem sg_127_62 (d : Nat) (σ : HP) (x0 x1 x3 x4 x5 x6 x7 : Int) (u2 u8 u9 : MV) : rsP PG0 MX d 127 62 [vR x0, vR x1, u2, vI x3, vI x4, vI x5, vI x6, vI x7, u8, u9] [] σ =
    cnd (32 ≤ x1 ∧ x1 < σ (-1) 0 ∧ σ x1 (-1) = 0) (cnd (wr (σ x1 3) ≤ wr x7)
      (rsP PG0 MX d 127 33 [vR x0, vR x1, vU, vI x3, vI x4, vI (x5 + 1), vI x6, vI x7, vU, vU] [] σ)
      (cnd (wr (i_xor x6 (i_shl 1 x7)) = wr x3)
        (rsP PG0 MX d 127 105 [vR x0, vR x1, vU, vI x3, vI x4, vI x5, vI x6, vI x7, vI (i_xor x6 (i_shl 1 x7)), vU] [] σ)
        (cnd (32 ≤ x0 ∧ x0 < σ (-1) 0 ∧ σ x0 (-1) = 7) (cnd (0 < (σ x0 0) ∧ (σ x0 0) < σ (-1) 0 ∧ σ (σ x0 0) (-1) = 20 ∧ 0 ≤ wr (i_xor x6 (i_shl 1 x7)) ∧ wr (i_xor x6 (i_shl 1 x7)) < σ (σ x0 0) (-2)) (cnd (wr (σ (σ x0 0) (wr (i_xor x6 (i_shl 1 x7)))) ≠ 0)
          (rsP PG0 MX d 127 109 [vR x0, vR x1, vU, vI x3, vI x4, vI x5, vI x6, vI x7, vI (i_xor x6 (i_shl 1 x7)), vU] [] σ)
          (cnd (0 < x1 ∧ x1 < σ (-1) 0 ∧ σ x1 (-1) = 0) (bnd (clR PG0 MX d 49 [vR x1, vI (i_xor x6 (i_shl 1 x7))] σ) (fun q1 => 
          cnd (wr q1.1 = 0)
              (rsP PG0 MX d 127 109 [vR x0, vR x1, vU, vI x3, vI x4, vI x5, vI x6, vI x7, vI (i_xor x6 (i_shl 1 x7)), vU] [] q1.2)
              (rsP PG0 MX d 127 105 [vR x0, vR x1, vU, vI x3, vI x4, vI x5, vI x6, vI x7, vI (i_xor x6 (i_shl 1 x7)), vU] [] q1.2))) none)) none) none))) none :=
  blkE (cs := pgA_127) rfl [33, 62, 105, 109, 110, 161] 24 _ _ _ _
set_option maxRecDepth 100000 in
theorem sg_127_105 (d : Nat) (σ : HP) (x0 x1 x3 x4 x5 x6 x7 x8 : Int) (u2 u9 : MV) : rsP PG0 MX d 127 105 [vR x0, vR x1, u2, vI x3, vI x4, vI x5, vI x6, vI x7, vI x8, u9] [] σ =
    rsP PG0 MX d 127 110 [vR x0, vR x1, vU, vI x3, vI x4, vI x5, vI x6, vI x7, vI x8, vU] [vI 1] σ :=
  blkE (cs := pgA_127) rfl [33, 62, 105, 109, 110, 161] 4 _ _ _ _
set_option maxRecDepth 100000 in
theorem sg_127_109 (d : Nat) (σ : HP) (x0 x1 x3 x4 x5 x6 x7 x8 : Int) (u2 u9 : MV) : rsP PG0 MX d 127 109 [vR x0, vR x1, u2, vI x3, vI x4, vI x5, vI x6, vI x7, vI x8, u9] [] σ =
    rsP PG0 MX d 127 110 [vR x0, vR x1, vU, vI x3, vI x4, vI x5, vI x6, vI x7, vI x8, vU] [vI 0] σ :=
  blkE (cs := pgA_127) rfl [33, 62, 105, 109, 110, 161] 3 _ _ _ _
set_option maxRecDepth 100000 in
theorem sg_127_110 (d : Nat) (σ : HP) (x0 x1 x3 x4 x5 x6 x7 x8 y0 : Int) (u2 u9 : MV) : rsP PG0 MX d 127 110 [vR x0, vR x1, u2, vI x3, vI x4, vI x5, vI x6, vI x7, vI x8, u9] [vI y0] σ =
    cnd (32 ≤ x0 ∧ x0 < σ (-1) 0 ∧ σ x0 (-1) = 7) (cnd (0 < (σ x0 2) ∧ (σ x0 2) < σ (-1) 0 ∧ σ (σ x0 2) (-1) = 20 ∧ 0 ≤ wr x8 ∧ wr x8 < σ (σ x0 2) (-2)) (cnd (wr (σ (σ x0 2) (wr x8)) ≠ wr ((-1)))
      (rsP PG0 MX d 127 62 [vR x0, vR x1, vU, vI x3, vI x4, vI x5, vI x6, vI (x7 + 1), vU, vU] [] σ)
      (cnd (wr y0 = 0)
        (rsP PG0 MX d 127 62 [vR x0, vR x1, vU, vI x3, vI x4, vI x5, vI x6, vI (x7 + 1), vU, vU] [] σ)
        (cnd (wr 256 ≤ wr x4)
          (rsP PG0 MX d 127 62 [vR x0, vR x1, vU, vI x3, vI x4, vI x5, vI x6, vI (x7 + 1), vU, vU] [] σ)
          (cnd (32 ≤ x0 ∧ x0 < σ (-1) 0 ∧ σ x0 (-1) = 7) (cnd (32 ≤ x0 ∧ x0 < σ (-1) 0 ∧ σ x0 (-1) = 7) (cnd (0 < (σ x0 2) ∧ (σ x0 2) < σ (-1) 0 ∧ σ (σ x0 2) (-1) = 20 ∧ 0 ≤ wr x6 ∧ wr x6 < σ (σ x0 2) (-2)) (cnd (32 ≤ (σ x0 2) ∧ (σ x0 2) < σ (-1) 0 ∧ σ (σ x0 2) (-1) = 20 ∧ 0 ≤ wr x8 ∧ wr x8 < σ (σ x0 2) (-2)) (cnd (32 ≤ x0 ∧ x0 < (up σ (σ x0 2) (wr x8) ((σ (σ x0 2) (wr x6)) + 1)) (-1) 0 ∧ (up σ (σ x0 2) (wr x8) ((σ (σ x0 2) (wr x6)) + 1)) x0 (-1) = 7) (cnd (32 ≤ ((up σ (σ x0 2) (wr x8) ((σ (σ x0 2) (wr x6)) + 1)) x0 3) ∧ ((up σ (σ x0 2) (wr x8) ((σ (σ x0 2) (wr x6)) + 1)) x0 3) < (up σ (σ x0 2) (wr x8) ((σ (σ x0 2) (wr x6)) + 1)) (-1) 0 ∧ (up σ (σ x0 2) (wr x8) ((σ (σ x0 2) (wr x6)) + 1)) ((up σ (σ x0 2) (wr x8) ((σ (σ x0 2) (wr x6)) + 1)) x0 3) (-1) = 20 ∧ 0 ≤ wr x4 ∧ wr x4 < (up σ (σ x0 2) (wr x8) ((σ (σ x0 2) (wr x6)) + 1)) ((up σ (σ x0 2) (wr x8) ((σ (σ x0 2) (wr x6)) + 1)) x0 3) (-2)) (rsP PG0 MX d 127 161 [vR x0, vR x1, vU, vI x3, vI x4, vI x5, vI x6, vI x7, vI x8, vI y0] [] (up (up σ (σ x0 2) (wr x8) ((σ (σ x0 2) (wr x6)) + 1)) ((up σ (σ x0 2) (wr x8) ((σ (σ x0 2) (wr x6)) + 1)) x0 3) (wr x4) x8)) none) none) none) none) none) none)))) none) none :=
  blkE (cs := pgA_127) rfl [33, 62, 105, 109, 110, 161] 29 _ _ _ _
set_option maxRecDepth 100000 in
theorem sg_127_161 (d : Nat) (σ : HP) (x0 x1 x3 x4 x5 x6 x7 x8 x9 : Int) (u2 : MV) : rsP PG0 MX d 127 161 [vR x0, vR x1, u2, vI x3, vI x4, vI x5, vI x6, vI x7, vI x8, vI x9] [] σ =
    rsP PG0 MX d 127 62 [vR x0, vR x1, vU, vI x3, vI (x4 + 1), vI x5, vI x6, vI (x7 + 1), vU, vU] [] σ :=
  blkE (cs := pgA_127) rfl [33, 62, 105, 109, 110, 161] 5 _ _ _ _
