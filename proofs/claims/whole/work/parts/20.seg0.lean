/-- OneAtATime$BitList.<init>()V -/
theorem ce_1 (d : Nat) (σ : HP) (x0 : Int) : clR PG0 MX (d + 1) 1 [vR x0] σ = rsP PG0 MX d 1 0 [vR x0] [] σ := rfl
set_option maxRecDepth 100000 in
theorem sg_1_0 (d : Nat) (σ : HP) (x0 : Int) : rsP PG0 MX d 1 0 [vR x0] [] σ =
    cnd (0 < x0) (bnd (clR PG0 MX d 1003 [vR x0] σ) (fun q1 => 
    cnd (0 ≤ wr 256 ∧ wr 256 ≤ 100000) (cnd (32 ≤ x0 ∧ x0 < (newA q1.2 20 (wr 256)) (-1) 0 ∧ (newA q1.2 20 (wr 256)) x0 (-1) = 0) (cnd (0 ≤ wr 257 ∧ wr 257 ≤ 100000) (cnd (32 ≤ x0 ∧ x0 < (newA (up (newA q1.2 20 (wr 256)) x0 0 (q1.2 (-1) 0)) 20 (wr 257)) (-1) 0 ∧ (newA (up (newA q1.2 20 (wr 256)) x0 0 (q1.2 (-1) 0)) 20 (wr 257)) x0 (-1) = 0) (rsP PG0 MX d 1 22 [vR x0] [] (up (newA (up (newA q1.2 20 (wr 256)) x0 0 (q1.2 (-1) 0)) 20 (wr 257)) x0 1 ((up (newA q1.2 20 (wr 256)) x0 0 (q1.2 (-1) 0)) (-1) 0))) none) none) none) none)) none :=
  blkE (cs := pgA_1) rfl [22] 12 _ _ _ _
set_option maxRecDepth 100000 in
theorem sg_1_22 (d : Nat) (σ : HP) (x0 : Int) : rsP PG0 MX d 1 22 [vR x0] [] σ =
    cnd (32 ≤ x0 ∧ x0 < σ (-1) 0 ∧ σ x0 (-1) = 0) (some (0, up σ x0 2 0)) none :=
  blkE (cs := pgA_1) rfl [22] 5 _ _ _ _
/-- OneAtATime$History.<init>()V -/
theorem ce_2 (d : Nat) (σ : HP) (x0 : Int) : clR PG0 MX (d + 1) 2 [vR x0] σ = rsP PG0 MX d 2 0 [vR x0, vU] [] σ := rfl
set_option maxRecDepth 100000 in
theorem sg_2_0 (d : Nat) (σ : HP) (x0 : Int) : rsP PG0 MX d 2 0 [vR x0, vU] [] σ =
    cnd (0 < x0) (bnd (clR PG0 MX d 1003 [vR x0] σ) (fun q1 => 
    cnd (0 ≤ wr 10 ∧ wr 10 ≤ 100000) (cnd (32 ≤ x0 ∧ x0 < (newA q1.2 23 (wr 10)) (-1) 0 ∧ (newA q1.2 23 (wr 10)) x0 (-1) = 3) (rsP PG0 MX d 2 15 [vR x0, vI 0] [] (up (newA q1.2 23 (wr 10)) x0 0 (q1.2 (-1) 0))) none) none)) none :=
  blkE (cs := pgA_2) rfl [15] 10 _ _ _ _
set_option maxRecDepth 100000 in
theorem sg_2_15 (d : Nat) (σ : HP) (x0 x1 : Int) : rsP PG0 MX d 2 15 [vR x0, vI x1] [] σ =
    cnd (wr 10 ≤ wr x1)
      (cnd (0 ≤ wr 10 ∧ wr 10 ≤ 100000) (cnd (32 ≤ x0 ∧ x0 < (newA σ 20 (wr 10)) (-1) 0 ∧ (newA σ 20 (wr 10)) x0 (-1) = 3) (cnd (32 ≤ x0 ∧ x0 < (up (newA σ 20 (wr 10)) x0 1 (σ (-1) 0)) (-1) 0 ∧ (up (newA σ 20 (wr 10)) x0 1 (σ (-1) 0)) x0 (-1) = 3) (cnd (32 ≤ x0 ∧ x0 < (up (up (newA σ 20 (wr 10)) x0 1 (σ (-1) 0)) x0 2 0) (-1) 0 ∧ (up (up (newA σ 20 (wr 10)) x0 1 (σ (-1) 0)) x0 2 0) x0 (-1) = 3) (some (0, up (up (up (newA σ 20 (wr 10)) x0 1 (σ (-1) 0)) x0 2 0) x0 3 0)) none) none) none) none)
      (cnd (32 ≤ x0 ∧ x0 < σ (-1) 0 ∧ σ x0 (-1) = 3) (cnd (0 < (σ (-1) 0)) (bnd (clR PG0 MX d 1 [vR (σ (-1) 0)] (newO σ 0 7)) (fun q1 => 
      cnd (32 ≤ (σ x0 0) ∧ (σ x0 0) < q1.2 (-1) 0 ∧ q1.2 (σ x0 0) (-1) = 23 ∧ 0 ≤ wr x1 ∧ wr x1 < q1.2 (σ x0 0) (-2) ∧ 32 ≤ (σ (-1) 0) ∧ (σ (-1) 0) < q1.2 (-1) 0 ∧ q1.2 (σ (-1) 0) (-1) = 0) (rsP PG0 MX d 2 15 [vR x0, vI (x1 + 1)] [] (up q1.2 (σ x0 0) (wr x1) (σ (-1) 0))) none)) none) none) :=
  blkE (cs := pgA_2) rfl [15] 15 _ _ _ _
/-- OneAtATime$Reader.<init>()V -/
theorem ce_3 (d : Nat) (σ : HP) (x0 : Int) : clR PG0 MX (d + 1) 3 [vR x0] σ = rsP PG0 MX d 3 0 [vR x0] [] σ := rfl
set_option maxRecDepth 100000 in
theorem sg_3_0 (d : Nat) (σ : HP) (x0 : Int) : rsP PG0 MX d 3 0 [vR x0] [] σ =
    cnd (0 < x0) (bnd (clR PG0 MX d 1003 [vR x0] σ) (fun q1 => 
    cnd (0 < (q1.2 (-1) 0)) (bnd (clR PG0 MX d 4 [vR (q1.2 (-1) 0), vI 400] (newO q1.2 1 2)) (fun q2 => 
      cnd (32 ≤ x0 ∧ x0 < q2.2 (-1) 0 ∧ q2.2 x0 (-1) = 5) (cnd (32 ≤ x0 ∧ x0 < (up q2.2 x0 0 (q1.2 (-1) 0)) (-1) 0 ∧ (up q2.2 x0 0 (q1.2 (-1) 0)) x0 (-1) = 5) (cnd (32 ≤ x0 ∧ x0 < (up (up q2.2 x0 0 (q1.2 (-1) 0)) x0 4 0) (-1) 0 ∧ (up (up q2.2 x0 0 (q1.2 (-1) 0)) x0 4 0) x0 (-1) = 5) (some (0, up (up (up q2.2 x0 0 (q1.2 (-1) 0)) x0 4 0) x0 5 ((-1)))) none) none) none)) none)) none :=
  blkE (cs := pgA_3) rfl [] 16 _ _ _ _
/-- OneAtATime$Bytes.<init>(I)V -/
theorem ce_4 (d : Nat) (σ : HP) (x0 x1 : Int) : clR PG0 MX (d + 1) 4 [vR x0, vI x1] σ = rsP PG0 MX d 4 0 [vR x0, vI x1] [] σ := rfl
set_option maxRecDepth 100000 in
theorem sg_4_0 (d : Nat) (σ : HP) (x0 x1 : Int) : rsP PG0 MX d 4 0 [vR x0, vI x1] [] σ =
    cnd (0 < x0) (bnd (clR PG0 MX d 1003 [vR x0] σ) (fun q1 => 
    bnd (clR PG0 MX d 1004 [vI x1, vI 0] q1.2) (fun q2 => 
      cnd (0 ≤ wr q2.1 ∧ wr q2.1 ≤ 100000) (cnd (32 ≤ x0 ∧ x0 < (newA q2.2 21 (wr q2.1)) (-1) 0 ∧ (newA q2.2 21 (wr q2.1)) x0 (-1) = 1) (cnd (32 ≤ x0 ∧ x0 < (up (newA q2.2 21 (wr q2.1)) x0 0 (q2.2 (-1) 0)) (-1) 0 ∧ (up (newA q2.2 21 (wr q2.1)) x0 0 (q2.2 (-1) 0)) x0 (-1) = 1) (some (0, up (up (newA q2.2 21 (wr q2.1)) x0 0 (q2.2 (-1) 0)) x0 1 0)) none) none) none))) none :=
  blkE (cs := pgA_4) rfl [] 13 _ _ _ _
/-- OneAtATime$Survey.<init>()V -/
theorem ce_6 (d : Nat) (σ : HP) (x0 : Int) : clR PG0 MX (d + 1) 6 [vR x0] σ = rsP PG0 MX d 6 0 [vR x0] [] σ := rfl
set_option maxRecDepth 100000 in
theorem sg_6_0 (d : Nat) (σ : HP) (x0 : Int) : rsP PG0 MX d 6 0 [vR x0] [] σ =
    cnd (0 < x0) (bnd (clR PG0 MX d 1003 [vR x0] σ) (fun q1 => 
    cnd (0 ≤ wr 256 ∧ wr 256 ≤ 100000) (cnd (32 ≤ x0 ∧ x0 < (newA q1.2 20 (wr 256)) (-1) 0 ∧ (newA q1.2 20 (wr 256)) x0 (-1) = 7) (cnd (0 ≤ wr 256 ∧ wr 256 ≤ 100000) (cnd (32 ≤ x0 ∧ x0 < (newA (up (newA q1.2 20 (wr 256)) x0 0 (q1.2 (-1) 0)) 20 (wr 256)) (-1) 0 ∧ (newA (up (newA q1.2 20 (wr 256)) x0 0 (q1.2 (-1) 0)) 20 (wr 256)) x0 (-1) = 7) (rsP PG0 MX d 6 22 [vR x0] [] (up (newA (up (newA q1.2 20 (wr 256)) x0 0 (q1.2 (-1) 0)) 20 (wr 256)) x0 1 ((up (newA q1.2 20 (wr 256)) x0 0 (q1.2 (-1) 0)) (-1) 0))) none) none) none) none)) none :=
  blkE (cs := pgA_6) rfl [22, 40] 12 _ _ _ _
set_option maxRecDepth 100000 in
theorem sg_6_22 (d : Nat) (σ : HP) (x0 : Int) : rsP PG0 MX d 6 22 [vR x0] [] σ =
    cnd (0 ≤ wr 256 ∧ wr 256 ≤ 100000) (cnd (32 ≤ x0 ∧ x0 < (newA σ 20 (wr 256)) (-1) 0 ∧ (newA σ 20 (wr 256)) x0 (-1) = 7) (cnd (0 ≤ wr 256 ∧ wr 256 ≤ 100000) (cnd (32 ≤ x0 ∧ x0 < (newA (up (newA σ 20 (wr 256)) x0 2 (σ (-1) 0)) 20 (wr 256)) (-1) 0 ∧ (newA (up (newA σ 20 (wr 256)) x0 2 (σ (-1) 0)) 20 (wr 256)) x0 (-1) = 7) (rsP PG0 MX d 6 40 [vR x0] [] (up (newA (up (newA σ 20 (wr 256)) x0 2 (σ (-1) 0)) 20 (wr 256)) x0 3 ((up (newA σ 20 (wr 256)) x0 2 (σ (-1) 0)) (-1) 0))) none) none) none) none :=
  blkE (cs := pgA_6) rfl [22, 40] 10 _ _ _ _
set_option maxRecDepth 100000 in
theorem sg_6_40 (d : Nat) (σ : HP) (x0 : Int) : rsP PG0 MX d 6 40 [vR x0] [] σ =
    cnd (0 ≤ wr 9 ∧ wr 9 ≤ 100000) (cnd (32 ≤ x0 ∧ x0 < (newA σ 20 (wr 9)) (-1) 0 ∧ (newA σ 20 (wr 9)) x0 (-1) = 7) (some (0, up (newA σ 20 (wr 9)) x0 4 (σ (-1) 0))) none) none :=
  blkE (cs := pgA_6) rfl [22, 40] 6 _ _ _ _
/-- OneAtATime$Search.<init>()V -/
theorem ce_7 (d : Nat) (σ : HP) (x0 : Int) : clR PG0 MX (d + 1) 7 [vR x0] σ = rsP PG0 MX d 7 0 [vR x0] [] σ := rfl
set_option maxRecDepth 100000 in
theorem sg_7_0 (d : Nat) (σ : HP) (x0 : Int) : rsP PG0 MX d 7 0 [vR x0] [] σ =
    cnd (0 < x0) (bnd (clR PG0 MX d 1003 [vR x0] σ) (fun q1 => 
    cnd (0 ≤ wr 256 ∧ wr 256 ≤ 100000) (cnd (32 ≤ x0 ∧ x0 < (newA q1.2 20 (wr 256)) (-1) 0 ∧ (newA q1.2 20 (wr 256)) x0 (-1) = 6) (cnd (0 ≤ wr 257 ∧ wr 257 ≤ 100000) (cnd (32 ≤ x0 ∧ x0 < (newA (up (newA q1.2 20 (wr 256)) x0 0 (q1.2 (-1) 0)) 20 (wr 257)) (-1) 0 ∧ (newA (up (newA q1.2 20 (wr 256)) x0 0 (q1.2 (-1) 0)) 20 (wr 257)) x0 (-1) = 6) (rsP PG0 MX d 7 22 [vR x0] [] (up (newA (up (newA q1.2 20 (wr 256)) x0 0 (q1.2 (-1) 0)) 20 (wr 257)) x0 1 ((up (newA q1.2 20 (wr 256)) x0 0 (q1.2 (-1) 0)) (-1) 0))) none) none) none) none)) none :=
  blkE (cs := pgA_7) rfl [22] 12 _ _ _ _
set_option maxRecDepth 100000 in
theorem sg_7_22 (d : Nat) (σ : HP) (x0 : Int) : rsP PG0 MX d 7 22 [vR x0] [] σ =
    cnd (0 ≤ wr 257 ∧ wr 257 ≤ 100000) (cnd (32 ≤ x0 ∧ x0 < (newA σ 20 (wr 257)) (-1) 0 ∧ (newA σ 20 (wr 257)) x0 (-1) = 6) (some (0, up (newA σ 20 (wr 257)) x0 2 (σ (-1) 0))) none) none :=
  blkE (cs := pgA_7) rfl [22] 6 _ _ _ _
/-- OneAtATime$Likeness.<init>()V -/
theorem ce_8 (d : Nat) (σ : HP) (x0 : Int) : clR PG0 MX (d + 1) 8 [vR x0] σ = rsP PG0 MX d 8 0 [vR x0] [] σ := rfl
set_option maxRecDepth 100000 in
theorem sg_8_0 (d : Nat) (σ : HP) (x0 : Int) : rsP PG0 MX d 8 0 [vR x0] [] σ =
    cnd (0 < x0) (bnd (clR PG0 MX d 1003 [vR x0] σ) (fun q1 => 
    cnd (0 ≤ wr 8 ∧ wr 8 ≤ 100000) (cnd (32 ≤ x0 ∧ x0 < (newA q1.2 20 (wr 8)) (-1) 0 ∧ (newA q1.2 20 (wr 8)) x0 (-1) = 4) (cnd (0 ≤ wr 8 ∧ wr 8 ≤ 100000) (cnd (32 ≤ x0 ∧ x0 < (newA (up (newA q1.2 20 (wr 8)) x0 0 (q1.2 (-1) 0)) 20 (wr 8)) (-1) 0 ∧ (newA (up (newA q1.2 20 (wr 8)) x0 0 (q1.2 (-1) 0)) 20 (wr 8)) x0 (-1) = 4) (some (0, up (newA (up (newA q1.2 20 (wr 8)) x0 0 (q1.2 (-1) 0)) 20 (wr 8)) x0 1 ((up (newA q1.2 20 (wr 8)) x0 0 (q1.2 (-1) 0)) (-1) 0))) none) none) none) none)) none :=
  blkE (cs := pgA_8) rfl [] 12 _ _ _ _
/-- OneAtATime$Evenness.<init>()V -/
theorem ce_9 (d : Nat) (σ : HP) (x0 : Int) : clR PG0 MX (d + 1) 9 [vR x0] σ = rsP PG0 MX d 9 0 [vR x0] [] σ := rfl
set_option maxRecDepth 100000 in
theorem sg_9_0 (d : Nat) (σ : HP) (x0 : Int) : rsP PG0 MX d 9 0 [vR x0] [] σ =
    cnd (0 < x0) (bnd (clR PG0 MX d 1003 [vR x0] σ) (fun q1 => 
    cnd (0 ≤ wr 8 ∧ wr 8 ≤ 100000) (cnd (32 ≤ x0 ∧ x0 < (newA q1.2 20 (wr 8)) (-1) 0 ∧ (newA q1.2 20 (wr 8)) x0 (-1) = 2) (cnd (0 ≤ wr 8 ∧ wr 8 ≤ 100000) (cnd (32 ≤ x0 ∧ x0 < (newA (up (newA q1.2 20 (wr 8)) x0 0 (q1.2 (-1) 0)) 20 (wr 8)) (-1) 0 ∧ (newA (up (newA q1.2 20 (wr 8)) x0 0 (q1.2 (-1) 0)) 20 (wr 8)) x0 (-1) = 2) (rsP PG0 MX d 9 20 [vR x0] [] (up (newA (up (newA q1.2 20 (wr 8)) x0 0 (q1.2 (-1) 0)) 20 (wr 8)) x0 1 ((up (newA q1.2 20 (wr 8)) x0 0 (q1.2 (-1) 0)) (-1) 0))) none) none) none) none)) none :=
  blkE (cs := pgA_9) rfl [20] 12 _ _ _ _
set_option maxRecDepth 100000 in
theorem sg_9_20 (d : Nat) (σ : HP) (x0 : Int) : rsP PG0 MX d 9 20 [vR x0] [] σ =
    cnd (0 ≤ wr 8 ∧ wr 8 ≤ 100000) (cnd (32 ≤ x0 ∧ x0 < (newA σ 20 (wr 8)) (-1) 0 ∧ (newA σ 20 (wr 8)) x0 (-1) = 2) (cnd (32 ≤ x0 ∧ x0 < (up (newA σ 20 (wr 8)) x0 2 (σ (-1) 0)) (-1) 0 ∧ (up (newA σ 20 (wr 8)) x0 2 (σ (-1) 0)) x0 (-1) = 2) (cnd (32 ≤ x0 ∧ x0 < (up (up (newA σ 20 (wr 8)) x0 2 (σ (-1) 0)) x0 3 0) (-1) 0 ∧ (up (up (newA σ 20 (wr 8)) x0 2 (σ (-1) 0)) x0 3 0) x0 (-1) = 2) (some (0, up (up (up (newA σ 20 (wr 8)) x0 2 (σ (-1) 0)) x0 3 0) x0 4 0)) none) none) none) none :=
  blkE (cs := pgA_9) rfl [20] 12 _ _ _ _
/-- OneAtATime.feed(IIIII)I -/
theorem ce_10 (d : Nat) (σ : HP) (x0 x1 x2 x3 x4 x5 : Int) : clR PG0 MX (d + 1) 10 [vR x0, vI x1, vI x2, vI x3, vI x4, vI x5] σ = rsP PG0 MX d 10 0 [vR x0, vI x1, vI x2, vI x3, vI x4, vI x5, vU] [] σ := rfl
set_option maxRecDepth 100000 in
theorem sg_10_0 (d : Nat) (σ : HP) (x0 x1 x2 x3 x4 x5 : Int) : rsP PG0 MX d 10 0 [vR x0, vI x1, vI x2, vI x3, vI x4, vI x5, vU] [] σ =
    cnd (32 ≤ x0 ∧ x0 < σ (-1) 0 ∧ σ x0 (-1) = 8) (cnd (32 ≤ (σ x0 3) ∧ (σ x0 3) < σ (-1) 0 ∧ σ (σ x0 3) (-1) = 5) (cnd (0 < (σ (σ x0 3) 0) ∧ (σ (σ x0 3) 0) < σ (-1) 0 ∧ σ (σ (σ x0 3) 0) (-1) = 1) (bnd (clR PG0 MX d 11 [vR (σ (σ x0 3) 0), vI 20] σ) (fun q1 => 
    cnd (wr q1.1 ≠ 0)
        (cnd (0 < (σ (σ x0 3) 0) ∧ (σ (σ x0 3) 0) < q1.2 (-1) 0 ∧ q1.2 (σ (σ x0 3) 0) (-1) = 1) (bnd (clR PG0 MX d 12 [vR (σ (σ x0 3) 0), vI x1] q1.2) (fun q2 => 
        cnd (0 < (σ (σ x0 3) 0) ∧ (σ (σ x0 3) 0) < q2.2 (-1) 0 ∧ q2.2 (σ (σ x0 3) 0) (-1) = 1) (bnd (clR PG0 MX d 12 [vR (σ (σ x0 3) 0), vI x2] q2.2) (fun q3 => 
          cnd (0 < (σ (σ x0 3) 0) ∧ (σ (σ x0 3) 0) < q3.2 (-1) 0 ∧ q3.2 (σ (σ x0 3) 0) (-1) = 1) (bnd (clR PG0 MX d 12 [vR (σ (σ x0 3) 0), vI x3] q3.2) (fun q4 => 
            rsP PG0 MX d 10 39 [vR x0, vI x1, vI x2, vI x3, vI x4, vI x5, vR (σ (σ x0 3) 0)] [] q4.2)) none)) none)) none)
        (some ((-1), q1.2)))) none) none) none :=
  blkE (cs := pgA_10) rfl [39] 19 _ _ _ _
set_option maxRecDepth 100000 in
theorem sg_10_39 (d : Nat) (σ : HP) (x0 x1 x2 x3 x4 x5 x6 : Int) : rsP PG0 MX d 10 39 [vR x0, vI x1, vI x2, vI x3, vI x4, vI x5, vR x6] [] σ =
    cnd (0 < x6 ∧ x6 < σ (-1) 0 ∧ σ x6 (-1) = 1) (bnd (clR PG0 MX d 12 [vR x6, vI x4] σ) (fun q1 => 
    cnd (0 < x6 ∧ x6 < q1.2 (-1) 0 ∧ q1.2 x6 (-1) = 1) (bnd (clR PG0 MX d 12 [vR x6, vI x5] q1.2) (fun q2 => 
      cnd (32 ≤ x6 ∧ x6 < q2.2 (-1) 0 ∧ q2.2 x6 (-1) = 1) (some (q2.2 x6 1, q2.2)) none)) none)) none :=
  blkE (cs := pgA_10) rfl [39] 10 _ _ _ _
/-- OneAtATime$Bytes.hasRoom(I)Z -/
theorem ce_11 (d : Nat) (σ : HP) (x0 x1 : Int) : clR PG0 MX (d + 1) 11 [vR x0, vI x1] σ = rsP PG0 MX d 11 0 [vR x0, vI x1] [] σ := rfl
set_option maxRecDepth 100000 in
theorem sg_11_0 (d : Nat) (σ : HP) (x0 x1 : Int) : rsP PG0 MX d 11 0 [vR x0, vI x1] [] σ =
    cnd (32 ≤ x0 ∧ x0 < σ (-1) 0 ∧ σ x0 (-1) = 1) (cnd (32 ≤ x0 ∧ x0 < σ (-1) 0 ∧ σ x0 (-1) = 1) (cnd (0 < (σ x0 0) ∧ (σ x0 0) < σ (-1) 0 ∧ σ (σ x0 0) (-1) = 21 ∧ 0 ≤ σ (σ x0 0) (-2)) (cnd (wr (σ (σ x0 0) (-2)) < wr ((σ x0 1) + x1))
      (some (0, σ))
      (some (1, σ))) none) none) none :=
  blkE (cs := pgA_11) rfl [] 12 _ _ _ _
/-- OneAtATime$Bytes.putFour(I)V -/
theorem ce_12 (d : Nat) (σ : HP) (x0 x1 : Int) : clR PG0 MX (d + 1) 12 [vR x0, vI x1] σ = rsP PG0 MX d 12 0 [vR x0, vI x1] [] σ := rfl
set_option maxRecDepth 100000 in
theorem sg_12_0 (d : Nat) (σ : HP) (x0 x1 : Int) : rsP PG0 MX d 12 0 [vR x0, vI x1] [] σ =
    cnd (0 < x0 ∧ x0 < σ (-1) 0 ∧ σ x0 (-1) = 1) (bnd (clR PG0 MX d 13 [vR x0, vI (i_ushr x1 24)] σ) (fun q1 => 
    cnd (0 < x0 ∧ x0 < q1.2 (-1) 0 ∧ q1.2 x0 (-1) = 1) (bnd (clR PG0 MX d 13 [vR x0, vI (i_ushr x1 16)] q1.2) (fun q2 => 
      cnd (0 < x0 ∧ x0 < q2.2 (-1) 0 ∧ q2.2 x0 (-1) = 1) (bnd (clR PG0 MX d 13 [vR x0, vI (i_ushr x1 8)] q2.2) (fun q3 => 
        cnd (0 < x0 ∧ x0 < q3.2 (-1) 0 ∧ q3.2 x0 (-1) = 1) (bnd (clR PG0 MX d 13 [vR x0, vI x1] q3.2) (fun q4 => 
          some (0, q4.2))) none)) none)) none)) none :=
  blkE (cs := pgA_12) rfl [] 20 _ _ _ _
/-- OneAtATime$Bytes.put(I)V -/
theorem ce_13 (d : Nat) (σ : HP) (x0 x1 : Int) : clR PG0 MX (d + 1) 13 [vR x0, vI x1] σ = rsP PG0 MX d 13 0 [vR x0, vI x1] [] σ := rfl
set_option maxRecDepth 100000 in
theorem sg_13_0 (d : Nat) (σ : HP) (x0 x1 : Int) : rsP PG0 MX d 13 0 [vR x0, vI x1] [] σ =
    cnd (32 ≤ x0 ∧ x0 < σ (-1) 0 ∧ σ x0 (-1) = 1) (cnd (32 ≤ x0 ∧ x0 < σ (-1) 0 ∧ σ x0 (-1) = 1) (cnd (0 < (σ x0 0) ∧ (σ x0 0) < σ (-1) 0 ∧ σ (σ x0 0) (-1) = 21 ∧ 0 ≤ σ (σ x0 0) (-2)) (cnd (wr (σ (σ x0 0) (-2)) ≤ wr (σ x0 1))
      (some (0, σ))
      (cnd (32 ≤ x0 ∧ x0 < σ (-1) 0 ∧ σ x0 (-1) = 1) (cnd (32 ≤ x0 ∧ x0 < σ (-1) 0 ∧ σ x0 (-1) = 1) (cnd (32 ≤ (σ x0 0) ∧ (σ x0 0) < σ (-1) 0 ∧ σ (σ x0 0) (-1) = 21 ∧ 0 ≤ wr (σ x0 1) ∧ wr (σ x0 1) < σ (σ x0 0) (-2)) (cnd (32 ≤ x0 ∧ x0 < (up σ (σ x0 0) (wr (σ x0 1)) (i_byte (i_byte x1))) (-1) 0 ∧ (up σ (σ x0 0) (wr (σ x0 1)) (i_byte (i_byte x1))) x0 (-1) = 1) (cnd (32 ≤ x0 ∧ x0 < (up σ (σ x0 0) (wr (σ x0 1)) (i_byte (i_byte x1))) (-1) 0 ∧ (up σ (σ x0 0) (wr (σ x0 1)) (i_byte (i_byte x1))) x0 (-1) = 1) (some (0, up (up σ (σ x0 0) (wr (σ x0 1)) (i_byte (i_byte x1))) x0 1 (((up σ (σ x0 0) (wr (σ x0 1)) (i_byte (i_byte x1))) x0 1) + 1))) none) none) none) none) none)) none) none) none :=
  blkE (cs := pgA_13) rfl [] 21 _ _ _ _
/-- OneAtATime.end(I)I -/
theorem ce_14 (d : Nat) (σ : HP) (x0 x1 : Int) : clR PG0 MX (d + 1) 14 [vR x0, vI x1] σ = rsP PG0 MX d 14 0 [vR x0, vI x1] [] σ := rfl
set_option maxRecDepth 100000 in
theorem sg_14_0 (d : Nat) (σ : HP) (x0 x1 : Int) : rsP PG0 MX d 14 0 [vR x0, vI x1] [] σ =
    cnd (wr x1 < 0)
      (some ((-1), σ))
      (cnd (32 ≤ x0 ∧ x0 < σ (-1) 0 ∧ σ x0 (-1) = 8) (cnd (32 ≤ (σ x0 3) ∧ (σ x0 3) < σ (-1) 0 ∧ σ (σ x0 3) (-1) = 5) (cnd (32 ≤ (σ (σ x0 3) 0) ∧ (σ (σ x0 3) 0) < σ (-1) 0 ∧ σ (σ (σ x0 3) 0) (-1) = 1) (cnd (wr x1 ≤ wr (σ (σ (σ x0 3) 0) 1))
        (cnd (32 ≤ x0 ∧ x0 < σ (-1) 0 ∧ σ x0 (-1) = 8) (cnd (32 ≤ (σ x0 3) ∧ (σ x0 3) < σ (-1) 0 ∧ σ (σ x0 3) (-1) = 5) (cnd (32 ≤ (σ (σ x0 3) 0) ∧ (σ (σ x0 3) 0) < σ (-1) 0 ∧ σ (σ (σ x0 3) 0) (-1) = 1) (some (x1, up σ (σ (σ x0 3) 0) 1 x1)) none) none) none)
        (some ((-1), σ))) none) none) none) :=
  blkE (cs := pgA_14) rfl [] 16 _ _ _ _
/-- OneAtATime.told(I)I -/
theorem ce_15 (d : Nat) (σ : HP) (x0 x1 : Int) : clR PG0 MX (d + 1) 15 [vR x0, vI x1] σ = rsP PG0 MX d 15 0 [vR x0, vI x1, vU] [] σ := rfl
set_option maxRecDepth 100000 in
theorem sg_15_0 (d : Nat) (σ : HP) (x0 x1 : Int) : rsP PG0 MX d 15 0 [vR x0, vI x1, vU] [] σ =
    bnd (clR PG0 MX d 16 [vI x1] σ) (fun q1 => 
    cnd (wr q1.1 ≠ 0)
        (cnd (32 ≤ x0 ∧ x0 < q1.2 (-1) 0 ∧ q1.2 x0 (-1) = 8) (cnd (32 ≤ x0 ∧ x0 < q1.2 (-1) 0 ∧ q1.2 x0 (-1) = 8) (cnd (0 < (q1.2 x0 3) ∧ (q1.2 x0 3) < q1.2 (-1) 0 ∧ q1.2 (q1.2 x0 3) (-1) = 5) (bnd (clR PG0 MX d 17 [vR (q1.2 x0 3), vR (q1.2 x0 1)] q1.2) (fun q2 => 
        cnd (32 ≤ x0 ∧ x0 < q2.2 (-1) 0 ∧ q2.2 x0 (-1) = 8) (cnd (32 ≤ (q2.2 x0 3) ∧ (q2.2 x0 3) < q2.2 (-1) 0 ∧ q2.2 (q2.2 x0 3) (-1) = 5) (cnd (32 ≤ (q2.2 (q2.2 x0 3) 0) ∧ (q2.2 (q2.2 x0 3) 0) < q2.2 (-1) 0 ∧ q2.2 (q2.2 (q2.2 x0 3) 0) (-1) = 1) (cnd (wr q2.1 ≠ 0)
            (cnd (0 < x0 ∧ x0 < (up q2.2 (q2.2 (q2.2 x0 3) 0) 1 0) (-1) 0 ∧ (up q2.2 (q2.2 (q2.2 x0 3) 0) 1 0) x0 (-1) = 8) (bnd (clR PG0 MX d 32 [vR x0, vI x1] (up q2.2 (q2.2 (q2.2 x0 3) 0) 1 0)) (fun q3 => 
            some (q3.1, q3.2))) none)
            (some ((-4), up q2.2 (q2.2 (q2.2 x0 3) 0) 1 0))) none) none) none)) none) none) none)
        (some ((-2), q1.2))) :=
  blkE (cs := pgA_15) rfl [] 21 _ _ _ _
/-- OneAtATime.isSlot(I)Z -/
theorem ce_16 (d : Nat) (σ : HP) (x0 : Int) : clR PG0 MX (d + 1) 16 [vI x0] σ = rsP PG0 MX d 16 0 [vI x0] [] σ := rfl
set_option maxRecDepth 100000 in
theorem sg_16_0 (d : Nat) (σ : HP) (x0 : Int) : rsP PG0 MX d 16 0 [vI x0] [] σ =
    cnd (wr x0 < 0)
      (some (0, σ))
      (cnd (wr 3 ≤ wr x0)
        (some (0, σ))
        (some (1, σ))) :=
  blkE (cs := pgA_16) rfl [] 9 _ _ _ _
/-- OneAtATime$Reader.reads(LOneAtATime$BitList;)Z -/
theorem ce_17 (d : Nat) (σ : HP) (x0 x1 : Int) : clR PG0 MX (d + 1) 17 [vR x0, vR x1] σ = rsP PG0 MX d 17 0 [vR x0, vR x1] [] σ := rfl
set_option maxRecDepth 100000 in
theorem sg_17_0 (d : Nat) (σ : HP) (x0 x1 : Int) : rsP PG0 MX d 17 0 [vR x0, vR x1] [] σ =
    cnd (32 ≤ x0 ∧ x0 < σ (-1) 0 ∧ σ x0 (-1) = 5) (cnd (32 ≤ x0 ∧ x0 < (up σ x0 4 0) (-1) 0 ∧ (up σ x0 4 0) x0 (-1) = 5) (cnd (32 ≤ x0 ∧ x0 < (up (up σ x0 4 0) x0 5 ((-1))) (-1) 0 ∧ (up (up σ x0 4 0) x0 5 ((-1))) x0 (-1) = 5) (cnd (0 < x0 ∧ x0 < (up (up (up σ x0 4 0) x0 5 ((-1))) x0 3 0) (-1) 0 ∧ (up (up (up σ x0 4 0) x0 5 ((-1))) x0 3 0) x0 (-1) = 5) (bnd (clR PG0 MX d 18 [vR x0] (up (up (up σ x0 4 0) x0 5 ((-1))) x0 3 0)) (fun q1 => 
    cnd (0 < x0 ∧ x0 < q1.2 (-1) 0 ∧ q1.2 x0 (-1) = 5) (bnd (clR PG0 MX d 22 [vR x0, vR x1] q1.2) (fun q2 => 
      cnd (32 ≤ x0 ∧ x0 < q2.2 (-1) 0 ∧ q2.2 x0 (-1) = 5) (cnd (wr (q2.2 x0 4) ≠ 0)
          (rsP PG0 MX d 17 36 [vR x0, vR x1] [] q2.2)
          (cnd (0 < x0 ∧ x0 < q2.2 (-1) 0 ∧ q2.2 x0 (-1) = 5) (bnd (clR PG0 MX d 29 [vR x0, vR x1] q2.2) (fun q3 => 
          rsP PG0 MX d 17 36 [vR x0, vR x1] [] q3.2)) none)) none)) none)) none) none) none) none :=
  blkE (cs := pgA_17) rfl [36, 65] 22 _ _ _ _
set_option maxRecDepth 100000 in
theorem sg_17_36 (d : Nat) (σ : HP) (x0 : Int) (u1 : MV) : rsP PG0 MX d 17 36 [vR x0, u1] [] σ =
    cnd (0 < x0 ∧ x0 < σ (-1) 0 ∧ σ x0 (-1) = 5) (bnd (clR PG0 MX d 27 [vR x0, vI 59] σ) (fun q1 => 
    cnd (32 ≤ x0 ∧ x0 < q1.2 (-1) 0 ∧ q1.2 x0 (-1) = 5) (cnd (wr (q1.2 x0 4) ≠ 0)
        (rsP PG0 MX d 17 65 [vR x0, vU] [] q1.2)
        (cnd (32 ≤ x0 ∧ x0 < q1.2 (-1) 0 ∧ q1.2 x0 (-1) = 5) (cnd (wr (q1.2 x0 1) = 0)
          (rsP PG0 MX d 17 65 [vR x0, vU] [] q1.2)
          (cnd (32 ≤ x0 ∧ x0 < q1.2 (-1) 0 ∧ q1.2 x0 (-1) = 5) (cnd (0 < x0 ∧ x0 < q1.2 (-1) 0 ∧ q1.2 x0 (-1) = 5) (bnd (clR PG0 MX d 25 [vR x0, vI 1, vI (q1.2 x0 2)] q1.2) (fun q2 => 
          rsP PG0 MX d 17 65 [vR x0, vU] [] q2.2)) none) none)) none)) none)) none :=
  blkE (cs := pgA_17) rfl [36, 65] 16 _ _ _ _
set_option maxRecDepth 100000 in
theorem sg_17_65 (d : Nat) (σ : HP) (x0 : Int) (u1 : MV) : rsP PG0 MX d 17 65 [vR x0, u1] [] σ =
    cnd (32 ≤ x0 ∧ x0 < σ (-1) 0 ∧ σ x0 (-1) = 5) (cnd (wr (σ x0 4) ≠ 0)
      (some (0, σ))
      (some (1, σ))) none :=
  blkE (cs := pgA_17) rfl [36, 65] 7 _ _ _ _
/-- OneAtATime$Reader.advance()V -/
theorem ce_18 (d : Nat) (σ : HP) (x0 : Int) : clR PG0 MX (d + 1) 18 [vR x0] σ = rsP PG0 MX d 18 0 [vR x0] [] σ := rfl
set_option maxRecDepth 100000 in
theorem sg_18_0 (d : Nat) (σ : HP) (x0 : Int) : rsP PG0 MX d 18 0 [vR x0] [] σ =
    cnd (32 ≤ x0 ∧ x0 < σ (-1) 0 ∧ σ x0 (-1) = 5) (cnd (32 ≤ x0 ∧ x0 < σ (-1) 0 ∧ σ x0 (-1) = 5) (rsP PG0 MX d 18 8 [vR x0] [] (up σ x0 2 (σ x0 3))) none) none :=
  blkE (cs := pgA_18) rfl [8, 52, 108] 6 _ _ _ _
set_option maxRecDepth 100000 in
theorem sg_18_8 (d : Nat) (σ : HP) (x0 : Int) : rsP PG0 MX d 18 8 [vR x0] [] σ =
    cnd (32 ≤ x0 ∧ x0 < σ (-1) 0 ∧ σ x0 (-1) = 5) (cnd (32 ≤ x0 ∧ x0 < σ (-1) 0 ∧ σ x0 (-1) = 5) (cnd (32 ≤ (σ x0 0) ∧ (σ x0 0) < σ (-1) 0 ∧ σ (σ x0 0) (-1) = 1) (cnd (wr (σ (σ x0 0) 1) ≤ wr (σ x0 2))
      (rsP PG0 MX d 18 52 [vR x0] [] σ)
      (cnd (32 ≤ x0 ∧ x0 < σ (-1) 0 ∧ σ x0 (-1) = 5) (cnd (32 ≤ x0 ∧ x0 < σ (-1) 0 ∧ σ x0 (-1) = 5) (cnd (0 < (σ x0 0) ∧ (σ x0 0) < σ (-1) 0 ∧ σ (σ x0 0) (-1) = 1) (bnd (clR PG0 MX d 19 [vR (σ x0 0), vI (σ x0 2)] σ) (fun q1 => 
      bnd (clR PG0 MX d 20 [vI q1.1] q1.2) (fun q2 => 
        cnd (wr q2.1 = 0)
            (rsP PG0 MX d 18 52 [vR x0] [] q2.2)
            (cnd (32 ≤ x0 ∧ x0 < q2.2 (-1) 0 ∧ q2.2 x0 (-1) = 5) (cnd (32 ≤ x0 ∧ x0 < q2.2 (-1) 0 ∧ q2.2 x0 (-1) = 5) (rsP PG0 MX d 18 8 [vR x0] [] (up q2.2 x0 2 ((q2.2 x0 2) + 1))) none) none)))) none) none) none)) none) none) none :=
  blkE (cs := pgA_18) rfl [8, 52, 108] 22 _ _ _ _
set_option maxRecDepth 100000 in
theorem sg_18_52 (d : Nat) (σ : HP) (x0 : Int) : rsP PG0 MX d 18 52 [vR x0] [] σ =
    cnd (32 ≤ x0 ∧ x0 < σ (-1) 0 ∧ σ x0 (-1) = 5) (cnd (32 ≤ x0 ∧ x0 < σ (-1) 0 ∧ σ x0 (-1) = 5) (cnd (32 ≤ x0 ∧ x0 < (up σ x0 3 (σ x0 2)) (-1) 0 ∧ (up σ x0 3 (σ x0 2)) x0 (-1) = 5) (cnd (32 ≤ x0 ∧ x0 < (up σ x0 3 (σ x0 2)) (-1) 0 ∧ (up σ x0 3 (σ x0 2)) x0 (-1) = 5) (cnd (32 ≤ ((up σ x0 3 (σ x0 2)) x0 0) ∧ ((up σ x0 3 (σ x0 2)) x0 0) < (up σ x0 3 (σ x0 2)) (-1) 0 ∧ (up σ x0 3 (σ x0 2)) ((up σ x0 3 (σ x0 2)) x0 0) (-1) = 1) (cnd (wr ((up σ x0 3 (σ x0 2)) x0 2) < wr ((up σ x0 3 (σ x0 2)) ((up σ x0 3 (σ x0 2)) x0 0) 1))
      (cnd (32 ≤ x0 ∧ x0 < (up σ x0 3 (σ x0 2)) (-1) 0 ∧ (up σ x0 3 (σ x0 2)) x0 (-1) = 5) (cnd (32 ≤ x0 ∧ x0 < (up σ x0 3 (σ x0 2)) (-1) 0 ∧ (up σ x0 3 (σ x0 2)) x0 (-1) = 5) (cnd (0 < ((up σ x0 3 (σ x0 2)) x0 0) ∧ ((up σ x0 3 (σ x0 2)) x0 0) < (up σ x0 3 (σ x0 2)) (-1) 0 ∧ (up σ x0 3 (σ x0 2)) ((up σ x0 3 (σ x0 2)) x0 0) (-1) = 1) (bnd (clR PG0 MX d 19 [vR ((up σ x0 3 (σ x0 2)) x0 0), vI ((up σ x0 3 (σ x0 2)) x0 2)] (up σ x0 3 (σ x0 2))) (fun q1 => 
      bnd (clR PG0 MX d 21 [vI q1.1] q1.2) (fun q2 => 
        cnd (32 ≤ x0 ∧ x0 < q2.2 (-1) 0 ∧ q2.2 x0 (-1) = 5) (cnd (32 ≤ x0 ∧ x0 < (up q2.2 x0 1 q2.1) (-1) 0 ∧ (up q2.2 x0 1 q2.1) x0 (-1) = 5) (cnd (32 ≤ x0 ∧ x0 < (up q2.2 x0 1 q2.1) (-1) 0 ∧ (up q2.2 x0 1 q2.1) x0 (-1) = 5) (rsP PG0 MX d 18 108 [vR x0] [] (up (up q2.2 x0 1 q2.1) x0 3 (((up q2.2 x0 1 q2.1) x0 3) + 1))) none) none) none))) none) none) none)
      (cnd (32 ≤ x0 ∧ x0 < (up σ x0 3 (σ x0 2)) (-1) 0 ∧ (up σ x0 3 (σ x0 2)) x0 (-1) = 5) (some (0, up (up σ x0 3 (σ x0 2)) x0 1 0)) none)) none) none) none) none) none :=
  blkE (cs := pgA_18) rfl [8, 52, 108] 26 _ _ _ _
set_option maxRecDepth 100000 in
theorem sg_18_108 (d : Nat) (σ : HP) (x0 : Int) : rsP PG0 MX d 18 108 [vR x0] [] σ =
    cnd (32 ≤ x0 ∧ x0 < σ (-1) 0 ∧ σ x0 (-1) = 5) (cnd (wr (σ x0 1) = wr 3)
      (some (0, σ))
      (cnd (32 ≤ x0 ∧ x0 < σ (-1) 0 ∧ σ x0 (-1) = 5) (cnd (32 ≤ x0 ∧ x0 < σ (-1) 0 ∧ σ x0 (-1) = 5) (cnd (32 ≤ (σ x0 0) ∧ (σ x0 0) < σ (-1) 0 ∧ σ (σ x0 0) (-1) = 1) (cnd (wr (σ (σ x0 0) 1) ≤ wr (σ x0 3))
        (some (0, σ))
        (cnd (32 ≤ x0 ∧ x0 < σ (-1) 0 ∧ σ x0 (-1) = 5) (cnd (32 ≤ x0 ∧ x0 < σ (-1) 0 ∧ σ x0 (-1) = 5) (cnd (0 < (σ x0 0) ∧ (σ x0 0) < σ (-1) 0 ∧ σ (σ x0 0) (-1) = 1) (bnd (clR PG0 MX d 19 [vR (σ x0 0), vI (σ x0 3)] σ) (fun q1 => 
        bnd (clR PG0 MX d 21 [vI q1.1] q1.2) (fun q2 => 
          cnd (32 ≤ x0 ∧ x0 < q2.2 (-1) 0 ∧ q2.2 x0 (-1) = 5) (cnd (wr q2.1 ≠ wr (q2.2 x0 1))
              (some (0, q2.2))
              (cnd (32 ≤ x0 ∧ x0 < q2.2 (-1) 0 ∧ q2.2 x0 (-1) = 5) (cnd (32 ≤ x0 ∧ x0 < q2.2 (-1) 0 ∧ q2.2 x0 (-1) = 5) (rsP PG0 MX d 18 108 [vR x0] [] (up q2.2 x0 3 ((q2.2 x0 3) + 1))) none) none)) none))) none) none) none)) none) none) none)) none :=
  blkE (cs := pgA_18) rfl [8, 52, 108] 28 _ _ _ _
/-- OneAtATime$Bytes.at(I)I -/
theorem ce_19 (d : Nat) (σ : HP) (x0 x1 : Int) : clR PG0 MX (d + 1) 19 [vR x0, vI x1] σ = rsP PG0 MX d 19 0 [vR x0, vI x1] [] σ := rfl
set_option maxRecDepth 100000 in
theorem sg_19_0 (d : Nat) (σ : HP) (x0 x1 : Int) : rsP PG0 MX d 19 0 [vR x0, vI x1] [] σ =
    cnd (wr x1 < 0)
      (some ((-1), σ))
      (cnd (32 ≤ x0 ∧ x0 < σ (-1) 0 ∧ σ x0 (-1) = 1) (cnd (wr x1 < wr (σ x0 1))
        (cnd (32 ≤ x0 ∧ x0 < σ (-1) 0 ∧ σ x0 (-1) = 1) (cnd (32 ≤ (σ x0 0) ∧ (σ x0 0) < σ (-1) 0 ∧ σ (σ x0 0) (-1) = 21 ∧ 0 ≤ wr x1 ∧ wr x1 < σ (σ x0 0) (-2)) (some (i_and (σ (σ x0 0) (wr x1)) 255, σ)) none) none)
        (some ((-1), σ))) none) :=
  blkE (cs := pgA_19) rfl [] 14 _ _ _ _
/-- OneAtATime$Reader.isBlank(I)Z -/
theorem ce_20 (d : Nat) (σ : HP) (x0 : Int) : clR PG0 MX (d + 1) 20 [vI x0] σ = rsP PG0 MX d 20 0 [vI x0] [] σ := rfl
set_option maxRecDepth 100000 in
theorem sg_20_0 (d : Nat) (σ : HP) (x0 : Int) : rsP PG0 MX d 20 0 [vI x0] [] σ =
    cnd (wr x0 = wr 32)
      (some (1, σ))
      (cnd (wr x0 ≠ wr 10)
        (some (0, σ))
        (some (1, σ))) :=
  blkE (cs := pgA_20) rfl [] 10 _ _ _ _
/-- OneAtATime$Reader.kindOf(I)I -/
theorem ce_21 (d : Nat) (σ : HP) (x0 : Int) : clR PG0 MX (d + 1) 21 [vI x0] σ = rsP PG0 MX d 21 0 [vI x0] [] σ := rfl
set_option maxRecDepth 100000 in
theorem sg_21_0 (d : Nat) (σ : HP) (x0 : Int) : rsP PG0 MX d 21 0 [vI x0] [] σ =
    cnd (wr x0 < wr 97)
      (rsP PG0 MX d 21 14 [vI x0] [] σ)
      (cnd (wr 122 < wr x0)
        (rsP PG0 MX d 21 14 [vI x0] [] σ)
        (some (1, σ))) :=
  blkE (cs := pgA_21) rfl [14] 9 _ _ _ _
set_option maxRecDepth 100000 in
theorem sg_21_14 (d : Nat) (σ : HP) (x0 : Int) : rsP PG0 MX d 21 14 [vI x0] [] σ =
    cnd (wr x0 < wr 48)
      (some (3, σ))
      (cnd (wr 57 < wr x0)
        (some (3, σ))
        (some (2, σ))) :=
  blkE (cs := pgA_21) rfl [14] 10 _ _ _ _
/-- OneAtATime$Reader.readsHead(LOneAtATime$BitList;)V -/
theorem ce_22 (d : Nat) (σ : HP) (x0 x1 : Int) : clR PG0 MX (d + 1) 22 [vR x0, vR x1] σ = rsP PG0 MX d 22 0 [vR x0, vR x1, vU, vU, vU, vU] [] σ := rfl
set_option maxRecDepth 100000 in
theorem sg_22_0 (d : Nat) (σ : HP) (x0 x1 : Int) : rsP PG0 MX d 22 0 [vR x0, vR x1, vU, vU, vU, vU] [] σ =
    cnd (0 < x0 ∧ x0 < σ (-1) 0 ∧ σ x0 (-1) = 5) (bnd (clR PG0 MX d 23 [vR x0, vR 7] σ) (fun q1 => 
    cnd (0 < x0 ∧ x0 < q1.2 (-1) 0 ∧ q1.2 x0 (-1) = 5) (bnd (clR PG0 MX d 26 [vR x0, vI 1, vI 8] q1.2) (fun q2 => 
      cnd (32 ≤ x0 ∧ x0 < q2.2 (-1) 0 ∧ q2.2 x0 (-1) = 5) (cnd (wr (q2.2 x0 4) ≠ 0)
          (rsP PG0 MX d 22 60 [vR x0, vR x1, vI q2.1, vI 0, vI q2.1, vU] [] q2.2)
          (cnd (0 < x0 ∧ x0 < q2.2 (-1) 0 ∧ q2.2 x0 (-1) = 5) (bnd (clR PG0 MX d 24 [vR x0, vR 9] q2.2) (fun q3 => 
          cnd (wr q3.1 = 0)
              (rsP PG0 MX d 22 60 [vR x0, vR x1, vI q2.1, vI 0, vI q2.1, vU] [] q3.2)
              (cnd (0 < x0 ∧ x0 < q3.2 (-1) 0 ∧ q3.2 x0 (-1) = 5) (bnd (clR PG0 MX d 18 [vR x0] q3.2) (fun q4 => 
              rsP PG0 MX d 22 39 [vR x0, vR x1, vI q2.1, vI 0, vI q2.1, vU] [] q4.2)) none))) none)) none)) none)) none :=
  blkE (cs := pgA_22) rfl [39, 60] 23 _ _ _ _
set_option maxRecDepth 100000 in
theorem sg_22_39 (d : Nat) (σ : HP) (x0 x1 x2 x3 x4 : Int) (u5 : MV) : rsP PG0 MX d 22 39 [vR x0, vR x1, vI x2, vI x3, vI x4, u5] [] σ =
    cnd (0 < x0 ∧ x0 < σ (-1) 0 ∧ σ x0 (-1) = 5) (bnd (clR PG0 MX d 26 [vR x0, vI 0, vI x2] σ) (fun q1 => 
    cnd (0 < x0 ∧ x0 < q1.2 (-1) 0 ∧ q1.2 x0 (-1) = 5) (bnd (clR PG0 MX d 23 [vR x0, vR 11] q1.2) (fun q2 => 
      cnd (0 < x0 ∧ x0 < q2.2 (-1) 0 ∧ q2.2 x0 (-1) = 5) (bnd (clR PG0 MX d 26 [vR x0, vI q1.1, vI x2] q2.2) (fun q3 => 
        rsP PG0 MX d 22 60 [vR x0, vR x1, vI x2, vI q1.1, vI q3.1, u5] [] q3.2)) none)) none)) none :=
  blkE (cs := pgA_22) rfl [39, 60] 15 _ _ _ _
set_option maxRecDepth 100000 in
theorem sg_22_60 (d : Nat) (σ : HP) (x0 x1 x2 x3 x4 : Int) (u5 : MV) : rsP PG0 MX d 22 60 [vR x0, vR x1, vI x2, vI x3, vI x4, u5] [] σ =
    cnd (0 < x0 ∧ x0 < σ (-1) 0 ∧ σ x0 (-1) = 5) (bnd (clR PG0 MX d 23 [vR x0, vR 10] σ) (fun q1 => 
    cnd (0 < x0 ∧ x0 < q1.2 (-1) 0 ∧ q1.2 x0 (-1) = 5) (bnd (clR PG0 MX d 26 [vR x0, vI 0, vI ((i_shl 1 x2) - 1)] q1.2) (fun q2 => 
      cnd (0 < x0 ∧ x0 < q2.2 (-1) 0 ∧ q2.2 x0 (-1) = 5) (bnd (clR PG0 MX d 27 [vR x0, vI 58] q2.2) (fun q3 => 
        cnd (32 ≤ x0 ∧ x0 < q3.2 (-1) 0 ∧ q3.2 x0 (-1) = 5) (cnd (wr (q3.2 x0 4) ≠ 0)
            (some (0, q3.2))
            (cnd (0 < x1 ∧ x1 < q3.2 (-1) 0 ∧ q3.2 x1 (-1) = 0) (bnd (clR PG0 MX d 28 [vR x1, vI x2, vI x3, vI x4, vI q2.1] q3.2) (fun q4 => 
            some (0, q4.2))) none)) none)) none)) none)) none :=
  blkE (cs := pgA_22) rfl [39, 60] 26 _ _ _ _
/-- OneAtATime$Reader.expectLetters(Ljava/lang/String;)V -/
theorem ce_23 (d : Nat) (σ : HP) (x0 x1 : Int) : clR PG0 MX (d + 1) 23 [vR x0, vR x1] σ = rsP PG0 MX d 23 0 [vR x0, vR x1] [] σ := rfl
set_option maxRecDepth 100000 in
theorem sg_23_0 (d : Nat) (σ : HP) (x0 x1 : Int) : rsP PG0 MX d 23 0 [vR x0, vR x1] [] σ =
    cnd (32 ≤ x0 ∧ x0 < σ (-1) 0 ∧ σ x0 (-1) = 5) (cnd (wr (σ x0 4) ≠ 0)
      (some (0, σ))
      (cnd (0 < x0 ∧ x0 < σ (-1) 0 ∧ σ x0 (-1) = 5) (bnd (clR PG0 MX d 24 [vR x0, vR x1] σ) (fun q1 => 
      cnd (wr q1.1 = 0)
          (cnd (32 ≤ x0 ∧ x0 < q1.2 (-1) 0 ∧ q1.2 x0 (-1) = 5) (cnd (0 < x0 ∧ x0 < q1.2 (-1) 0 ∧ q1.2 x0 (-1) = 5) (bnd (clR PG0 MX d 25 [vR x0, vI 1, vI (q1.2 x0 2)] q1.2) (fun q2 => 
          some (0, q2.2))) none) none)
          (cnd (0 < x0 ∧ x0 < q1.2 (-1) 0 ∧ q1.2 x0 (-1) = 5) (bnd (clR PG0 MX d 18 [vR x0] q1.2) (fun q3 => 
          some (0, q3.2))) none))) none)) none :=
  blkE (cs := pgA_23) rfl [] 14 _ _ _ _
/-- OneAtATime$Reader.isLetters(Ljava/lang/String;)Z -/
theorem ce_24 (d : Nat) (σ : HP) (x0 x1 : Int) : clR PG0 MX (d + 1) 24 [vR x0, vR x1] σ = rsP PG0 MX d 24 0 [vR x0, vR x1, vU] [] σ := rfl
set_option maxRecDepth 100000 in
theorem sg_24_0 (d : Nat) (σ : HP) (x0 x1 : Int) : rsP PG0 MX d 24 0 [vR x0, vR x1, vU] [] σ =
    cnd (32 ≤ x0 ∧ x0 < σ (-1) 0 ∧ σ x0 (-1) = 5) (cnd (wr (σ x0 1) ≠ wr 1)
      (some (0, σ))
      (cnd (32 ≤ x0 ∧ x0 < σ (-1) 0 ∧ σ x0 (-1) = 5) (cnd (32 ≤ x0 ∧ x0 < σ (-1) 0 ∧ σ x0 (-1) = 5) (cnd (0 < x1 ∧ x1 < σ (-1) 0 ∧ σ x1 (-1) = 30) (bnd (clR PG0 MX d 1000 [vR x1] σ) (fun q1 => 
      cnd (wr ((σ x0 3) - (σ x0 2)) = wr q1.1)
          (rsP PG0 MX d 24 28 [vR x0, vR x1, vI 0] [] q1.2)
          (some (0, q1.2)))) none) none) none)) none :=
  blkE (cs := pgA_24) rfl [28] 16 _ _ _ _
set_option maxRecDepth 100000 in
theorem sg_24_28 (d : Nat) (σ : HP) (x0 x1 x2 : Int) : rsP PG0 MX d 24 28 [vR x0, vR x1, vI x2] [] σ =
    cnd (0 < x1 ∧ x1 < σ (-1) 0 ∧ σ x1 (-1) = 30) (bnd (clR PG0 MX d 1000 [vR x1] σ) (fun q1 => 
    cnd (wr q1.1 ≤ wr x2)
        (some (1, q1.2))
        (cnd (32 ≤ x0 ∧ x0 < q1.2 (-1) 0 ∧ q1.2 x0 (-1) = 5) (cnd (32 ≤ x0 ∧ x0 < q1.2 (-1) 0 ∧ q1.2 x0 (-1) = 5) (cnd (0 < (q1.2 x0 0) ∧ (q1.2 x0 0) < q1.2 (-1) 0 ∧ q1.2 (q1.2 x0 0) (-1) = 1) (bnd (clR PG0 MX d 19 [vR (q1.2 x0 0), vI ((q1.2 x0 2) + x2)] q1.2) (fun q2 => 
        cnd (0 < x1 ∧ x1 < q2.2 (-1) 0 ∧ q2.2 x1 (-1) = 30) (bnd (clR PG0 MX d 1001 [vR x1, vI x2] q2.2) (fun q3 => 
          cnd (wr q2.1 = wr q3.1)
              (rsP PG0 MX d 24 28 [vR x0, vR x1, vI (x2 + 1)] [] q3.2)
              (some (0, q3.2)))) none)) none) none) none))) none :=
  blkE (cs := pgA_24) rfl [28] 19 _ _ _ _
/-- OneAtATime$Reader.blame(II)V -/
theorem ce_25 (d : Nat) (σ : HP) (x0 x1 x2 : Int) : clR PG0 MX (d + 1) 25 [vR x0, vI x1, vI x2] σ = rsP PG0 MX d 25 0 [vR x0, vI x1, vI x2] [] σ := rfl
set_option maxRecDepth 100000 in
theorem sg_25_0 (d : Nat) (σ : HP) (x0 x1 x2 : Int) : rsP PG0 MX d 25 0 [vR x0, vI x1, vI x2] [] σ =
    cnd (32 ≤ x0 ∧ x0 < σ (-1) 0 ∧ σ x0 (-1) = 5) (cnd (32 ≤ x0 ∧ x0 < (up σ x0 4 x1) (-1) 0 ∧ (up σ x0 4 x1) x0 (-1) = 5) (some (0, up (up σ x0 4 x1) x0 5 x2)) none) none :=
  blkE (cs := pgA_25) rfl [] 8 _ _ _ _
/-- OneAtATime$Reader.expectNumber(II)I -/
theorem ce_26 (d : Nat) (σ : HP) (x0 x1 x2 : Int) : clR PG0 MX (d + 1) 26 [vR x0, vI x1, vI x2] σ = rsP PG0 MX d 26 0 [vR x0, vI x1, vI x2, vU, vU] [] σ := rfl
set_option maxRecDepth 100000 in
theorem sg_26_0 (d : Nat) (σ : HP) (x0 x1 x2 : Int) : rsP PG0 MX d 26 0 [vR x0, vI x1, vI x2, vU, vU] [] σ =
    cnd (32 ≤ x0 ∧ x0 < σ (-1) 0 ∧ σ x0 (-1) = 5) (cnd (wr (σ x0 4) = 0)
      (cnd (32 ≤ x0 ∧ x0 < σ (-1) 0 ∧ σ x0 (-1) = 5) (cnd (wr (σ x0 1) = wr 2)
        (cnd (32 ≤ x0 ∧ x0 < σ (-1) 0 ∧ σ x0 (-1) = 5) (rsP PG0 MX d 26 36 [vR x0, vI x1, vI x2, vI 0, vI (σ x0 2)] [] σ) none)
        (cnd (32 ≤ x0 ∧ x0 < σ (-1) 0 ∧ σ x0 (-1) = 5) (cnd (0 < x0 ∧ x0 < σ (-1) 0 ∧ σ x0 (-1) = 5) (bnd (clR PG0 MX d 25 [vR x0, vI 1, vI (σ x0 2)] σ) (fun q1 => 
        some (x1, q1.2))) none) none)) none)
      (some (x1, σ))) none :=
  blkE (cs := pgA_26) rfl [36, 76, 86] 15 _ _ _ _
set_option maxRecDepth 100000 in
theorem sg_26_36 (d : Nat) (σ : HP) (x0 x1 x2 x3 x4 : Int) : rsP PG0 MX d 26 36 [vR x0, vI x1, vI x2, vI x3, vI x4] [] σ =
    cnd (32 ≤ x0 ∧ x0 < σ (-1) 0 ∧ σ x0 (-1) = 5) (cnd (wr (σ x0 3) ≤ wr x4)
      (rsP PG0 MX d 26 76 [vR x0, vI x1, vI x2, vI x3, vI x4] [] σ)
      (cnd (wr 1000 ≤ wr x3)
        (rsP PG0 MX d 26 76 [vR x0, vI x1, vI x2, vI x3, vI x4] [] σ)
        (cnd (32 ≤ x0 ∧ x0 < σ (-1) 0 ∧ σ x0 (-1) = 5) (cnd (0 < (σ x0 0) ∧ (σ x0 0) < σ (-1) 0 ∧ σ (σ x0 0) (-1) = 1) (bnd (clR PG0 MX d 19 [vR (σ x0 0), vI x4] σ) (fun q1 => 
        rsP PG0 MX d 26 36 [vR x0, vI x1, vI x2, vI (((x3 * 10) + q1.1) - 48), vI (x4 + 1)] [] q1.2)) none) none))) none :=
  blkE (cs := pgA_26) rfl [36, 76, 86] 22 _ _ _ _
set_option maxRecDepth 100000 in
theorem sg_26_76 (d : Nat) (σ : HP) (x0 x1 x2 x3 : Int) (u4 : MV) : rsP PG0 MX d 26 76 [vR x0, vI x1, vI x2, vI x3, u4] [] σ =
    cnd (wr x3 < wr x1)
      (rsP PG0 MX d 26 86 [vR x0, vI x1, vI x2, vI x3, vU] [] σ)
      (cnd (wr x3 ≤ wr x2)
        (cnd (0 < x0 ∧ x0 < σ (-1) 0 ∧ σ x0 (-1) = 5) (bnd (clR PG0 MX d 18 [vR x0] σ) (fun q1 => 
        some (x3, q1.2))) none)
        (rsP PG0 MX d 26 86 [vR x0, vI x1, vI x2, vI x3, vU] [] σ)) :=
  blkE (cs := pgA_26) rfl [36, 76, 86] 11 _ _ _ _
set_option maxRecDepth 100000 in
theorem sg_26_86 (d : Nat) (σ : HP) (x0 x1 : Int) (u2 u3 u4 : MV) : rsP PG0 MX d 26 86 [vR x0, vI x1, u2, u3, u4] [] σ =
    cnd (32 ≤ x0 ∧ x0 < σ (-1) 0 ∧ σ x0 (-1) = 5) (cnd (0 < x0 ∧ x0 < σ (-1) 0 ∧ σ x0 (-1) = 5) (bnd (clR PG0 MX d 25 [vR x0, vI 2, vI (σ x0 2)] σ) (fun q1 => 
    some (x1, q1.2))) none) none :=
  blkE (cs := pgA_26) rfl [36, 76, 86] 8 _ _ _ _
/-- OneAtATime$Reader.expectSign(C)V -/
theorem ce_27 (d : Nat) (σ : HP) (x0 x1 : Int) : clR PG0 MX (d + 1) 27 [vR x0, vI x1] σ = rsP PG0 MX d 27 0 [vR x0, vI x1] [] σ := rfl
set_option maxRecDepth 100000 in
theorem sg_27_0 (d : Nat) (σ : HP) (x0 x1 : Int) : rsP PG0 MX d 27 0 [vR x0, vI x1] [] σ =
    cnd (32 ≤ x0 ∧ x0 < σ (-1) 0 ∧ σ x0 (-1) = 5) (cnd (wr (σ x0 4) ≠ 0)
      (some (0, σ))
      (cnd (32 ≤ x0 ∧ x0 < σ (-1) 0 ∧ σ x0 (-1) = 5) (cnd (wr (σ x0 1) ≠ wr 3)
        (rsP PG0 MX d 27 37 [vR x0, vI x1] [] σ)
        (cnd (32 ≤ x0 ∧ x0 < σ (-1) 0 ∧ σ x0 (-1) = 5) (cnd (32 ≤ x0 ∧ x0 < σ (-1) 0 ∧ σ x0 (-1) = 5) (cnd (0 < (σ x0 0) ∧ (σ x0 0) < σ (-1) 0 ∧ σ (σ x0 0) (-1) = 1) (bnd (clR PG0 MX d 19 [vR (σ x0 0), vI (σ x0 2)] σ) (fun q1 => 
        cnd (wr q1.1 ≠ wr x1)
            (rsP PG0 MX d 27 37 [vR x0, vI x1] [] q1.2)
            (cnd (0 < x0 ∧ x0 < q1.2 (-1) 0 ∧ q1.2 x0 (-1) = 5) (bnd (clR PG0 MX d 18 [vR x0] q1.2) (fun q2 => 
            some (0, q2.2))) none))) none) none) none)) none)) none :=
  blkE (cs := pgA_27) rfl [37] 19 _ _ _ _
set_option maxRecDepth 100000 in
theorem sg_27_37 (d : Nat) (σ : HP) (x0 : Int) (u1 : MV) : rsP PG0 MX d 27 37 [vR x0, u1] [] σ =
    cnd (32 ≤ x0 ∧ x0 < σ (-1) 0 ∧ σ x0 (-1) = 5) (cnd (0 < x0 ∧ x0 < σ (-1) 0 ∧ σ x0 (-1) = 5) (bnd (clR PG0 MX d 25 [vR x0, vI 1, vI (σ x0 2)] σ) (fun q1 => 
    some (0, q1.2))) none) none :=
  blkE (cs := pgA_27) rfl [37] 7 _ _ _ _
/-- OneAtATime$BitList.begin(IIII)V -/
theorem ce_28 (d : Nat) (σ : HP) (x0 x1 x2 x3 x4 : Int) : clR PG0 MX (d + 1) 28 [vR x0, vI x1, vI x2, vI x3, vI x4] σ = rsP PG0 MX d 28 0 [vR x0, vI x1, vI x2, vI x3, vI x4] [] σ := rfl
set_option maxRecDepth 100000 in
theorem sg_28_0 (d : Nat) (σ : HP) (x0 x1 x2 x3 x4 : Int) : rsP PG0 MX d 28 0 [vR x0, vI x1, vI x2, vI x3, vI x4] [] σ =
    cnd (32 ≤ x0 ∧ x0 < σ (-1) 0 ∧ σ x0 (-1) = 0) (cnd (32 ≤ x0 ∧ x0 < (up σ x0 2 1) (-1) 0 ∧ (up σ x0 2 1) x0 (-1) = 0) (cnd (32 ≤ x0 ∧ x0 < (up (up σ x0 2 1) x0 3 x1) (-1) 0 ∧ (up (up σ x0 2 1) x0 3 x1) x0 (-1) = 0) (cnd (32 ≤ x0 ∧ x0 < (up (up (up σ x0 2 1) x0 3 x1) x0 4 x2) (-1) 0 ∧ (up (up (up σ x0 2 1) x0 3 x1) x0 4 x2) x0 (-1) = 0) (cnd (32 ≤ x0 ∧ x0 < (up (up (up (up σ x0 2 1) x0 3 x1) x0 4 x2) x0 5 x3) (-1) 0 ∧ (up (up (up (up σ x0 2 1) x0 3 x1) x0 4 x2) x0 5 x3) x0 (-1) = 0) (cnd (32 ≤ x0 ∧ x0 < (up (up (up (up (up σ x0 2 1) x0 3 x1) x0 4 x2) x0 5 x3) x0 6 0) (-1) 0 ∧ (up (up (up (up (up σ x0 2 1) x0 3 x1) x0 4 x2) x0 5 x3) x0 6 0) x0 (-1) = 0) (cnd (32 ≤ ((up (up (up (up (up σ x0 2 1) x0 3 x1) x0 4 x2) x0 5 x3) x0 6 0) x0 1) ∧ ((up (up (up (up (up σ x0 2 1) x0 3 x1) x0 4 x2) x0 5 x3) x0 6 0) x0 1) < (up (up (up (up (up σ x0 2 1) x0 3 x1) x0 4 x2) x0 5 x3) x0 6 0) (-1) 0 ∧ (up (up (up (up (up σ x0 2 1) x0 3 x1) x0 4 x2) x0 5 x3) x0 6 0) ((up (up (up (up (up σ x0 2 1) x0 3 x1) x0 4 x2) x0 5 x3) x0 6 0) x0 1) (-1) = 20 ∧ 0 ≤ wr 0 ∧ wr 0 < (up (up (up (up (up σ x0 2 1) x0 3 x1) x0 4 x2) x0 5 x3) x0 6 0) ((up (up (up (up (up σ x0 2 1) x0 3 x1) x0 4 x2) x0 5 x3) x0 6 0) x0 1) (-2)) (some (0, up (up (up (up (up (up σ x0 2 1) x0 3 x1) x0 4 x2) x0 5 x3) x0 6 0) ((up (up (up (up (up σ x0 2 1) x0 3 x1) x0 4 x2) x0 5 x3) x0 6 0) x0 1) (wr 0) x4)) none) none) none) none) none) none) none :=
  blkE (cs := pgA_28) rfl [] 22 _ _ _ _
/-- OneAtATime$Reader.readsBits(LOneAtATime$BitList;)V -/
theorem ce_29 (d : Nat) (σ : HP) (x0 x1 : Int) : clR PG0 MX (d + 1) 29 [vR x0, vR x1] σ = rsP PG0 MX d 29 0 [vR x0, vR x1, vU, vU] [] σ := rfl
set_option maxRecDepth 100000 in
theorem sg_29_0 (d : Nat) (σ : HP) (x0 x1 : Int) : rsP PG0 MX d 29 0 [vR x0, vR x1, vU, vU] [] σ =
    cnd (32 ≤ x0 ∧ x0 < σ (-1) 0 ∧ σ x0 (-1) = 5) (cnd (wr (σ x0 1) = wr 2)
      (cnd (32 ≤ x0 ∧ x0 < σ (-1) 0 ∧ σ x0 (-1) = 5) (rsP PG0 MX d 29 14 [vR x0, vR x1, vI (σ x0 2), vU] [] σ) none)
      (some (0, σ))) none :=
  blkE (cs := pgA_29) rfl [14, 88] 9 _ _ _ _
set_option maxRecDepth 100000 in
theorem sg_29_14 (d : Nat) (σ : HP) (x0 x1 x2 : Int) (u3 : MV) : rsP PG0 MX d 29 14 [vR x0, vR x1, vI x2, u3] [] σ =
    cnd (32 ≤ x0 ∧ x0 < σ (-1) 0 ∧ σ x0 (-1) = 5) (cnd (wr (σ x0 3) ≤ wr x2)
      (rsP PG0 MX d 29 88 [vR x0, vR x1, vI x2, vU] [] σ)
      (cnd (32 ≤ x0 ∧ x0 < σ (-1) 0 ∧ σ x0 (-1) = 5) (cnd (wr (σ x0 4) ≠ 0)
        (rsP PG0 MX d 29 88 [vR x0, vR x1, vI x2, vU] [] σ)
        (cnd (32 ≤ x0 ∧ x0 < σ (-1) 0 ∧ σ x0 (-1) = 5) (cnd (0 < (σ x0 0) ∧ (σ x0 0) < σ (-1) 0 ∧ σ (σ x0 0) (-1) = 1) (bnd (clR PG0 MX d 19 [vR (σ x0 0), vI x2] σ) (fun q1 => 
        cnd (0 < x1 ∧ x1 < q1.2 (-1) 0 ∧ q1.2 x1 (-1) = 0) (bnd (clR PG0 MX d 30 [vR x1, vI (q1.1 - 48)] q1.2) (fun q2 => 
          cnd (wr q2.1 ≠ 0)
              (cnd (32 ≤ x1 ∧ x1 < q2.2 (-1) 0 ∧ q2.2 x1 (-1) = 0) (cnd (wr (q2.2 x1 6) < wr 256)
                (cnd (0 < x1 ∧ x1 < q2.2 (-1) 0 ∧ q2.2 x1 (-1) = 0) (bnd (clR PG0 MX d 31 [vR x1, vI (q1.1 - 48)] q2.2) (fun q3 => 
                rsP PG0 MX d 29 14 [vR x0, vR x1, vI (x2 + 1), vU] [] q3.2)) none)
                (cnd (0 < x0 ∧ x0 < q2.2 (-1) 0 ∧ q2.2 x0 (-1) = 5) (bnd (clR PG0 MX d 25 [vR x0, vI 4, vI x2] q2.2) (fun q4 => 
                rsP PG0 MX d 29 14 [vR x0, vR x1, vI (x2 + 1), vU] [] q4.2)) none)) none)
              (cnd (0 < x0 ∧ x0 < q2.2 (-1) 0 ∧ q2.2 x0 (-1) = 5) (bnd (clR PG0 MX d 25 [vR x0, vI 3, vI x2] q2.2) (fun q5 => 
              rsP PG0 MX d 29 14 [vR x0, vR x1, vI (x2 + 1), vU] [] q5.2)) none))) none)) none) none)) none)) none :=
  blkE (cs := pgA_29) rfl [14, 88] 31 _ _ _ _
set_option maxRecDepth 100000 in
theorem sg_29_88 (d : Nat) (σ : HP) (x0 : Int) (u1 u2 u3 : MV) : rsP PG0 MX d 29 88 [vR x0, u1, u2, u3] [] σ =
    cnd (32 ≤ x0 ∧ x0 < σ (-1) 0 ∧ σ x0 (-1) = 5) (cnd (wr (σ x0 4) ≠ 0)
      (some (0, σ))
      (cnd (0 < x0 ∧ x0 < σ (-1) 0 ∧ σ x0 (-1) = 5) (bnd (clR PG0 MX d 18 [vR x0] σ) (fun q1 => 
      some (0, q1.2))) none)) none :=
  blkE (cs := pgA_29) rfl [14, 88] 7 _ _ _ _
/-- OneAtATime$BitList.hasBit(I)Z -/
theorem ce_30 (d : Nat) (σ : HP) (x0 x1 : Int) : clR PG0 MX (d + 1) 30 [vR x0, vI x1] σ = rsP PG0 MX d 30 0 [vR x0, vI x1] [] σ := rfl
set_option maxRecDepth 100000 in
theorem sg_30_0 (d : Nat) (σ : HP) (x0 x1 : Int) : rsP PG0 MX d 30 0 [vR x0, vI x1] [] σ =
    cnd (wr x1 < 0)
      (some (0, σ))
      (cnd (32 ≤ x0 ∧ x0 < σ (-1) 0 ∧ σ x0 (-1) = 0) (cnd (wr (σ x0 3) ≤ wr x1)
        (some (0, σ))
        (some (1, σ))) none) :=
  blkE (cs := pgA_30) rfl [] 10 _ _ _ _
/-- OneAtATime$BitList.push(I)V -/
theorem ce_31 (d : Nat) (σ : HP) (x0 x1 : Int) : clR PG0 MX (d + 1) 31 [vR x0, vI x1] σ = rsP PG0 MX d 31 0 [vR x0, vI x1] [] σ := rfl
set_option maxRecDepth 100000 in
theorem sg_31_0 (d : Nat) (σ : HP) (x0 x1 : Int) : rsP PG0 MX d 31 0 [vR x0, vI x1] [] σ =
    cnd (32 ≤ x0 ∧ x0 < σ (-1) 0 ∧ σ x0 (-1) = 0) (cnd (wr 256 ≤ wr (σ x0 6))
      (some (0, σ))
      (cnd (0 < x0 ∧ x0 < σ (-1) 0 ∧ σ x0 (-1) = 0) (bnd (clR PG0 MX d 30 [vR x0, vI x1] σ) (fun q1 => 
      cnd (wr q1.1 = 0)
          (some (0, q1.2))
          (cnd (32 ≤ x0 ∧ x0 < q1.2 (-1) 0 ∧ q1.2 x0 (-1) = 0) (cnd (32 ≤ x0 ∧ x0 < q1.2 (-1) 0 ∧ q1.2 x0 (-1) = 0) (cnd (32 ≤ (q1.2 x0 0) ∧ (q1.2 x0 0) < q1.2 (-1) 0 ∧ q1.2 (q1.2 x0 0) (-1) = 20 ∧ 0 ≤ wr (q1.2 x0 6) ∧ wr (q1.2 x0 6) < q1.2 (q1.2 x0 0) (-2)) (cnd (32 ≤ x0 ∧ x0 < (up q1.2 (q1.2 x0 0) (wr (q1.2 x0 6)) x1) (-1) 0 ∧ (up q1.2 (q1.2 x0 0) (wr (q1.2 x0 6)) x1) x0 (-1) = 0) (cnd (32 ≤ x0 ∧ x0 < (up q1.2 (q1.2 x0 0) (wr (q1.2 x0 6)) x1) (-1) 0 ∧ (up q1.2 (q1.2 x0 0) (wr (q1.2 x0 6)) x1) x0 (-1) = 0) (cnd (32 ≤ x0 ∧ x0 < (up q1.2 (q1.2 x0 0) (wr (q1.2 x0 6)) x1) (-1) 0 ∧ (up q1.2 (q1.2 x0 0) (wr (q1.2 x0 6)) x1) x0 (-1) = 0) (cnd (32 ≤ x0 ∧ x0 < (up q1.2 (q1.2 x0 0) (wr (q1.2 x0 6)) x1) (-1) 0 ∧ (up q1.2 (q1.2 x0 0) (wr (q1.2 x0 6)) x1) x0 (-1) = 0) (cnd (0 < ((up q1.2 (q1.2 x0 0) (wr (q1.2 x0 6)) x1) x0 1) ∧ ((up q1.2 (q1.2 x0 0) (wr (q1.2 x0 6)) x1) x0 1) < (up q1.2 (q1.2 x0 0) (wr (q1.2 x0 6)) x1) (-1) 0 ∧ (up q1.2 (q1.2 x0 0) (wr (q1.2 x0 6)) x1) ((up q1.2 (q1.2 x0 0) (wr (q1.2 x0 6)) x1) x0 1) (-1) = 20 ∧ 0 ≤ wr ((up q1.2 (q1.2 x0 0) (wr (q1.2 x0 6)) x1) x0 6) ∧ wr ((up q1.2 (q1.2 x0 0) (wr (q1.2 x0 6)) x1) x0 6) < (up q1.2 (q1.2 x0 0) (wr (q1.2 x0 6)) x1) ((up q1.2 (q1.2 x0 0) (wr (q1.2 x0 6)) x1) x0 1) (-2)) (cnd (32 ≤ ((up q1.2 (q1.2 x0 0) (wr (q1.2 x0 6)) x1) x0 1) ∧ ((up q1.2 (q1.2 x0 0) (wr (q1.2 x0 6)) x1) x0 1) < (up q1.2 (q1.2 x0 0) (wr (q1.2 x0 6)) x1) (-1) 0 ∧ (up q1.2 (q1.2 x0 0) (wr (q1.2 x0 6)) x1) ((up q1.2 (q1.2 x0 0) (wr (q1.2 x0 6)) x1) x0 1) (-1) = 20 ∧ 0 ≤ wr (((up q1.2 (q1.2 x0 0) (wr (q1.2 x0 6)) x1) x0 6) + 1) ∧ wr (((up q1.2 (q1.2 x0 0) (wr (q1.2 x0 6)) x1) x0 6) + 1) < (up q1.2 (q1.2 x0 0) (wr (q1.2 x0 6)) x1) ((up q1.2 (q1.2 x0 0) (wr (q1.2 x0 6)) x1) x0 1) (-2)) (rsP PG0 MX d 31 52 [vR x0, vI x1] [] (up (up q1.2 (q1.2 x0 0) (wr (q1.2 x0 6)) x1) ((up q1.2 (q1.2 x0 0) (wr (q1.2 x0 6)) x1) x0 1) (wr (((up q1.2 (q1.2 x0 0) (wr (q1.2 x0 6)) x1) x0 6) + 1)) (i_xor ((up q1.2 (q1.2 x0 0) (wr (q1.2 x0 6)) x1) ((up q1.2 (q1.2 x0 0) (wr (q1.2 x0 6)) x1) x0 1) (wr ((up q1.2 (q1.2 x0 0) (wr (q1.2 x0 6)) x1) x0 6))) (i_shl 1 x1)))) none) none) none) none) none) none) none) none) none))) none)) none :=
  blkE (cs := pgA_31) rfl [52] 32 _ _ _ _
set_option maxRecDepth 100000 in
theorem sg_31_52 (d : Nat) (σ : HP) (x0 x1 : Int) : rsP PG0 MX d 31 52 [vR x0, vI x1] [] σ =
    cnd (32 ≤ x0 ∧ x0 < σ (-1) 0 ∧ σ x0 (-1) = 0) (cnd (32 ≤ x0 ∧ x0 < σ (-1) 0 ∧ σ x0 (-1) = 0) (some (0, up σ x0 6 ((σ x0 6) + 1))) none) none :=
  blkE (cs := pgA_31) rfl [52] 8 _ _ _ _
/-- OneAtATime.settle(I)I -/
theorem ce_32 (d : Nat) (σ : HP) (x0 x1 : Int) : clR PG0 MX (d + 1) 32 [vR x0, vI x1] σ = rsP PG0 MX d 32 0 [vR x0, vI x1, vU] [] σ := rfl
set_option maxRecDepth 100000 in
theorem sg_32_0 (d : Nat) (σ : HP) (x0 x1 : Int) : rsP PG0 MX d 32 0 [vR x0, vI x1, vU] [] σ =
    cnd (32 ≤ x0 ∧ x0 < σ (-1) 0 ∧ σ x0 (-1) = 8) (cnd (32 ≤ (σ x0 0) ∧ (σ x0 0) < σ (-1) 0 ∧ σ (σ x0 0) (-1) = 23 ∧ 0 ≤ wr x1 ∧ wr x1 < σ (σ x0 0) (-2)) (cnd (32 ≤ x0 ∧ x0 < σ (-1) 0 ∧ σ x0 (-1) = 8) (cnd (0 < (σ (σ x0 0) (wr x1)) ∧ (σ (σ x0 0) (wr x1)) < σ (-1) 0 ∧ σ (σ (σ x0 0) (wr x1)) (-1) = 0) (bnd (clR PG0 MX d 33 [vR (σ (σ x0 0) (wr x1)), vR (σ x0 1)] σ) (fun q1 => 
    cnd (wr q1.1 ≠ 0)
        (cnd (32 ≤ (σ (σ x0 0) (wr x1)) ∧ (σ (σ x0 0) (wr x1)) < q1.2 (-1) 0 ∧ q1.2 (σ (σ x0 0) (wr x1)) (-1) = 0) (some (q1.2 (σ (σ x0 0) (wr x1)) 6, q1.2)) none)
        (cnd (32 ≤ x0 ∧ x0 < q1.2 (-1) 0 ∧ q1.2 x0 (-1) = 8) (cnd (0 < (q1.2 x0 2) ∧ (q1.2 x0 2) < q1.2 (-1) 0 ∧ q1.2 (q1.2 x0 2) (-1) = 3) (bnd (clR PG0 MX d 34 [vR (q1.2 x0 2), vI x1, vR (σ (σ x0 0) (wr x1))] q1.2) (fun q2 => 
        cnd (32 ≤ x0 ∧ x0 < q2.2 (-1) 0 ∧ q2.2 x0 (-1) = 8) (cnd (0 < (σ (σ x0 0) (wr x1)) ∧ (σ (σ x0 0) (wr x1)) < q2.2 (-1) 0 ∧ q2.2 (σ (σ x0 0) (wr x1)) (-1) = 0) (bnd (clR PG0 MX d 35 [vR (σ (σ x0 0) (wr x1)), vR (q2.2 x0 1)] q2.2) (fun q3 => 
          cnd (32 ≤ (σ (σ x0 0) (wr x1)) ∧ (σ (σ x0 0) (wr x1)) < q3.2 (-1) 0 ∧ q3.2 (σ (σ x0 0) (wr x1)) (-1) = 0) (some (q3.2 (σ (σ x0 0) (wr x1)) 6, q3.2)) none)) none) none)) none) none))) none) none) none) none :=
  blkE (cs := pgA_32) rfl [] 23 _ _ _ _
/-- OneAtATime$BitList.matches(LOneAtATime$BitList;)Z -/
theorem ce_33 (d : Nat) (σ : HP) (x0 x1 : Int) : clR PG0 MX (d + 1) 33 [vR x0, vR x1] σ = rsP PG0 MX d 33 0 [vR x0, vR x1, vU] [] σ := rfl
set_option maxRecDepth 100000 in
theorem sg_33_0 (d : Nat) (σ : HP) (x0 x1 : Int) : rsP PG0 MX d 33 0 [vR x0, vR x1, vU] [] σ =
    cnd (32 ≤ x0 ∧ x0 < σ (-1) 0 ∧ σ x0 (-1) = 0) (cnd (32 ≤ x1 ∧ x1 < σ (-1) 0 ∧ σ x1 (-1) = 0) (cnd (wr (σ x0 2) ≠ wr (σ x1 2))
      (some (0, σ))
      (cnd (32 ≤ x0 ∧ x0 < σ (-1) 0 ∧ σ x0 (-1) = 0) (cnd (32 ≤ x1 ∧ x1 < σ (-1) 0 ∧ σ x1 (-1) = 0) (cnd (wr (σ x0 3) ≠ wr (σ x1 3))
        (some (0, σ))
        (cnd (32 ≤ x0 ∧ x0 < σ (-1) 0 ∧ σ x0 (-1) = 0) (cnd (32 ≤ x1 ∧ x1 < σ (-1) 0 ∧ σ x1 (-1) = 0) (cnd (wr (σ x0 6) = wr (σ x1 6))
          (cnd (32 ≤ x0 ∧ x0 < σ (-1) 0 ∧ σ x0 (-1) = 0) (cnd (32 ≤ x1 ∧ x1 < σ (-1) 0 ∧ σ x1 (-1) = 0) (cnd (wr (σ x0 4) ≠ wr (σ x1 4))
            (some (0, σ))
            (cnd (32 ≤ x0 ∧ x0 < σ (-1) 0 ∧ σ x0 (-1) = 0) (cnd (32 ≤ x1 ∧ x1 < σ (-1) 0 ∧ σ x1 (-1) = 0) (cnd (wr (σ x0 5) ≠ wr (σ x1 5))
              (some (0, σ))
              (cnd (32 ≤ x0 ∧ x0 < σ (-1) 0 ∧ σ x0 (-1) = 0) (cnd (0 < (σ x0 1) ∧ (σ x0 1) < σ (-1) 0 ∧ σ (σ x0 1) (-1) = 20 ∧ 0 ≤ wr 0 ∧ wr 0 < σ (σ x0 1) (-2)) (cnd (32 ≤ x1 ∧ x1 < σ (-1) 0 ∧ σ x1 (-1) = 0) (cnd (0 < (σ x1 1) ∧ (σ x1 1) < σ (-1) 0 ∧ σ (σ x1 1) (-1) = 20 ∧ 0 ≤ wr 0 ∧ wr 0 < σ (σ x1 1) (-2)) (cnd (wr (σ (σ x0 1) (wr 0)) = wr (σ (σ x1 1) (wr 0)))
                (rsP PG0 MX d 33 76 [vR x0, vR x1, vI 0] [] σ)
                (some (0, σ))) none) none) none) none)) none) none)) none) none)
          (some (0, σ))) none) none)) none) none)) none) none :=
  blkE (cs := pgA_33) rfl [76] 38 _ _ _ _
set_option maxRecDepth 100000 in
theorem sg_33_76 (d : Nat) (σ : HP) (x0 x1 x2 : Int) : rsP PG0 MX d 33 76 [vR x0, vR x1, vI x2] [] σ =
    cnd (32 ≤ x0 ∧ x0 < σ (-1) 0 ∧ σ x0 (-1) = 0) (cnd (wr (σ x0 6) ≤ wr x2)
      (some (1, σ))
      (cnd (32 ≤ x0 ∧ x0 < σ (-1) 0 ∧ σ x0 (-1) = 0) (cnd (0 < (σ x0 0) ∧ (σ x0 0) < σ (-1) 0 ∧ σ (σ x0 0) (-1) = 20 ∧ 0 ≤ wr x2 ∧ wr x2 < σ (σ x0 0) (-2)) (cnd (32 ≤ x1 ∧ x1 < σ (-1) 0 ∧ σ x1 (-1) = 0) (cnd (0 < (σ x1 0) ∧ (σ x1 0) < σ (-1) 0 ∧ σ (σ x1 0) (-1) = 20 ∧ 0 ≤ wr x2 ∧ wr x2 < σ (σ x1 0) (-2)) (cnd (wr (σ (σ x0 0) (wr x2)) = wr (σ (σ x1 0) (wr x2)))
        (rsP PG0 MX d 33 76 [vR x0, vR x1, vI (x2 + 1)] [] σ)
        (some (0, σ))) none) none) none) none)) none :=
  blkE (cs := pgA_33) rfl [76] 17 _ _ _ _
/-- OneAtATime$History.keep(ILOneAtATime$BitList;)V -/
theorem ce_34 (d : Nat) (σ : HP) (x0 x1 x2 : Int) : clR PG0 MX (d + 1) 34 [vR x0, vI x1, vR x2] σ = rsP PG0 MX d 34 0 [vR x0, vI x1, vR x2] [] σ := rfl
set_option maxRecDepth 100000 in
theorem sg_34_0 (d : Nat) (σ : HP) (x0 x1 x2 : Int) : rsP PG0 MX d 34 0 [vR x0, vI x1, vR x2] [] σ =
    cnd (32 ≤ x0 ∧ x0 < σ (-1) 0 ∧ σ x0 (-1) = 3) (cnd (32 ≤ x0 ∧ x0 < σ (-1) 0 ∧ σ x0 (-1) = 3) (cnd (32 ≤ (σ x0 0) ∧ (σ x0 0) < σ (-1) 0 ∧ σ (σ x0 0) (-1) = 23 ∧ 0 ≤ wr (σ x0 2) ∧ wr (σ x0 2) < σ (σ x0 0) (-2)) (cnd (0 < (σ (σ x0 0) (wr (σ x0 2))) ∧ (σ (σ x0 0) (wr (σ x0 2))) < σ (-1) 0 ∧ σ (σ (σ x0 0) (wr (σ x0 2))) (-1) = 0) (bnd (clR PG0 MX d 35 [vR (σ (σ x0 0) (wr (σ x0 2))), vR x2] σ) (fun q1 => 
    cnd (32 ≤ x0 ∧ x0 < q1.2 (-1) 0 ∧ q1.2 x0 (-1) = 3) (cnd (32 ≤ x0 ∧ x0 < q1.2 (-1) 0 ∧ q1.2 x0 (-1) = 3) (cnd (32 ≤ (q1.2 x0 1) ∧ (q1.2 x0 1) < q1.2 (-1) 0 ∧ q1.2 (q1.2 x0 1) (-1) = 20 ∧ 0 ≤ wr (q1.2 x0 2) ∧ wr (q1.2 x0 2) < q1.2 (q1.2 x0 1) (-2)) (cnd (32 ≤ x0 ∧ x0 < (up q1.2 (q1.2 x0 1) (wr (q1.2 x0 2)) x1) (-1) 0 ∧ (up q1.2 (q1.2 x0 1) (wr (q1.2 x0 2)) x1) x0 (-1) = 3) (cnd (wr (((up q1.2 (q1.2 x0 1) (wr (q1.2 x0 2)) x1) x0 2) + 1) ≠ wr 10)
        (cnd (32 ≤ x0 ∧ x0 < (up q1.2 (q1.2 x0 1) (wr (q1.2 x0 2)) x1) (-1) 0 ∧ (up q1.2 (q1.2 x0 1) (wr (q1.2 x0 2)) x1) x0 (-1) = 3) (rsP PG0 MX d 34 45 [vR x0, vI x1, vR x2] [vI (((up q1.2 (q1.2 x0 1) (wr (q1.2 x0 2)) x1) x0 2) + 1), vR x0] (up q1.2 (q1.2 x0 1) (wr (q1.2 x0 2)) x1)) none)
        (rsP PG0 MX d 34 45 [vR x0, vI x1, vR x2] [vI 0, vR x0] (up q1.2 (q1.2 x0 1) (wr (q1.2 x0 2)) x1))) none) none) none) none)) none) none) none) none :=
  blkE (cs := pgA_34) rfl [45] 26 _ _ _ _
set_option maxRecDepth 100000 in
theorem sg_34_45 (d : Nat) (σ : HP) (x0 x1 x2 y0 y1 : Int) : rsP PG0 MX d 34 45 [vR x0, vI x1, vR x2] [vI y1, vR y0] σ =
    cnd (32 ≤ y0 ∧ y0 < σ (-1) 0 ∧ σ y0 (-1) = 3) (cnd (32 ≤ x0 ∧ x0 < (up σ y0 2 y1) (-1) 0 ∧ (up σ y0 2 y1) x0 (-1) = 3) (bnd (clR PG0 MX d 1005 [vI (((up σ y0 2 y1) x0 3) + 1), vI 10] (up σ y0 2 y1)) (fun q1 => 
    cnd (32 ≤ x0 ∧ x0 < q1.2 (-1) 0 ∧ q1.2 x0 (-1) = 3) (some (0, up q1.2 x0 3 q1.1)) none)) none) none :=
  blkE (cs := pgA_34) rfl [45] 11 _ _ _ _
/-- OneAtATime$BitList.copyFrom(LOneAtATime$BitList;)V -/
theorem ce_35 (d : Nat) (σ : HP) (x0 x1 : Int) : clR PG0 MX (d + 1) 35 [vR x0, vR x1] σ = rsP PG0 MX d 35 0 [vR x0, vR x1] [] σ := rfl
set_option maxRecDepth 100000 in
theorem sg_35_0 (d : Nat) (σ : HP) (x0 x1 : Int) : rsP PG0 MX d 35 0 [vR x0, vR x1] [] σ =
    cnd (32 ≤ x1 ∧ x1 < σ (-1) 0 ∧ σ x1 (-1) = 0) (bif decide (σ x1 2 = 0 ∨ σ x1 2 = 1) && decide (32 ≤ x0 ∧ x0 < σ (-1) 0 ∧ σ x0 (-1) = 0) then cnd (32 ≤ x1 ∧ x1 < (up σ x0 2 (σ x1 2)) (-1) 0 ∧ (up σ x0 2 (σ x1 2)) x1 (-1) = 0) (cnd (32 ≤ x0 ∧ x0 < (up σ x0 2 (σ x1 2)) (-1) 0 ∧ (up σ x0 2 (σ x1 2)) x0 (-1) = 0) (cnd (32 ≤ x1 ∧ x1 < (up (up σ x0 2 (σ x1 2)) x0 3 ((up σ x0 2 (σ x1 2)) x1 3)) (-1) 0 ∧ (up (up σ x0 2 (σ x1 2)) x0 3 ((up σ x0 2 (σ x1 2)) x1 3)) x1 (-1) = 0) (cnd (32 ≤ x0 ∧ x0 < (up (up σ x0 2 (σ x1 2)) x0 3 ((up σ x0 2 (σ x1 2)) x1 3)) (-1) 0 ∧ (up (up σ x0 2 (σ x1 2)) x0 3 ((up σ x0 2 (σ x1 2)) x1 3)) x0 (-1) = 0) (rsP PG0 MX d 35 24 [vR x0, vR x1] [] (up (up (up σ x0 2 (σ x1 2)) x0 3 ((up σ x0 2 (σ x1 2)) x1 3)) x0 4 ((up (up σ x0 2 (σ x1 2)) x0 3 ((up σ x0 2 (σ x1 2)) x1 3)) x1 4))) none) none) none) none else none) none :=
  blkE (cs := pgA_35) rfl [24] 14 _ _ _ _
set_option maxRecDepth 100000 in
theorem sg_35_24 (d : Nat) (σ : HP) (x0 x1 : Int) : rsP PG0 MX d 35 24 [vR x0, vR x1] [] σ =
    cnd (32 ≤ x1 ∧ x1 < σ (-1) 0 ∧ σ x1 (-1) = 0) (cnd (32 ≤ x0 ∧ x0 < σ (-1) 0 ∧ σ x0 (-1) = 0) (cnd (32 ≤ x1 ∧ x1 < (up σ x0 5 (σ x1 5)) (-1) 0 ∧ (up σ x0 5 (σ x1 5)) x1 (-1) = 0) (cnd (32 ≤ x0 ∧ x0 < (up σ x0 5 (σ x1 5)) (-1) 0 ∧ (up σ x0 5 (σ x1 5)) x0 (-1) = 0) (cnd (32 ≤ x1 ∧ x1 < (up (up σ x0 5 (σ x1 5)) x0 6 ((up σ x0 5 (σ x1 5)) x1 6)) (-1) 0 ∧ (up (up σ x0 5 (σ x1 5)) x0 6 ((up σ x0 5 (σ x1 5)) x1 6)) x1 (-1) = 0) (cnd (32 ≤ x0 ∧ x0 < (up (up σ x0 5 (σ x1 5)) x0 6 ((up σ x0 5 (σ x1 5)) x1 6)) (-1) 0 ∧ (up (up σ x0 5 (σ x1 5)) x0 6 ((up σ x0 5 (σ x1 5)) x1 6)) x0 (-1) = 0) (cnd (32 ≤ x1 ∧ x1 < (up (up σ x0 5 (σ x1 5)) x0 6 ((up σ x0 5 (σ x1 5)) x1 6)) (-1) 0 ∧ (up (up σ x0 5 (σ x1 5)) x0 6 ((up σ x0 5 (σ x1 5)) x1 6)) x1 (-1) = 0) (bnd (clR PG0 MX d 1002 [vR ((up (up σ x0 5 (σ x1 5)) x0 6 ((up σ x0 5 (σ x1 5)) x1 6)) x1 0), vI 0, vR ((up (up σ x0 5 (σ x1 5)) x0 6 ((up σ x0 5 (σ x1 5)) x1 6)) x0 0), vI 0, vI ((up (up σ x0 5 (σ x1 5)) x0 6 ((up σ x0 5 (σ x1 5)) x1 6)) x1 6)] (up (up σ x0 5 (σ x1 5)) x0 6 ((up σ x0 5 (σ x1 5)) x1 6))) (fun q1 => 
    cnd (32 ≤ x1 ∧ x1 < q1.2 (-1) 0 ∧ q1.2 x1 (-1) = 0) (cnd (32 ≤ x0 ∧ x0 < q1.2 (-1) 0 ∧ q1.2 x0 (-1) = 0) (cnd (32 ≤ x1 ∧ x1 < q1.2 (-1) 0 ∧ q1.2 x1 (-1) = 0) (bnd (clR PG0 MX d 1002 [vR (q1.2 x1 1), vI 0, vR (q1.2 x0 1), vI 0, vI ((q1.2 x1 6) + 1)] q1.2) (fun q2 => 
      some (0, q2.2))) none) none) none)) none) none) none) none) none) none) none :=
  blkE (cs := pgA_35) rfl [24] 30 _ _ _ _
/-- OneAtATime.fault(I)I -/
theorem ce_37 (d : Nat) (σ : HP) (x0 x1 : Int) : clR PG0 MX (d + 1) 37 [vR x0, vI x1] σ = rsP PG0 MX d 37 0 [vR x0, vI x1] [] σ := rfl
set_option maxRecDepth 100000 in
theorem sg_37_0 (d : Nat) (σ : HP) (x0 x1 : Int) : rsP PG0 MX d 37 0 [vR x0, vI x1] [] σ =
    cnd (wr x1 = 0)
      (cnd (32 ≤ x0 ∧ x0 < σ (-1) 0 ∧ σ x0 (-1) = 8) (cnd (32 ≤ (σ x0 3) ∧ (σ x0 3) < σ (-1) 0 ∧ σ (σ x0 3) (-1) = 5) (some (σ (σ x0 3) 4, σ)) none) none)
      (cnd (wr x1 = 1)
      (cnd (32 ≤ x0 ∧ x0 < σ (-1) 0 ∧ σ x0 (-1) = 8) (cnd (32 ≤ (σ x0 3) ∧ (σ x0 3) < σ (-1) 0 ∧ σ (σ x0 3) (-1) = 5) (some (σ (σ x0 3) 5, σ)) none) none)
      (some ((-1), σ))) :=
  blkE (cs := pgA_37) rfl [] 7 _ _ _ _
/-- OneAtATime.count(I)I -/
theorem ce_38 (d : Nat) (σ : HP) (x0 x1 : Int) : clR PG0 MX (d + 1) 38 [vR x0, vI x1] σ = rsP PG0 MX d 38 0 [vR x0, vI x1] [] σ := rfl
set_option maxRecDepth 100000 in
theorem sg_38_0 (d : Nat) (σ : HP) (x0 x1 : Int) : rsP PG0 MX d 38 0 [vR x0, vI x1] [] σ =
    cnd (wr x1 = 0)
      (cnd (0 < x0 ∧ x0 < σ (-1) 0 ∧ σ x0 (-1) = 8) (bnd (clR PG0 MX d 39 [vR x0] σ) (fun q1 => 
      some (q1.1, q1.2))) none)
      (cnd (wr x1 = 1)
      (cnd (32 ≤ x0 ∧ x0 < σ (-1) 0 ∧ σ x0 (-1) = 8) (cnd (32 ≤ (σ x0 2) ∧ (σ x0 2) < σ (-1) 0 ∧ σ (σ x0 2) (-1) = 3) (some (σ (σ x0 2) 3, σ)) none) none)
      (cnd (wr x1 = 2)
      (cnd (32 ≤ x0 ∧ x0 < σ (-1) 0 ∧ σ x0 (-1) = 8) (cnd (32 ≤ (σ x0 3) ∧ (σ x0 3) < σ (-1) 0 ∧ σ (σ x0 3) (-1) = 5) (cnd (32 ≤ (σ (σ x0 3) 0) ∧ (σ (σ x0 3) 0) < σ (-1) 0 ∧ σ (σ (σ x0 3) 0) (-1) = 1) (some (σ (σ (σ x0 3) 0) 1, σ)) none) none) none)
      (cnd (wr x1 = 3)
      (cnd (32 ≤ x0 ∧ x0 < σ (-1) 0 ∧ σ x0 (-1) = 8) (cnd (32 ≤ (σ x0 4) ∧ (σ x0 4) < σ (-1) 0 ∧ σ (σ x0 4) (-1) = 1) (some (σ (σ x0 4) 1, σ)) none) none)
      (some ((-1), σ))))) :=
  blkE (cs := pgA_38) rfl [] 8 _ _ _ _
/-- OneAtATime.slotsAsBits()I -/
theorem ce_39 (d : Nat) (σ : HP) (x0 : Int) : clR PG0 MX (d + 1) 39 [vR x0] σ = rsP PG0 MX d 39 0 [vR x0, vU, vU] [] σ := rfl
set_option maxRecDepth 100000 in
theorem sg_39_0 (d : Nat) (σ : HP) (x0 : Int) : rsP PG0 MX d 39 0 [vR x0, vU, vU] [] σ =
    rsP PG0 MX d 39 4 [vR x0, vI 0, vI 0] [] σ :=
  blkE (cs := pgA_39) rfl [4] 6 _ _ _ _
set_option maxRecDepth 100000 in
theorem sg_39_4 (d : Nat) (σ : HP) (x0 x1 x2 : Int) : rsP PG0 MX d 39 4 [vR x0, vI x1, vI x2] [] σ =
    cnd (wr 3 ≤ wr x2)
      (some (x1, σ))
      (cnd (32 ≤ x0 ∧ x0 < σ (-1) 0 ∧ σ x0 (-1) = 8) (cnd (32 ≤ (σ x0 0) ∧ (σ x0 0) < σ (-1) 0 ∧ σ (σ x0 0) (-1) = 23 ∧ 0 ≤ wr x2 ∧ wr x2 < σ (σ x0 0) (-2)) (cnd (32 ≤ (σ (σ x0 0) (wr x2)) ∧ (σ (σ x0 0) (wr x2)) < σ (-1) 0 ∧ σ (σ (σ x0 0) (wr x2)) (-1) = 0) (cnd (wr (σ (σ (σ x0 0) (wr x2)) 2) = 0)
        (rsP PG0 MX d 39 4 [vR x0, vI x1, vI (x2 + 1)] [] σ)
        (rsP PG0 MX d 39 4 [vR x0, vI (i_or x1 (i_shl 1 x2)), vI (x2 + 1)] [] σ)) none) none) none) :=
  blkE (cs := pgA_39) rfl [4] 19 _ _ _ _
/-- OneAtATime.look(II)I -/
theorem ce_40 (d : Nat) (σ : HP) (x0 x1 x2 : Int) : clR PG0 MX (d + 1) 40 [vR x0, vI x1, vI x2] σ = rsP PG0 MX d 40 0 [vR x0, vI x1, vI x2, vU] [] σ := rfl
set_option maxRecDepth 100000 in
theorem sg_40_0 (d : Nat) (σ : HP) (x0 x1 x2 : Int) : rsP PG0 MX d 40 0 [vR x0, vI x1, vI x2, vU] [] σ =
    cnd (0 < x0 ∧ x0 < σ (-1) 0 ∧ σ x0 (-1) = 8) (bnd (clR PG0 MX d 41 [vR x0, vI x1] σ) (fun q1 => 
    cnd (0 < q1.1)
        (cnd (wr x2 = 0)
          (cnd (32 ≤ q1.1 ∧ q1.1 < q1.2 (-1) 0 ∧ q1.2 q1.1 (-1) = 0) (some (q1.2 q1.1 3, q1.2)) none)
          (cnd (wr x2 = 1)
          (cnd (32 ≤ q1.1 ∧ q1.1 < q1.2 (-1) 0 ∧ q1.2 q1.1 (-1) = 0) (some (q1.2 q1.1 4, q1.2)) none)
          (cnd (wr x2 = 2)
          (cnd (32 ≤ q1.1 ∧ q1.1 < q1.2 (-1) 0 ∧ q1.2 q1.1 (-1) = 0) (some (q1.2 q1.1 5, q1.2)) none)
          (cnd (wr x2 = 3)
          (cnd (32 ≤ q1.1 ∧ q1.1 < q1.2 (-1) 0 ∧ q1.2 q1.1 (-1) = 0) (cnd (0 < (q1.2 q1.1 1) ∧ (q1.2 q1.1 1) < q1.2 (-1) 0 ∧ q1.2 (q1.2 q1.1 1) (-1) = 20 ∧ 0 ≤ wr 0 ∧ wr 0 < q1.2 (q1.2 q1.1 1) (-2)) (some (q1.2 (q1.2 q1.1 1) (wr 0), q1.2)) none) none)
          (cnd (wr x2 = 4)
          (cnd (32 ≤ q1.1 ∧ q1.1 < q1.2 (-1) 0 ∧ q1.2 q1.1 (-1) = 0) (some (q1.2 q1.1 6, q1.2)) none)
          (cnd (wr x2 = 5)
          (cnd (0 < q1.1 ∧ q1.1 < q1.2 (-1) 0 ∧ q1.2 q1.1 (-1) = 0) (bnd (clR PG0 MX d 42 [vR q1.1] q1.2) (fun q2 => 
          some (q2.1, q2.2))) none)
          (cnd (wr x2 = 6)
          (cnd (32 ≤ x0 ∧ x0 < q1.2 (-1) 0 ∧ q1.2 x0 (-1) = 8) (cnd (0 < (q1.2 x0 5) ∧ (q1.2 x0 5) < q1.2 (-1) 0 ∧ q1.2 (q1.2 x0 5) (-1) = 7) (bnd (clR PG0 MX d 44 [vR (q1.2 x0 5), vR q1.1] q1.2) (fun q3 => 
          some (q3.1, q3.2))) none) none)
          (cnd (wr x2 = 7)
          (cnd (0 < q1.1 ∧ q1.1 < q1.2 (-1) 0 ∧ q1.2 q1.1 (-1) = 0) (bnd (clR PG0 MX d 48 [vR q1.1] q1.2) (fun q4 => 
          some (q4.1, q4.2))) none)
          (some ((-2), q1.2))))))))))
        (some ((-2), q1.2)))) none :=
  blkE (cs := pgA_40) rfl [] 14 _ _ _ _
/-- OneAtATime.listIn(I)LOneAtATime$BitList; -/
theorem ce_41 (d : Nat) (σ : HP) (x0 x1 : Int) : clR PG0 MX (d + 1) 41 [vR x0, vI x1] σ = rsP PG0 MX d 41 0 [vR x0, vI x1] [] σ := rfl
set_option maxRecDepth 100000 in
theorem sg_41_0 (d : Nat) (σ : HP) (x0 x1 : Int) : rsP PG0 MX d 41 0 [vR x0, vI x1] [] σ =
    bnd (clR PG0 MX d 16 [vI x1] σ) (fun q1 => 
    cnd (wr q1.1 = 0)
        (some (0, q1.2))
        (cnd (32 ≤ x0 ∧ x0 < q1.2 (-1) 0 ∧ q1.2 x0 (-1) = 8) (cnd (32 ≤ (q1.2 x0 0) ∧ (q1.2 x0 0) < q1.2 (-1) 0 ∧ q1.2 (q1.2 x0 0) (-1) = 23 ∧ 0 ≤ wr x1 ∧ wr x1 < q1.2 (q1.2 x0 0) (-2)) (cnd (32 ≤ (q1.2 (q1.2 x0 0) (wr x1)) ∧ (q1.2 (q1.2 x0 0) (wr x1)) < q1.2 (-1) 0 ∧ q1.2 (q1.2 (q1.2 x0 0) (wr x1)) (-1) = 0) (cnd (wr (q1.2 (q1.2 (q1.2 x0 0) (wr x1)) 2) ≠ 0)
          (cnd (32 ≤ x0 ∧ x0 < q1.2 (-1) 0 ∧ q1.2 x0 (-1) = 8) (cnd (32 ≤ (q1.2 x0 0) ∧ (q1.2 x0 0) < q1.2 (-1) 0 ∧ q1.2 (q1.2 x0 0) (-1) = 23 ∧ 0 ≤ wr x1 ∧ wr x1 < q1.2 (q1.2 x0 0) (-2)) (some (q1.2 (q1.2 x0 0) (wr x1), q1.2)) none) none)
          (some (0, q1.2))) none) none) none)) :=
  blkE (cs := pgA_41) rfl [] 15 _ _ _ _
/-- OneAtATime$BitList.shown()I -/
theorem ce_42 (d : Nat) (σ : HP) (x0 : Int) : clR PG0 MX (d + 1) 42 [vR x0] σ = rsP PG0 MX d 42 0 [vR x0] [] σ := rfl
set_option maxRecDepth 100000 in
theorem sg_42_0 (d : Nat) (σ : HP) (x0 : Int) : rsP PG0 MX d 42 0 [vR x0] [] σ =
    cnd (0 < x0 ∧ x0 < σ (-1) 0 ∧ σ x0 (-1) = 0) (bnd (clR PG0 MX d 43 [vR x0] σ) (fun q1 => 
    cnd (wr q1.1 = 0)
        (cnd (32 ≤ x0 ∧ x0 < q1.2 (-1) 0 ∧ q1.2 x0 (-1) = 0) (some ((q1.2 x0 6) + 1, q1.2)) none)
        (cnd (32 ≤ x0 ∧ x0 < q1.2 (-1) 0 ∧ q1.2 x0 (-1) = 0) (some (q1.2 x0 6, q1.2)) none))) none :=
  blkE (cs := pgA_42) rfl [] 9 _ _ _ _
/-- OneAtATime$BitList.comesRound()Z -/
theorem ce_43 (d : Nat) (σ : HP) (x0 : Int) : clR PG0 MX (d + 1) 43 [vR x0] σ = rsP PG0 MX d 43 0 [vR x0] [] σ := rfl
set_option maxRecDepth 100000 in
theorem sg_43_0 (d : Nat) (σ : HP) (x0 : Int) : rsP PG0 MX d 43 0 [vR x0] [] σ =
    cnd (32 ≤ x0 ∧ x0 < σ (-1) 0 ∧ σ x0 (-1) = 0) (cnd (wr (σ x0 6) ≤ 0)
      (some (0, σ))
      (cnd (32 ≤ x0 ∧ x0 < σ (-1) 0 ∧ σ x0 (-1) = 0) (cnd (32 ≤ x0 ∧ x0 < σ (-1) 0 ∧ σ x0 (-1) = 0) (cnd (0 < (σ x0 1) ∧ (σ x0 1) < σ (-1) 0 ∧ σ (σ x0 1) (-1) = 20 ∧ 0 ≤ wr (σ x0 6) ∧ wr (σ x0 6) < σ (σ x0 1) (-2)) (cnd (32 ≤ x0 ∧ x0 < σ (-1) 0 ∧ σ x0 (-1) = 0) (cnd (0 < (σ x0 1) ∧ (σ x0 1) < σ (-1) 0 ∧ σ (σ x0 1) (-1) = 20 ∧ 0 ≤ wr 0 ∧ wr 0 < σ (σ x0 1) (-2)) (cnd (wr (σ (σ x0 1) (wr (σ x0 6))) ≠ wr (σ (σ x0 1) (wr 0)))
        (some (0, σ))
        (some (1, σ))) none) none) none) none) none)) none :=
  blkE (cs := pgA_43) rfl [] 17 _ _ _ _
/-- OneAtATime$Survey.unlikeWords(LOneAtATime$BitList;)I -/
theorem ce_44 (d : Nat) (σ : HP) (x0 x1 : Int) : clR PG0 MX (d + 1) 44 [vR x0, vR x1] σ = rsP PG0 MX d 44 0 [vR x0, vR x1, vU, vU] [] σ := rfl
set_option maxRecDepth 100000 in
theorem sg_44_0 (d : Nat) (σ : HP) (x0 x1 : Int) : rsP PG0 MX d 44 0 [vR x0, vR x1, vU, vU] [] σ =
    cnd (0 < x0 ∧ x0 < σ (-1) 0 ∧ σ x0 (-1) = 7) (bnd (clR PG0 MX d 45 [vR x0, vR x1] σ) (fun q1 => 
    rsP PG0 MX d 44 9 [vR x0, vR x1, vI 0, vI 0] [] q1.2)) none :=
  blkE (cs := pgA_44) rfl [9] 9 _ _ _ _
set_option maxRecDepth 100000 in
theorem sg_44_9 (d : Nat) (σ : HP) (x0 x1 x2 x3 : Int) : rsP PG0 MX d 44 9 [vR x0, vR x1, vI x2, vI x3] [] σ =
    cnd (0 < x1 ∧ x1 < σ (-1) 0 ∧ σ x1 (-1) = 0) (bnd (clR PG0 MX d 47 [vR x1] σ) (fun q1 => 
    cnd (wr q1.1 ≤ wr x3)
        (some (x2, q1.2))
        (cnd (32 ≤ x0 ∧ x0 < q1.2 (-1) 0 ∧ q1.2 x0 (-1) = 7) (cnd (0 < (q1.2 x0 0) ∧ (q1.2 x0 0) < q1.2 (-1) 0 ∧ q1.2 (q1.2 x0 0) (-1) = 20 ∧ 0 ≤ wr x3 ∧ wr x3 < q1.2 (q1.2 x0 0) (-2)) (cnd (wr (q1.2 (q1.2 x0 0) (wr x3)) ≤ 0)
          (rsP PG0 MX d 44 9 [vR x0, vR x1, vI x2, vI (x3 + 1)] [] q1.2)
          (rsP PG0 MX d 44 9 [vR x0, vR x1, vI (x2 + 1), vI (x3 + 1)] [] q1.2)) none) none))) none :=
  blkE (cs := pgA_44) rfl [9] 14 _ _ _ _
/-- OneAtATime$Survey.countShown(LOneAtATime$BitList;)V -/
theorem ce_45 (d : Nat) (σ : HP) (x0 x1 : Int) : clR PG0 MX (d + 1) 45 [vR x0, vR x1] σ = rsP PG0 MX d 45 0 [vR x0, vR x1, vU, vU] [] σ := rfl
set_option maxRecDepth 100000 in
theorem sg_45_0 (d : Nat) (σ : HP) (x0 x1 : Int) : rsP PG0 MX d 45 0 [vR x0, vR x1, vU, vU] [] σ =
    cnd (32 ≤ x0 ∧ x0 < σ (-1) 0 ∧ σ x0 (-1) = 7) (bnd (clR PG0 MX d 46 [vR (σ x0 0), vI 0] σ) (fun q1 => 
    cnd (0 < x1 ∧ x1 < q1.2 (-1) 0 ∧ q1.2 x1 (-1) = 0) (bnd (clR PG0 MX d 42 [vR x1] q1.2) (fun q2 => 
      rsP PG0 MX d 45 15 [vR x0, vR x1, vI q2.1, vI 0] [] q2.2)) none)) none :=
  blkE (cs := pgA_45) rfl [15, 47] 11 _ _ _ _
set_option maxRecDepth 100000 in
theorem sg_45_15 (d : Nat) (σ : HP) (x0 x1 x2 x3 : Int) : rsP PG0 MX d 45 15 [vR x0, vR x1, vI x2, vI x3] [] σ =
    cnd (wr x2 ≤ wr x3)
      (some (0, σ))
      (cnd (32 ≤ x0 ∧ x0 < σ (-1) 0 ∧ σ x0 (-1) = 7) (cnd (32 ≤ x1 ∧ x1 < σ (-1) 0 ∧ σ x1 (-1) = 0) (cnd (0 < (σ x1 1) ∧ (σ x1 1) < σ (-1) 0 ∧ σ (σ x1 1) (-1) = 20 ∧ 0 ≤ wr x3 ∧ wr x3 < σ (σ x1 1) (-2)) (cnd (0 < (σ x0 0) ∧ (σ x0 0) < σ (-1) 0 ∧ σ (σ x0 0) (-1) = 20 ∧ 0 ≤ wr (σ (σ x1 1) (wr x3)) ∧ wr (σ (σ x1 1) (wr x3)) < σ (σ x0 0) (-2)) (cnd (32 ≤ (σ x0 0) ∧ (σ x0 0) < σ (-1) 0 ∧ σ (σ x0 0) (-1) = 20 ∧ 0 ≤ wr (σ (σ x1 1) (wr x3)) ∧ wr (σ (σ x1 1) (wr x3)) < σ (σ x0 0) (-2)) (cnd (32 ≤ x0 ∧ x0 < (up σ (σ x0 0) (wr (σ (σ x1 1) (wr x3))) ((σ (σ x0 0) (wr (σ (σ x1 1) (wr x3)))) + 1)) (-1) 0 ∧ (up σ (σ x0 0) (wr (σ (σ x1 1) (wr x3))) ((σ (σ x0 0) (wr (σ (σ x1 1) (wr x3)))) + 1)) x0 (-1) = 7) (cnd (32 ≤ x1 ∧ x1 < (up σ (σ x0 0) (wr (σ (σ x1 1) (wr x3))) ((σ (σ x0 0) (wr (σ (σ x1 1) (wr x3)))) + 1)) (-1) 0 ∧ (up σ (σ x0 0) (wr (σ (σ x1 1) (wr x3))) ((σ (σ x0 0) (wr (σ (σ x1 1) (wr x3)))) + 1)) x1 (-1) = 0) (cnd (0 < ((up σ (σ x0 0) (wr (σ (σ x1 1) (wr x3))) ((σ (σ x0 0) (wr (σ (σ x1 1) (wr x3)))) + 1)) x1 1) ∧ ((up σ (σ x0 0) (wr (σ (σ x1 1) (wr x3))) ((σ (σ x0 0) (wr (σ (σ x1 1) (wr x3)))) + 1)) x1 1) < (up σ (σ x0 0) (wr (σ (σ x1 1) (wr x3))) ((σ (σ x0 0) (wr (σ (σ x1 1) (wr x3)))) + 1)) (-1) 0 ∧ (up σ (σ x0 0) (wr (σ (σ x1 1) (wr x3))) ((σ (σ x0 0) (wr (σ (σ x1 1) (wr x3)))) + 1)) ((up σ (σ x0 0) (wr (σ (σ x1 1) (wr x3))) ((σ (σ x0 0) (wr (σ (σ x1 1) (wr x3)))) + 1)) x1 1) (-1) = 20 ∧ 0 ≤ wr x3 ∧ wr x3 < (up σ (σ x0 0) (wr (σ (σ x1 1) (wr x3))) ((σ (σ x0 0) (wr (σ (σ x1 1) (wr x3)))) + 1)) ((up σ (σ x0 0) (wr (σ (σ x1 1) (wr x3))) ((σ (σ x0 0) (wr (σ (σ x1 1) (wr x3)))) + 1)) x1 1) (-2)) (cnd (32 ≤ ((up σ (σ x0 0) (wr (σ (σ x1 1) (wr x3))) ((σ (σ x0 0) (wr (σ (σ x1 1) (wr x3)))) + 1)) x0 1) ∧ ((up σ (σ x0 0) (wr (σ (σ x1 1) (wr x3))) ((σ (σ x0 0) (wr (σ (σ x1 1) (wr x3)))) + 1)) x0 1) < (up σ (σ x0 0) (wr (σ (σ x1 1) (wr x3))) ((σ (σ x0 0) (wr (σ (σ x1 1) (wr x3)))) + 1)) (-1) 0 ∧ (up σ (σ x0 0) (wr (σ (σ x1 1) (wr x3))) ((σ (σ x0 0) (wr (σ (σ x1 1) (wr x3)))) + 1)) ((up σ (σ x0 0) (wr (σ (σ x1 1) (wr x3))) ((σ (σ x0 0) (wr (σ (σ x1 1) (wr x3)))) + 1)) x0 1) (-1) = 20 ∧ 0 ≤ wr ((up σ (σ x0 0) (wr (σ (σ x1 1) (wr x3))) ((σ (σ x0 0) (wr (σ (σ x1 1) (wr x3)))) + 1)) ((up σ (σ x0 0) (wr (σ (σ x1 1) (wr x3))) ((σ (σ x0 0) (wr (σ (σ x1 1) (wr x3)))) + 1)) x1 1) (wr x3)) ∧ wr ((up σ (σ x0 0) (wr (σ (σ x1 1) (wr x3))) ((σ (σ x0 0) (wr (σ (σ x1 1) (wr x3)))) + 1)) ((up σ (σ x0 0) (wr (σ (σ x1 1) (wr x3))) ((σ (σ x0 0) (wr (σ (σ x1 1) (wr x3)))) + 1)) x1 1) (wr x3)) < (up σ (σ x0 0) (wr (σ (σ x1 1) (wr x3))) ((σ (σ x0 0) (wr (σ (σ x1 1) (wr x3)))) + 1)) ((up σ (σ x0 0) (wr (σ (σ x1 1) (wr x3))) ((σ (σ x0 0) (wr (σ (σ x1 1) (wr x3)))) + 1)) x0 1) (-2)) (rsP PG0 MX d 45 47 [vR x0, vR x1, vI x2, vI x3] [] (up (up σ (σ x0 0) (wr (σ (σ x1 1) (wr x3))) ((σ (σ x0 0) (wr (σ (σ x1 1) (wr x3)))) + 1)) ((up σ (σ x0 0) (wr (σ (σ x1 1) (wr x3))) ((σ (σ x0 0) (wr (σ (σ x1 1) (wr x3)))) + 1)) x0 1) (wr ((up σ (σ x0 0) (wr (σ (σ x1 1) (wr x3))) ((σ (σ x0 0) (wr (σ (σ x1 1) (wr x3)))) + 1)) ((up σ (σ x0 0) (wr (σ (σ x1 1) (wr x3))) ((σ (σ x0 0) (wr (σ (σ x1 1) (wr x3)))) + 1)) x1 1) (wr x3))) x3)) none) none) none) none) none) none) none) none) none) :=
  blkE (cs := pgA_45) rfl [15, 47] 24 _ _ _ _
set_option maxRecDepth 100000 in
theorem sg_45_47 (d : Nat) (σ : HP) (x0 x1 x2 x3 : Int) : rsP PG0 MX d 45 47 [vR x0, vR x1, vI x2, vI x3] [] σ =
    rsP PG0 MX d 45 15 [vR x0, vR x1, vI x2, vI (x3 + 1)] [] σ :=
  blkE (cs := pgA_45) rfl [15, 47] 4 _ _ _ _
/-- java/util/Arrays.fill([II)V -/
theorem ce_46 (d : Nat) (σ : HP) (x0 x1 : Int) : clR PG0 MX (d + 1) 46 [vR x0, vI x1] σ = rsP PG0 MX d 46 0 [vR x0, vI x1, vU, vU] [] σ := rfl
set_option maxRecDepth 100000 in
theorem sg_46_0 (d : Nat) (σ : HP) (x0 x1 : Int) : rsP PG0 MX d 46 0 [vR x0, vI x1, vU, vU] [] σ =
    cnd (0 < x0 ∧ x0 < σ (-1) 0 ∧ σ x0 (-1) = 20 ∧ 0 ≤ σ x0 (-2)) (rsP PG0 MX d 46 5 [vR x0, vI x1, vI 0, vI (σ x0 (-2))] [] σ) none :=
  blkE (cs := pgA_46) rfl [5] 7 _ _ _ _
set_option maxRecDepth 100000 in
theorem sg_46_5 (d : Nat) (σ : HP) (x0 x1 x2 x3 : Int) : rsP PG0 MX d 46 5 [vR x0, vI x1, vI x2, vI x3] [] σ =
    cnd (wr x3 ≤ wr x2)
      (some (0, σ))
      (cnd (32 ≤ x0 ∧ x0 < σ (-1) 0 ∧ σ x0 (-1) = 20 ∧ 0 ≤ wr x2 ∧ wr x2 < σ x0 (-2)) (rsP PG0 MX d 46 5 [vR x0, vI x1, vI (x2 + 1), vI x3] [] (up σ x0 (wr x2) x1)) none) :=
  blkE (cs := pgA_46) rfl [5] 11 _ _ _ _
/-- OneAtATime$BitList.allWords()I -/
theorem ce_47 (d : Nat) (σ : HP) (x0 : Int) : clR PG0 MX (d + 1) 47 [vR x0] σ = rsP PG0 MX d 47 0 [vR x0] [] σ := rfl
set_option maxRecDepth 100000 in
theorem sg_47_0 (d : Nat) (σ : HP) (x0 : Int) : rsP PG0 MX d 47 0 [vR x0] [] σ =
    cnd (32 ≤ x0 ∧ x0 < σ (-1) 0 ∧ σ x0 (-1) = 0) (some (i_shl 1 (σ x0 3), σ)) none :=
  blkE (cs := pgA_47) rfl [] 6 _ _ _ _
/-- OneAtATime$BitList.scopeSize()I -/
theorem ce_48 (d : Nat) (σ : HP) (x0 : Int) : clR PG0 MX (d + 1) 48 [vR x0] σ = rsP PG0 MX d 48 0 [vR x0, vU, vU] [] σ := rfl
set_option maxRecDepth 100000 in
theorem sg_48_0 (d : Nat) (σ : HP) (x0 : Int) : rsP PG0 MX d 48 0 [vR x0, vU, vU] [] σ =
    rsP PG0 MX d 48 4 [vR x0, vI 0, vI 0] [] σ :=
  blkE (cs := pgA_48) rfl [4] 6 _ _ _ _
set_option maxRecDepth 100000 in
theorem sg_48_4 (d : Nat) (σ : HP) (x0 x1 x2 : Int) : rsP PG0 MX d 48 4 [vR x0, vI x1, vI x2] [] σ =
    cnd (0 < x0 ∧ x0 < σ (-1) 0 ∧ σ x0 (-1) = 0) (bnd (clR PG0 MX d 47 [vR x0] σ) (fun q1 => 
    cnd (wr q1.1 ≤ wr x2)
        (some (x1, q1.2))
        (cnd (0 < x0 ∧ x0 < q1.2 (-1) 0 ∧ q1.2 x0 (-1) = 0) (bnd (clR PG0 MX d 49 [vR x0, vI x2] q1.2) (fun q2 => 
        cnd (wr q2.1 = 0)
            (rsP PG0 MX d 48 4 [vR x0, vI x1, vI (x2 + 1)] [] q2.2)
            (rsP PG0 MX d 48 4 [vR x0, vI (x1 + 1), vI (x2 + 1)] [] q2.2))) none))) none :=
  blkE (cs := pgA_48) rfl [4] 13 _ _ _ _
/-- OneAtATime$BitList.inScope(I)Z -/
theorem ce_49 (d : Nat) (σ : HP) (x0 x1 : Int) : clR PG0 MX (d + 1) 49 [vR x0, vI x1] σ = rsP PG0 MX d 49 0 [vR x0, vI x1, vU] [] σ := rfl
set_option maxRecDepth 100000 in
theorem sg_49_0 (d : Nat) (σ : HP) (x0 x1 : Int) : rsP PG0 MX d 49 0 [vR x0, vI x1, vU] [] σ =
    bnd (clR PG0 MX d 50 [vI x1] σ) (fun q1 => 
    cnd (32 ≤ x0 ∧ x0 < q1.2 (-1) 0 ∧ q1.2 x0 (-1) = 0) (cnd (wr q1.1 < wr (q1.2 x0 4))
        (some (0, q1.2))
        (cnd (32 ≤ x0 ∧ x0 < q1.2 (-1) 0 ∧ q1.2 x0 (-1) = 0) (cnd (wr (q1.2 x0 5) < wr q1.1)
          (some (0, q1.2))
          (some (1, q1.2))) none)) none) :=
  blkE (cs := pgA_49) rfl [] 15 _ _ _ _
/-- java/lang/Integer.bitCount(I)I -/
theorem ce_50 (d : Nat) (σ : HP) (x0 : Int) : clR PG0 MX (d + 1) 50 [vI x0] σ = rsP PG0 MX d 50 0 [vI x0] [] σ := rfl
set_option maxRecDepth 100000 in
theorem sg_50_0 (d : Nat) (σ : HP) (x0 : Int) : rsP PG0 MX d 50 0 [vI x0] [] σ =
    some (i_and (((i_and (((i_and (x0 - (i_and (i_ushr x0 1) 1431655765)) 858993459) + (i_and (i_ushr (x0 - (i_and (i_ushr x0 1) 1431655765)) 2) 858993459)) + (i_ushr ((i_and (x0 - (i_and (i_ushr x0 1) 1431655765)) 858993459) + (i_and (i_ushr (x0 - (i_and (i_ushr x0 1) 1431655765)) 2) 858993459)) 4)) 252645135) + (i_ushr (i_and (((i_and (x0 - (i_and (i_ushr x0 1) 1431655765)) 858993459) + (i_and (i_ushr (x0 - (i_and (i_ushr x0 1) 1431655765)) 2) 858993459)) + (i_ushr ((i_and (x0 - (i_and (i_ushr x0 1) 1431655765)) 858993459) + (i_and (i_ushr (x0 - (i_and (i_ushr x0 1) 1431655765)) 2) 858993459)) 4)) 252645135) 8)) + (i_ushr ((i_and (((i_and (x0 - (i_and (i_ushr x0 1) 1431655765)) 858993459) + (i_and (i_ushr (x0 - (i_and (i_ushr x0 1) 1431655765)) 2) 858993459)) + (i_ushr ((i_and (x0 - (i_and (i_ushr x0 1) 1431655765)) 858993459) + (i_and (i_ushr (x0 - (i_and (i_ushr x0 1) 1431655765)) 2) 858993459)) 4)) 252645135) + (i_ushr (i_and (((i_and (x0 - (i_and (i_ushr x0 1) 1431655765)) 858993459) + (i_and (i_ushr (x0 - (i_and (i_ushr x0 1) 1431655765)) 2) 858993459)) + (i_ushr ((i_and (x0 - (i_and (i_ushr x0 1) 1431655765)) 858993459) + (i_and (i_ushr (x0 - (i_and (i_ushr x0 1) 1431655765)) 2) 858993459)) 4)) 252645135) 8)) 16)) 63, σ) :=
  blkE (cs := pgA_50) rfl [] 43 _ _ _ _
/-- OneAtATime.is(II)I -/
theorem ce_51 (d : Nat) (σ : HP) (x0 x1 x2 : Int) : clR PG0 MX (d + 1) 51 [vR x0, vI x1, vI x2] σ = rsP PG0 MX d 51 0 [vR x0, vI x1, vI x2, vU] [] σ := rfl
set_option maxRecDepth 100000 in
theorem sg_51_0 (d : Nat) (σ : HP) (x0 x1 x2 : Int) : rsP PG0 MX d 51 0 [vR x0, vI x1, vI x2, vU] [] σ =
    cnd (0 < x0 ∧ x0 < σ (-1) 0 ∧ σ x0 (-1) = 8) (bnd (clR PG0 MX d 41 [vR x0, vI x1] σ) (fun q1 => 
    cnd (0 < q1.1)
        (cnd (wr x2 = 0)
          (cnd (0 < q1.1 ∧ q1.1 < q1.2 (-1) 0 ∧ q1.2 q1.1 (-1) = 0) (bnd (clR PG0 MX d 43 [vR q1.1] q1.2) (fun q2 => 
          bnd (clR PG0 MX d 52 [vI q2.1] q2.2) (fun q3 => 
            some (q3.1, q3.2)))) none)
          (cnd (wr x2 = 1)
          (cnd (32 ≤ x0 ∧ x0 < q1.2 (-1) 0 ∧ q1.2 x0 (-1) = 8) (cnd (0 < (q1.2 x0 5) ∧ (q1.2 x0 5) < q1.2 (-1) 0 ∧ q1.2 (q1.2 x0 5) (-1) = 7) (bnd (clR PG0 MX d 53 [vR (q1.2 x0 5), vR q1.1] q1.2) (fun q4 => 
          bnd (clR PG0 MX d 52 [vI q4.1] q4.2) (fun q5 => 
            some (q5.1, q5.2)))) none) none)
          (cnd (wr x2 = 2)
          (cnd (32 ≤ x0 ∧ x0 < q1.2 (-1) 0 ∧ q1.2 x0 (-1) = 8) (cnd (0 < (q1.2 x0 5) ∧ (q1.2 x0 5) < q1.2 (-1) 0 ∧ q1.2 (q1.2 x0 5) (-1) = 7) (bnd (clR PG0 MX d 54 [vR (q1.2 x0 5), vR q1.1] q1.2) (fun q6 => 
          bnd (clR PG0 MX d 52 [vI q6.1] q6.2) (fun q7 => 
            some (q7.1, q7.2)))) none) none)
          (cnd (wr x2 = 3)
          (bnd (clR PG0 MX d 55 [vR q1.1] q1.2) (fun q8 => 
          bnd (clR PG0 MX d 52 [vI q8.1] q8.2) (fun q9 => 
            some (q9.1, q9.2))))
          (cnd (wr x2 = 4)
          (cnd (32 ≤ x0 ∧ x0 < q1.2 (-1) 0 ∧ q1.2 x0 (-1) = 8) (cnd (0 < (q1.2 x0 5) ∧ (q1.2 x0 5) < q1.2 (-1) 0 ∧ q1.2 (q1.2 x0 5) (-1) = 7) (bnd (clR PG0 MX d 57 [vR (q1.2 x0 5), vR q1.1] q1.2) (fun q10 => 
          bnd (clR PG0 MX d 52 [vI q10.1] q10.2) (fun q11 => 
            some (q11.1, q11.2)))) none) none)
          (cnd (wr x2 = 5)
          (bnd (clR PG0 MX d 60 [vR q1.1] q1.2) (fun q12 => 
          bnd (clR PG0 MX d 52 [vI q12.1] q12.2) (fun q13 => 
            some (q13.1, q13.2))))
          (cnd (wr x2 = 6)
          (bnd (clR PG0 MX d 61 [vR q1.1] q1.2) (fun q14 => 
          bnd (clR PG0 MX d 52 [vI q14.1] q14.2) (fun q15 => 
            some (q15.1, q15.2))))
          (some ((-2), q1.2)))))))))
        (some ((-2), q1.2)))) none :=
  blkE (cs := pgA_51) rfl [] 15 _ _ _ _
/-- OneAtATime.asNumber(Z)I -/
theorem ce_52 (d : Nat) (σ : HP) (x0 : Int) : clR PG0 MX (d + 1) 52 [vI x0] σ = rsP PG0 MX d 52 0 [vI x0] [] σ := rfl
set_option maxRecDepth 100000 in
theorem sg_52_0 (d : Nat) (σ : HP) (x0 : Int) : rsP PG0 MX d 52 0 [vI x0] [] σ =
    cnd (wr x0 = 0)
      (some (0, σ))
      (some (1, σ)) :=
  blkE (cs := pgA_52) rfl [] 6 _ _ _ _
/-- OneAtATime$Survey.isClean(LOneAtATime$BitList;)Z -/
theorem ce_53 (d : Nat) (σ : HP) (x0 x1 : Int) : clR PG0 MX (d + 1) 53 [vR x0, vR x1] σ = rsP PG0 MX d 53 0 [vR x0, vR x1] [] σ := rfl
set_option maxRecDepth 100000 in
theorem sg_53_0 (d : Nat) (σ : HP) (x0 x1 : Int) : rsP PG0 MX d 53 0 [vR x0, vR x1] [] σ =
    cnd (0 < x0 ∧ x0 < σ (-1) 0 ∧ σ x0 (-1) = 7) (bnd (clR PG0 MX d 44 [vR x0, vR x1] σ) (fun q1 => 
    cnd (0 < x1 ∧ x1 < q1.2 (-1) 0 ∧ q1.2 x1 (-1) = 0) (bnd (clR PG0 MX d 42 [vR x1] q1.2) (fun q2 => 
      cnd (wr q1.1 ≠ wr q2.1)
          (some (0, q2.2))
          (some (1, q2.2)))) none)) none :=
  blkE (cs := pgA_53) rfl [] 10 _ _ _ _
/-- OneAtATime$Survey.isFull(LOneAtATime$BitList;)Z -/
theorem ce_54 (d : Nat) (σ : HP) (x0 x1 : Int) : clR PG0 MX (d + 1) 54 [vR x0, vR x1] σ = rsP PG0 MX d 54 0 [vR x0, vR x1, vU] [] σ := rfl
set_option maxRecDepth 100000 in
theorem sg_54_0 (d : Nat) (σ : HP) (x0 x1 : Int) : rsP PG0 MX d 54 0 [vR x0, vR x1, vU] [] σ =
    cnd (0 < x0 ∧ x0 < σ (-1) 0 ∧ σ x0 (-1) = 7) (bnd (clR PG0 MX d 45 [vR x0, vR x1] σ) (fun q1 => 
    rsP PG0 MX d 54 7 [vR x0, vR x1, vI 0] [] q1.2)) none :=
  blkE (cs := pgA_54) rfl [7, 34] 7 _ _ _ _
set_option maxRecDepth 100000 in
theorem sg_54_7 (d : Nat) (σ : HP) (x0 x1 x2 : Int) : rsP PG0 MX d 54 7 [vR x0, vR x1, vI x2] [] σ =
    cnd (0 < x1 ∧ x1 < σ (-1) 0 ∧ σ x1 (-1) = 0) (bnd (clR PG0 MX d 47 [vR x1] σ) (fun q1 => 
    cnd (wr q1.1 ≤ wr x2)
        (some (1, q1.2))
        (cnd (32 ≤ x0 ∧ x0 < q1.2 (-1) 0 ∧ q1.2 x0 (-1) = 7) (cnd (0 < (q1.2 x0 0) ∧ (q1.2 x0 0) < q1.2 (-1) 0 ∧ q1.2 (q1.2 x0 0) (-1) = 20 ∧ 0 ≤ wr x2 ∧ wr x2 < q1.2 (q1.2 x0 0) (-2)) (cnd (0 < x1 ∧ x1 < q1.2 (-1) 0 ∧ q1.2 x1 (-1) = 0) (bnd (clR PG0 MX d 49 [vR x1, vI x2] q1.2) (fun q2 => 
        cnd (wr q2.1 = 0)
            (rsP PG0 MX d 54 34 [vR x0, vR x1, vI x2] [vI 0, vI (q1.2 (q1.2 x0 0) (wr x2))] q2.2)
            (rsP PG0 MX d 54 34 [vR x0, vR x1, vI x2] [vI 1, vI (q1.2 (q1.2 x0 0) (wr x2))] q2.2))) none) none) none))) none :=
  blkE (cs := pgA_54) rfl [7, 34] 16 _ _ _ _
set_option maxRecDepth 100000 in
theorem sg_54_34 (d : Nat) (σ : HP) (x0 x1 x2 y0 y1 : Int) : rsP PG0 MX d 54 34 [vR x0, vR x1, vI x2] [vI y1, vI y0] σ =
    cnd (wr y0 = wr y1)
      (rsP PG0 MX d 54 7 [vR x0, vR x1, vI (x2 + 1)] [] σ)
      (some (0, σ)) :=
  blkE (cs := pgA_54) rfl [7, 34] 5 _ _ _ _
/-- OneAtATime$Survey.isMonotone(LOneAtATime$BitList;)Z -/
theorem ce_55 (d : Nat) (σ : HP) (x0 : Int) : clR PG0 MX (d + 1) 55 [vR x0] σ = rsP PG0 MX d 55 0 [vR x0, vU, vU, vU] [] σ := rfl
set_option maxRecDepth 100000 in
theorem sg_55_0 (d : Nat) (σ : HP) (x0 : Int) : rsP PG0 MX d 55 0 [vR x0, vU, vU, vU] [] σ =
    rsP PG0 MX d 55 4 [vR x0, vI 0, vI 0, vU] [] σ :=
  blkE (cs := pgA_55) rfl [4] 6 _ _ _ _
set_option maxRecDepth 100000 in
theorem sg_55_4 (d : Nat) (σ : HP) (x0 x1 x2 : Int) (u3 : MV) : rsP PG0 MX d 55 4 [vR x0, vI x1, vI x2, u3] [] σ =
    cnd (32 ≤ x0 ∧ x0 < σ (-1) 0 ∧ σ x0 (-1) = 0) (cnd (wr (σ x0 6) ≤ wr x2)
      (some (1, σ))
      (cnd (0 < x0 ∧ x0 < σ (-1) 0 ∧ σ x0 (-1) = 0) (bnd (clR PG0 MX d 56 [vR x0, vI x2] σ) (fun q1 => 
      cnd (wr x1 < wr (q1.1 + 2))
          (bnd (clR PG0 MX d 1004 [vI x1, vI q1.1] q1.2) (fun q2 => 
          rsP PG0 MX d 55 4 [vR x0, vI q2.1, vI (x2 + 1), vI q1.1] [] q2.2))
          (some (0, q1.2)))) none)) none :=
  blkE (cs := pgA_55) rfl [4] 21 _ _ _ _
/-- OneAtATime$BitList.rungOf(I)I -/
theorem ce_56 (d : Nat) (σ : HP) (x0 x1 : Int) : clR PG0 MX (d + 1) 56 [vR x0, vI x1] σ = rsP PG0 MX d 56 0 [vR x0, vI x1] [] σ := rfl
set_option maxRecDepth 100000 in
theorem sg_56_0 (d : Nat) (σ : HP) (x0 x1 : Int) : rsP PG0 MX d 56 0 [vR x0, vI x1] [] σ =
    cnd (32 ≤ x0 ∧ x0 < σ (-1) 0 ∧ σ x0 (-1) = 0) (cnd (0 < (σ x0 1) ∧ (σ x0 1) < σ (-1) 0 ∧ σ (σ x0 1) (-1) = 20 ∧ 0 ≤ wr x1 ∧ wr x1 < σ (σ x0 1) (-2)) (bnd (clR PG0 MX d 50 [vI (σ (σ x0 1) (wr x1))] σ) (fun q1 => 
    cnd (32 ≤ x0 ∧ x0 < q1.2 (-1) 0 ∧ q1.2 x0 (-1) = 0) (cnd (0 < (q1.2 x0 1) ∧ (q1.2 x0 1) < q1.2 (-1) 0 ∧ q1.2 (q1.2 x0 1) (-1) = 20 ∧ 0 ≤ wr (x1 + 1) ∧ wr (x1 + 1) < q1.2 (q1.2 x0 1) (-2)) (bnd (clR PG0 MX d 50 [vI (q1.2 (q1.2 x0 1) (wr (x1 + 1)))] q1.2) (fun q2 => 
      bnd (clR PG0 MX d 1005 [vI q1.1, vI q2.1] q2.2) (fun q3 => 
        some (q3.1, q3.2)))) none) none)) none) none :=
  blkE (cs := pgA_56) rfl [] 15 _ _ _ _
/-- OneAtATime$Survey.isSnake(LOneAtATime$BitList;)Z -/
theorem ce_57 (d : Nat) (σ : HP) (x0 x1 : Int) : clR PG0 MX (d + 1) 57 [vR x0, vR x1] σ = rsP PG0 MX d 57 0 [vR x0, vR x1, vU, vU, vU, vU] [] σ := rfl
set_option maxRecDepth 100000 in
theorem sg_57_0 (d : Nat) (σ : HP) (x0 x1 : Int) : rsP PG0 MX d 57 0 [vR x0, vR x1, vU, vU, vU, vU] [] σ =
    cnd (0 < x0 ∧ x0 < σ (-1) 0 ∧ σ x0 (-1) = 7) (bnd (clR PG0 MX d 53 [vR x0, vR x1] σ) (fun q1 => 
    cnd (wr q1.1 ≠ 0)
        (cnd (0 < x1 ∧ x1 < q1.2 (-1) 0 ∧ q1.2 x1 (-1) = 0) (bnd (clR PG0 MX d 42 [vR x1] q1.2) (fun q2 => 
        rsP PG0 MX d 57 17 [vR x0, vR x1, vI q2.1, vI 0, vU, vU] [] q2.2)) none)
        (some (0, q1.2)))) none :=
  blkE (cs := pgA_57) rfl [17, 25] 11 _ _ _ _
set_option maxRecDepth 100000 in
theorem sg_57_17 (d : Nat) (σ : HP) (x0 x1 x2 x3 : Int) (u4 u5 : MV) : rsP PG0 MX d 57 17 [vR x0, vR x1, vI x2, vI x3, u4, u5] [] σ =
    cnd (wr x2 ≤ wr x3)
      (some (1, σ))
      (rsP PG0 MX d 57 25 [vR x0, vR x1, vI x2, vI x3, vI 0, vU] [] σ) :=
  blkE (cs := pgA_57) rfl [17, 25] 7 _ _ _ _
set_option maxRecDepth 100000 in
theorem sg_57_25 (d : Nat) (σ : HP) (x0 x1 x2 x3 x4 : Int) (u5 : MV) : rsP PG0 MX d 57 25 [vR x0, vR x1, vI x2, vI x3, vI x4, u5] [] σ =
    cnd (32 ≤ x1 ∧ x1 < σ (-1) 0 ∧ σ x1 (-1) = 0) (cnd (wr (σ x1 3) ≤ wr x4)
      (rsP PG0 MX d 57 17 [vR x0, vR x1, vI x2, vI (x3 + 1), vI x4, vU] [] σ)
      (cnd (32 ≤ x1 ∧ x1 < σ (-1) 0 ∧ σ x1 (-1) = 0) (cnd (0 < (σ x1 1) ∧ (σ x1 1) < σ (-1) 0 ∧ σ (σ x1 1) (-1) = 20 ∧ 0 ≤ wr x3 ∧ wr x3 < σ (σ x1 1) (-2)) (cnd (32 ≤ x0 ∧ x0 < σ (-1) 0 ∧ σ x0 (-1) = 7) (cnd (0 < (σ x0 0) ∧ (σ x0 0) < σ (-1) 0 ∧ σ (σ x0 0) (-1) = 20 ∧ 0 ≤ wr (i_xor (σ (σ x1 1) (wr x3)) (i_shl 1 x4)) ∧ wr (i_xor (σ (σ x1 1) (wr x3)) (i_shl 1 x4)) < σ (σ x0 0) (-2)) (cnd (wr (σ (σ x0 0) (wr (i_xor (σ (σ x1 1) (wr x3)) (i_shl 1 x4)))) ≤ 0)
        (rsP PG0 MX d 57 25 [vR x0, vR x1, vI x2, vI x3, vI (x4 + 1), vU] [] σ)
        (cnd (32 ≤ x0 ∧ x0 < σ (-1) 0 ∧ σ x0 (-1) = 7) (cnd (0 < (σ x0 1) ∧ (σ x0 1) < σ (-1) 0 ∧ σ (σ x0 1) (-1) = 20 ∧ 0 ≤ wr (i_xor (σ (σ x1 1) (wr x3)) (i_shl 1 x4)) ∧ wr (i_xor (σ (σ x1 1) (wr x3)) (i_shl 1 x4)) < σ (σ x0 1) (-2)) (bnd (clR PG0 MX d 58 [vR x1, vI x3, vI (σ (σ x0 1) (wr (i_xor (σ (σ x1 1) (wr x3)) (i_shl 1 x4))))] σ) (fun q1 => 
        cnd (wr q1.1 ≤ wr 1)
            (rsP PG0 MX d 57 25 [vR x0, vR x1, vI x2, vI x3, vI (x4 + 1), vU] [] q1.2)
            (some (0, q1.2)))) none) none)) none) none) none) none)) none :=
  blkE (cs := pgA_57) rfl [17, 25] 31 _ _ _ _
/-- OneAtATime$Survey.placesBetween(LOneAtATime$BitList;II)I -/
theorem ce_58 (d : Nat) (σ : HP) (x0 x1 x2 : Int) : clR PG0 MX (d + 1) 58 [vR x0, vI x1, vI x2] σ = rsP PG0 MX d 58 0 [vR x0, vI x1, vI x2, vU] [] σ := rfl
set_option maxRecDepth 100000 in
theorem sg_58_0 (d : Nat) (σ : HP) (x0 x1 x2 : Int) : rsP PG0 MX d 58 0 [vR x0, vI x1, vI x2, vU] [] σ =
    bnd (clR PG0 MX d 1006 [vI (x1 - x2)] σ) (fun q1 => 
    cnd (0 < x0 ∧ x0 < q1.2 (-1) 0 ∧ q1.2 x0 (-1) = 0) (bnd (clR PG0 MX d 43 [vR x0] q1.2) (fun q2 => 
      cnd (wr q2.1 = 0)
          (some (q1.1, q2.2))
          (cnd (32 ≤ x0 ∧ x0 < q2.2 (-1) 0 ∧ q2.2 x0 (-1) = 0) (bnd (clR PG0 MX d 1005 [vI q1.1, vI ((q2.2 x0 6) - q1.1)] q2.2) (fun q3 => 
          some (q3.1, q3.2))) none))) none) :=
  blkE (cs := pgA_58) rfl [] 17 _ _ _ _
/-- OneAtATime$Survey.isOpposite(LOneAtATime$BitList;)Z -/
theorem ce_60 (d : Nat) (σ : HP) (x0 : Int) : clR PG0 MX (d + 1) 60 [vR x0] σ = rsP PG0 MX d 60 0 [vR x0, vU, vU, vU] [] σ := rfl
set_option maxRecDepth 100000 in
theorem sg_60_0 (d : Nat) (σ : HP) (x0 : Int) : rsP PG0 MX d 60 0 [vR x0, vU, vU, vU] [] σ =
    cnd (0 < x0 ∧ x0 < σ (-1) 0 ∧ σ x0 (-1) = 0) (bnd (clR PG0 MX d 43 [vR x0] σ) (fun q1 => 
    cnd (wr q1.1 ≠ 0)
        (cnd (32 ≤ x0 ∧ x0 < q1.2 (-1) 0 ∧ q1.2 x0 (-1) = 0) (cnd (wr 2 ≠ 0) (cnd (0 < x0 ∧ x0 < q1.2 (-1) 0 ∧ q1.2 x0 (-1) = 0) (bnd (clR PG0 MX d 47 [vR x0] q1.2) (fun q2 => 
        rsP PG0 MX d 60 25 [vR x0, vI (i_div (q1.2 x0 6) 2), vI (q2.1 - 1), vI 0] [] q2.2)) none) none) none)
        (some (0, q1.2)))) none :=
  blkE (cs := pgA_60) rfl [25] 17 _ _ _ _
set_option maxRecDepth 100000 in
theorem sg_60_25 (d : Nat) (σ : HP) (x0 x1 x2 x3 : Int) : rsP PG0 MX d 60 25 [vR x0, vI x1, vI x2, vI x3] [] σ =
    cnd (wr x1 ≤ wr x3)
      (cnd (32 ≤ x0 ∧ x0 < σ (-1) 0 ∧ σ x0 (-1) = 0) (cnd (wr (x1 * 2) ≠ wr (σ x0 6))
        (some (0, σ))
        (some (1, σ))) none)
      (cnd (32 ≤ x0 ∧ x0 < σ (-1) 0 ∧ σ x0 (-1) = 0) (cnd (0 < (σ x0 1) ∧ (σ x0 1) < σ (-1) 0 ∧ σ (σ x0 1) (-1) = 20 ∧ 0 ≤ wr x3 ∧ wr x3 < σ (σ x0 1) (-2)) (cnd (32 ≤ x0 ∧ x0 < σ (-1) 0 ∧ σ x0 (-1) = 0) (cnd (0 < (σ x0 1) ∧ (σ x0 1) < σ (-1) 0 ∧ σ (σ x0 1) (-1) = 20 ∧ 0 ≤ wr (x3 + x1) ∧ wr (x3 + x1) < σ (σ x0 1) (-2)) (cnd (wr (i_xor (σ (σ x0 1) (wr x3)) (σ (σ x0 1) (wr (x3 + x1)))) = wr x2)
        (rsP PG0 MX d 60 25 [vR x0, vI x1, vI x2, vI (x3 + 1)] [] σ)
        (some (0, σ))) none) none) none) none) :=
  blkE (cs := pgA_60) rfl [25] 20 _ _ _ _
/-- OneAtATime$Survey.isOneTrack(LOneAtATime$BitList;)Z -/
theorem ce_61 (d : Nat) (σ : HP) (x0 : Int) : clR PG0 MX (d + 1) 61 [vR x0] σ = rsP PG0 MX d 61 0 [vR x0, vU] [] σ := rfl
set_option maxRecDepth 100000 in
theorem sg_61_0 (d : Nat) (σ : HP) (x0 : Int) : rsP PG0 MX d 61 0 [vR x0, vU] [] σ =
    cnd (0 < x0 ∧ x0 < σ (-1) 0 ∧ σ x0 (-1) = 0) (bnd (clR PG0 MX d 43 [vR x0] σ) (fun q1 => 
    cnd (wr q1.1 ≠ 0)
        (rsP PG0 MX d 61 11 [vR x0, vI 0] [] q1.2)
        (some (0, q1.2)))) none :=
  blkE (cs := pgA_61) rfl [11] 7 _ _ _ _
set_option maxRecDepth 100000 in
theorem sg_61_11 (d : Nat) (σ : HP) (x0 x1 : Int) : rsP PG0 MX d 61 11 [vR x0, vI x1] [] σ =
    cnd (32 ≤ x0 ∧ x0 < σ (-1) 0 ∧ σ x0 (-1) = 0) (cnd (wr (σ x0 3) ≤ wr x1)
      (some (1, σ))
      (bnd (clR PG0 MX d 62 [vR x0, vI x1] σ) (fun q1 => 
      cnd (wr q1.1 ≠ wr ((-1)))
          (rsP PG0 MX d 61 11 [vR x0, vI (x1 + 1)] [] q1.2)
          (some (0, q1.2))))) none :=
  blkE (cs := pgA_61) rfl [11] 13 _ _ _ _
/-- OneAtATime$Survey.trackShift(LOneAtATime$BitList;I)I -/
theorem ce_62 (d : Nat) (σ : HP) (x0 x1 : Int) : clR PG0 MX (d + 1) 62 [vR x0, vI x1] σ = rsP PG0 MX d 62 0 [vR x0, vI x1, vU] [] σ := rfl
set_option maxRecDepth 100000 in
theorem sg_62_0 (d : Nat) (σ : HP) (x0 x1 : Int) : rsP PG0 MX d 62 0 [vR x0, vI x1, vU] [] σ =
    cnd (0 < x0 ∧ x0 < σ (-1) 0 ∧ σ x0 (-1) = 0) (bnd (clR PG0 MX d 43 [vR x0] σ) (fun q1 => 
    cnd (wr q1.1 ≠ 0)
        (rsP PG0 MX d 62 11 [vR x0, vI x1, vI 0] [] q1.2)
        (some ((-1), q1.2)))) none :=
  blkE (cs := pgA_62) rfl [11] 7 _ _ _ _
set_option maxRecDepth 100000 in
theorem sg_62_11 (d : Nat) (σ : HP) (x0 x1 x2 : Int) : rsP PG0 MX d 62 11 [vR x0, vI x1, vI x2] [] σ =
    cnd (32 ≤ x0 ∧ x0 < σ (-1) 0 ∧ σ x0 (-1) = 0) (cnd (wr (σ x0 6) ≤ wr x2)
      (some ((-1), σ))
      (bnd (clR PG0 MX d 63 [vR x0, vI x1, vI x2] σ) (fun q1 => 
      cnd (wr q1.1 = 0)
          (rsP PG0 MX d 62 11 [vR x0, vI x1, vI (x2 + 1)] [] q1.2)
          (some (x2, q1.2))))) none :=
  blkE (cs := pgA_62) rfl [11] 13 _ _ _ _
/-- OneAtATime$Survey.isRolled(LOneAtATime$BitList;II)Z -/
theorem ce_63 (d : Nat) (σ : HP) (x0 x1 x2 : Int) : clR PG0 MX (d + 1) 63 [vR x0, vI x1, vI x2] σ = rsP PG0 MX d 63 0 [vR x0, vI x1, vI x2, vU, vU] [] σ := rfl
set_option maxRecDepth 100000 in
theorem sg_63_0 (d : Nat) (σ : HP) (x0 x1 x2 : Int) : rsP PG0 MX d 63 0 [vR x0, vI x1, vI x2, vU, vU] [] σ =
    rsP PG0 MX d 63 5 [vR x0, vI x1, vI x2, vI x2, vI 0] [] σ :=
  blkE (cs := pgA_63) rfl [5] 6 _ _ _ _
set_option maxRecDepth 100000 in
theorem sg_63_5 (d : Nat) (σ : HP) (x0 x1 x3 x4 : Int) (u2 : MV) : rsP PG0 MX d 63 5 [vR x0, vI x1, u2, vI x3, vI x4] [] σ =
    cnd (32 ≤ x0 ∧ x0 < σ (-1) 0 ∧ σ x0 (-1) = 0) (cnd (wr (σ x0 6) ≤ wr x4)
      (some (1, σ))
      (cnd (0 < x0 ∧ x0 < σ (-1) 0 ∧ σ x0 (-1) = 0) (bnd (clR PG0 MX d 64 [vR x0, vI x4, vI x1] σ) (fun q1 => 
      cnd (0 < x0 ∧ x0 < q1.2 (-1) 0 ∧ q1.2 x0 (-1) = 0) (bnd (clR PG0 MX d 64 [vR x0, vI x3, vI 0] q1.2) (fun q2 => 
        cnd (wr q1.1 = wr q2.1)
            (cnd (32 ≤ x0 ∧ x0 < q2.2 (-1) 0 ∧ q2.2 x0 (-1) = 0) (cnd (wr (x3 + 1) < wr (q2.2 x0 6))
              (rsP PG0 MX d 63 5 [vR x0, vI x1, vU, vI (x3 + 1), vI (x4 + 1)] [] q2.2)
              (rsP PG0 MX d 63 5 [vR x0, vI x1, vU, vI 0, vI (x4 + 1)] [] q2.2)) none)
            (some (0, q2.2)))) none)) none)) none :=
  blkE (cs := pgA_63) rfl [5] 27 _ _ _ _
/-- OneAtATime$BitList.bitAt(II)I -/
theorem ce_64 (d : Nat) (σ : HP) (x0 x1 x2 : Int) : clR PG0 MX (d + 1) 64 [vR x0, vI x1, vI x2] σ = rsP PG0 MX d 64 0 [vR x0, vI x1, vI x2] [] σ := rfl
set_option maxRecDepth 100000 in
theorem sg_64_0 (d : Nat) (σ : HP) (x0 x1 x2 : Int) : rsP PG0 MX d 64 0 [vR x0, vI x1, vI x2] [] σ =
    cnd (32 ≤ x0 ∧ x0 < σ (-1) 0 ∧ σ x0 (-1) = 0) (cnd (0 < (σ x0 1) ∧ (σ x0 1) < σ (-1) 0 ∧ σ (σ x0 1) (-1) = 20 ∧ 0 ≤ wr x1 ∧ wr x1 < σ (σ x0 1) (-2)) (some (i_and (i_shr (σ (σ x0 1) (wr x1)) x2) 1, σ)) none) none :=
  blkE (cs := pgA_64) rfl [] 10 _ _ _ _
/-- OneAtATime.word(II)I -/
theorem ce_65 (d : Nat) (σ : HP) (x0 x1 x2 : Int) : clR PG0 MX (d + 1) 65 [vR x0, vI x1, vI x2] σ = rsP PG0 MX d 65 0 [vR x0, vI x1, vI x2, vU] [] σ := rfl
set_option maxRecDepth 100000 in
theorem sg_65_0 (d : Nat) (σ : HP) (x0 x1 x2 : Int) : rsP PG0 MX d 65 0 [vR x0, vI x1, vI x2, vU] [] σ =
    cnd (0 < x0 ∧ x0 < σ (-1) 0 ∧ σ x0 (-1) = 8) (bnd (clR PG0 MX d 41 [vR x0, vI x1] σ) (fun q1 => 
    cnd (q1.1 ≤ 0)
        (some ((-2), q1.2))
        (cnd (0 ≤ wr x2)
          (cnd (32 ≤ q1.1 ∧ q1.1 < q1.2 (-1) 0 ∧ q1.2 q1.1 (-1) = 0) (cnd (wr x2 ≤ wr (q1.2 q1.1 6))
            (cnd (32 ≤ q1.1 ∧ q1.1 < q1.2 (-1) 0 ∧ q1.2 q1.1 (-1) = 0) (cnd (0 < (q1.2 q1.1 1) ∧ (q1.2 q1.1 1) < q1.2 (-1) 0 ∧ q1.2 (q1.2 q1.1 1) (-1) = 20 ∧ 0 ≤ wr x2 ∧ wr x2 < q1.2 (q1.2 q1.1 1) (-2)) (some (q1.2 (q1.2 q1.1 1) (wr x2), q1.2)) none) none)
            (some ((-1), q1.2))) none)
          (some ((-2), q1.2))))) none :=
  blkE (cs := pgA_65) rfl [] 18 _ _ _ _
/-- OneAtATime.step(II)I -/
theorem ce_66 (d : Nat) (σ : HP) (x0 x1 x2 : Int) : clR PG0 MX (d + 1) 66 [vR x0, vI x1, vI x2] σ = rsP PG0 MX d 66 0 [vR x0, vI x1, vI x2, vU] [] σ := rfl
set_option maxRecDepth 100000 in
theorem sg_66_0 (d : Nat) (σ : HP) (x0 x1 x2 : Int) : rsP PG0 MX d 66 0 [vR x0, vI x1, vI x2, vU] [] σ =
    cnd (0 < x0 ∧ x0 < σ (-1) 0 ∧ σ x0 (-1) = 8) (bnd (clR PG0 MX d 41 [vR x0, vI x1] σ) (fun q1 => 
    cnd (q1.1 ≤ 0)
        (some ((-2), q1.2))
        (cnd (0 ≤ wr x2)
          (cnd (32 ≤ q1.1 ∧ q1.1 < q1.2 (-1) 0 ∧ q1.2 q1.1 (-1) = 0) (cnd (wr x2 < wr (q1.2 q1.1 6))
            (cnd (32 ≤ q1.1 ∧ q1.1 < q1.2 (-1) 0 ∧ q1.2 q1.1 (-1) = 0) (cnd (0 < (q1.2 q1.1 0) ∧ (q1.2 q1.1 0) < q1.2 (-1) 0 ∧ q1.2 (q1.2 q1.1 0) (-1) = 20 ∧ 0 ≤ wr x2 ∧ wr x2 < q1.2 (q1.2 q1.1 0) (-2)) (some (q1.2 (q1.2 q1.1 0) (wr x2), q1.2)) none) none)
            (some ((-1), q1.2))) none)
          (some ((-2), q1.2))))) none :=
  blkE (cs := pgA_66) rfl [] 18 _ _ _ _
/-- OneAtATime.where(III)I -/
theorem ce_67 (d : Nat) (σ : HP) (x0 x1 x2 x3 : Int) : clR PG0 MX (d + 1) 67 [vR x0, vI x1, vI x2, vI x3] σ = rsP PG0 MX d 67 0 [vR x0, vI x1, vI x2, vI x3, vU, vU, vU, vU] [] σ := rfl
set_option maxRecDepth 100000 in
theorem sg_67_0 (d : Nat) (σ : HP) (x0 x1 x2 x3 : Int) : rsP PG0 MX d 67 0 [vR x0, vI x1, vI x2, vI x3, vU, vU, vU, vU] [] σ =
    cnd (0 < x0 ∧ x0 < σ (-1) 0 ∧ σ x0 (-1) = 8) (bnd (clR PG0 MX d 41 [vR x0, vI x1] σ) (fun q1 => 
    cnd (q1.1 ≤ 0)
        (some ((-2), q1.2))
        (cnd (0 < q1.1 ∧ q1.1 < q1.2 (-1) 0 ∧ q1.2 q1.1 (-1) = 0) (bnd (clR PG0 MX d 68 [vR q1.1, vI x2] q1.2) (fun q2 => 
        cnd (wr q2.1 = 0)
            (some ((-2), q2.2))
            (cnd (0 ≤ wr x3)
              (cnd (0 < q1.1 ∧ q1.1 < q2.2 (-1) 0 ∧ q2.2 q1.1 (-1) = 0) (bnd (clR PG0 MX d 42 [vR q1.1] q2.2) (fun q3 => 
              rsP PG0 MX d 67 41 [vR x0, vI x1, vI x2, vI x3, vR q1.1, vI q3.1, vI x3, vI 0] [] q3.2)) none)
              (some ((-2), q2.2))))) none))) none :=
  blkE (cs := pgA_67) rfl [41] 21 _ _ _ _
set_option maxRecDepth 100000 in
theorem sg_67_41 (d : Nat) (σ : HP) (x2 x4 x5 x6 x7 : Int) (u0 u1 u3 : MV) : rsP PG0 MX d 67 41 [u0, u1, vI x2, u3, vR x4, vI x5, vI x6, vI x7] [] σ =
    cnd (wr x5 ≤ wr x7)
      (some ((-1), σ))
      (cnd (32 ≤ x4 ∧ x4 < σ (-1) 0 ∧ σ x4 (-1) = 0) (cnd (0 < (σ x4 1) ∧ (σ x4 1) < σ (-1) 0 ∧ σ (σ x4 1) (-1) = 20 ∧ 0 ≤ wr x7 ∧ wr x7 < σ (σ x4 1) (-2)) (cnd (wr (σ (σ x4 1) (wr x7)) ≠ wr x2)
        (rsP PG0 MX d 67 41 [vU, vU, vI x2, vU, vR x4, vI x5, vI x6, vI (x7 + 1)] [] σ)
        (cnd (wr x6 ≠ 0)
          (rsP PG0 MX d 67 41 [vU, vU, vI x2, vU, vR x4, vI x5, vI (x6 + (-1)), vI (x7 + 1)] [] σ)
          (some (x7, σ)))) none) none) :=
  blkE (cs := pgA_67) rfl [41] 16 _ _ _ _
