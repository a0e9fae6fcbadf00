/-! THE CONSTRUCTORS, THE LAW: pieces -/
/-- OneAtATime.<init>()V -/
theorem ce_0 (d : Nat) (σ : HP) (x0 : Int) : clR PG0 MX (d + 1) 0 [vR x0] σ = rsP PG0 MX d 0 0 [vR x0, vU] [] σ := rfl
set_option maxRecDepth 100000 in
theorem sg_0_0 (d : Nat) (σ : HP) (x0 : Int) : rsP PG0 MX d 0 0 [vR x0, vU] [] σ =
    cnd (0 < x0) (bnd (clR PG0 MX d 1003 [vR x0] σ) (fun q1 => 
    cnd (0 ≤ wr 3 ∧ wr 3 ≤ 100000) (cnd (32 ≤ x0 ∧ x0 < (newA q1.2 23 (wr 3)) (-1) 0 ∧ (newA q1.2 23 (wr 3)) x0 (-1) = 8) (rsP PG0 MX d 0 14 [vR x0, vI 0] [] (up (newA q1.2 23 (wr 3)) x0 0 (q1.2 (-1) 0))) none) none)) none :=
  blkE (cs := pgA_0) rfl [14, 38, 49, 60, 71, 85, 96, 107, 118] 10 _ _ _ _
set_option maxRecDepth 100000 in
theorem sg_0_14 (d : Nat) (σ : HP) (x0 x1 : Int) : rsP PG0 MX d 0 14 [vR x0, vI x1] [] σ =
    cnd (wr 3 ≤ wr x1)
      (rsP PG0 MX d 0 38 [vR x0, vI x1] [] σ)
      (cnd (32 ≤ x0 ∧ x0 < σ (-1) 0 ∧ σ x0 (-1) = 8) (cnd (0 < (σ (-1) 0)) (bnd (clR PG0 MX d 1 [vR (σ (-1) 0)] (newO σ 0 7)) (fun q1 => 
      cnd (32 ≤ (σ x0 0) ∧ (σ x0 0) < q1.2 (-1) 0 ∧ q1.2 (σ x0 0) (-1) = 23 ∧ 0 ≤ wr x1 ∧ wr x1 < q1.2 (σ x0 0) (-2) ∧ 32 ≤ (σ (-1) 0) ∧ (σ (-1) 0) < q1.2 (-1) 0 ∧ q1.2 (σ (-1) 0) (-1) = 0) (rsP PG0 MX d 0 14 [vR x0, vI (x1 + 1)] [] (up q1.2 (σ x0 0) (wr x1) (σ (-1) 0))) none)) none) none) :=
  blkE (cs := pgA_0) rfl [14, 38, 49, 60, 71, 85, 96, 107, 118] 14 _ _ _ _
set_option maxRecDepth 100000 in
theorem sg_0_38 (d : Nat) (σ : HP) (x0 x1 : Int) : rsP PG0 MX d 0 38 [vR x0, vI x1] [] σ =
    cnd (0 < (σ (-1) 0)) (bnd (clR PG0 MX d 1 [vR (σ (-1) 0)] (newO σ 0 7)) (fun q1 => 
    cnd (32 ≤ x0 ∧ x0 < q1.2 (-1) 0 ∧ q1.2 x0 (-1) = 8) (rsP PG0 MX d 0 49 [vR x0, vI x1] [] (up q1.2 x0 1 (σ (-1) 0))) none)) none :=
  blkE (cs := pgA_0) rfl [14, 38, 49, 60, 71, 85, 96, 107, 118] 7 _ _ _ _
set_option maxRecDepth 100000 in
theorem sg_0_49 (d : Nat) (σ : HP) (x0 x1 : Int) : rsP PG0 MX d 0 49 [vR x0, vI x1] [] σ =
    cnd (0 < (σ (-1) 0)) (bnd (clR PG0 MX d 2 [vR (σ (-1) 0)] (newO σ 3 4)) (fun q1 => 
    cnd (32 ≤ x0 ∧ x0 < q1.2 (-1) 0 ∧ q1.2 x0 (-1) = 8) (rsP PG0 MX d 0 60 [vR x0, vI x1] [] (up q1.2 x0 2 (σ (-1) 0))) none)) none :=
  blkE (cs := pgA_0) rfl [14, 38, 49, 60, 71, 85, 96, 107, 118] 7 _ _ _ _
set_option maxRecDepth 100000 in
theorem sg_0_60 (d : Nat) (σ : HP) (x0 x1 : Int) : rsP PG0 MX d 0 60 [vR x0, vI x1] [] σ =
    cnd (0 < (σ (-1) 0)) (bnd (clR PG0 MX d 3 [vR (σ (-1) 0)] (newO σ 5 6)) (fun q1 => 
    cnd (32 ≤ x0 ∧ x0 < q1.2 (-1) 0 ∧ q1.2 x0 (-1) = 8) (rsP PG0 MX d 0 71 [vR x0, vI x1] [] (up q1.2 x0 3 (σ (-1) 0))) none)) none :=
  blkE (cs := pgA_0) rfl [14, 38, 49, 60, 71, 85, 96, 107, 118] 7 _ _ _ _
set_option maxRecDepth 100000 in
theorem sg_0_71 (d : Nat) (σ : HP) (x0 x1 : Int) : rsP PG0 MX d 0 71 [vR x0, vI x1] [] σ =
    cnd (0 < (σ (-1) 0)) (bnd (clR PG0 MX d 4 [vR (σ (-1) 0), vI 2400] (newO σ 1 2)) (fun q1 => 
    cnd (32 ≤ x0 ∧ x0 < q1.2 (-1) 0 ∧ q1.2 x0 (-1) = 8) (rsP PG0 MX d 0 85 [vR x0, vI x1] [] (up q1.2 x0 4 (σ (-1) 0))) none)) none :=
  blkE (cs := pgA_0) rfl [14, 38, 49, 60, 71, 85, 96, 107, 118] 8 _ _ _ _
set_option maxRecDepth 100000 in
theorem sg_0_85 (d : Nat) (σ : HP) (x0 x1 : Int) : rsP PG0 MX d 0 85 [vR x0, vI x1] [] σ =
    cnd (0 < (σ (-1) 0)) (bnd (clR PG0 MX d 6 [vR (σ (-1) 0)] (newO σ 7 5)) (fun q1 => 
    cnd (32 ≤ x0 ∧ x0 < q1.2 (-1) 0 ∧ q1.2 x0 (-1) = 8) (rsP PG0 MX d 0 96 [vR x0, vI x1] [] (up q1.2 x0 5 (σ (-1) 0))) none)) none :=
  blkE (cs := pgA_0) rfl [14, 38, 49, 60, 71, 85, 96, 107, 118] 7 _ _ _ _
set_option maxRecDepth 100000 in
theorem sg_0_96 (d : Nat) (σ : HP) (x0 x1 : Int) : rsP PG0 MX d 0 96 [vR x0, vI x1] [] σ =
    cnd (0 < (σ (-1) 0)) (bnd (clR PG0 MX d 7 [vR (σ (-1) 0)] (newO σ 6 3)) (fun q1 => 
    cnd (32 ≤ x0 ∧ x0 < q1.2 (-1) 0 ∧ q1.2 x0 (-1) = 8) (rsP PG0 MX d 0 107 [vR x0, vI x1] [] (up q1.2 x0 6 (σ (-1) 0))) none)) none :=
  blkE (cs := pgA_0) rfl [14, 38, 49, 60, 71, 85, 96, 107, 118] 7 _ _ _ _
set_option maxRecDepth 100000 in
theorem sg_0_107 (d : Nat) (σ : HP) (x0 x1 : Int) : rsP PG0 MX d 0 107 [vR x0, vI x1] [] σ =
    cnd (0 < (σ (-1) 0)) (bnd (clR PG0 MX d 8 [vR (σ (-1) 0)] (newO σ 4 2)) (fun q1 => 
    cnd (32 ≤ x0 ∧ x0 < q1.2 (-1) 0 ∧ q1.2 x0 (-1) = 8) (rsP PG0 MX d 0 118 [vR x0, vI x1] [] (up q1.2 x0 7 (σ (-1) 0))) none)) none :=
  blkE (cs := pgA_0) rfl [14, 38, 49, 60, 71, 85, 96, 107, 118] 7 _ _ _ _
set_option maxRecDepth 100000 in
theorem sg_0_118 (d : Nat) (σ : HP) (x0 x1 : Int) : rsP PG0 MX d 0 118 [vR x0, vI x1] [] σ =
    cnd (0 < (σ (-1) 0)) (bnd (clR PG0 MX d 9 [vR (σ (-1) 0)] (newO σ 2 5)) (fun q1 => 
    cnd (32 ≤ x0 ∧ x0 < q1.2 (-1) 0 ∧ q1.2 x0 (-1) = 8) (some (0, up q1.2 x0 8 (σ (-1) 0))) none)) none :=
  blkE (cs := pgA_0) rfl [14, 38, 49, 60, 71, 85, 96, 107, 118] 7 _ _ _ _
/-- OneAtATimeModel.<init>()V -/
theorem ce_175 (d : Nat) (σ : HP) (x0 : Int) : clR PG0 MX (d + 1) 175 [vR x0] σ = rsP PG0 MX d 175 0 [vR x0] [] σ := rfl
set_option maxRecDepth 100000 in
theorem sg_175_0 (d : Nat) (σ : HP) (x0 : Int) : rsP PG0 MX d 175 0 [vR x0] [] σ =
    cnd (0 < x0) (bnd (clR PG0 MX d 1003 [vR x0] σ) (fun q1 => 
    rsP PG0 MX d 175 4 [vR x0] [] q1.2)) none :=
  blkE (cs := pgA_175) rfl [4, 13, 22, 31, 40, 49, 54, 63, 72, 81, 90, 99, 107, 115] 4 _ _ _ _
set_option maxRecDepth 100000 in
theorem sg_175_4 (d : Nat) (σ : HP) (x0 : Int) : rsP PG0 MX d 175 4 [vR x0] [] σ =
    cnd (0 ≤ wr 783 ∧ wr 783 ≤ 100000) (cnd (32 ≤ x0 ∧ x0 < (newA σ 20 (wr 783)) (-1) 0 ∧ (newA σ 20 (wr 783)) x0 (-1) = 9) (rsP PG0 MX d 175 13 [vR x0] [] (up (newA σ 20 (wr 783)) x0 0 (σ (-1) 0))) none) none :=
  blkE (cs := pgA_175) rfl [4, 13, 22, 31, 40, 49, 54, 63, 72, 81, 90, 99, 107, 115] 6 _ _ _ _
set_option maxRecDepth 100000 in
theorem sg_175_13 (d : Nat) (σ : HP) (x0 : Int) : rsP PG0 MX d 175 13 [vR x0] [] σ =
    cnd (0 ≤ wr 783 ∧ wr 783 ≤ 100000) (cnd (32 ≤ x0 ∧ x0 < (newA σ 20 (wr 783)) (-1) 0 ∧ (newA σ 20 (wr 783)) x0 (-1) = 9) (rsP PG0 MX d 175 22 [vR x0] [] (up (newA σ 20 (wr 783)) x0 1 (σ (-1) 0))) none) none :=
  blkE (cs := pgA_175) rfl [4, 13, 22, 31, 40, 49, 54, 63, 72, 81, 90, 99, 107, 115] 6 _ _ _ _
set_option maxRecDepth 100000 in
theorem sg_175_22 (d : Nat) (σ : HP) (x0 : Int) : rsP PG0 MX d 175 22 [vR x0] [] σ =
    cnd (0 ≤ wr 7830 ∧ wr 7830 ≤ 100000) (cnd (32 ≤ x0 ∧ x0 < (newA σ 20 (wr 7830)) (-1) 0 ∧ (newA σ 20 (wr 7830)) x0 (-1) = 9) (rsP PG0 MX d 175 31 [vR x0] [] (up (newA σ 20 (wr 7830)) x0 2 (σ (-1) 0))) none) none :=
  blkE (cs := pgA_175) rfl [4, 13, 22, 31, 40, 49, 54, 63, 72, 81, 90, 99, 107, 115] 6 _ _ _ _
set_option maxRecDepth 100000 in
theorem sg_175_31 (d : Nat) (σ : HP) (x0 : Int) : rsP PG0 MX d 175 31 [vR x0] [] σ =
    cnd (0 ≤ wr 600 ∧ wr 600 ≤ 100000) (cnd (32 ≤ x0 ∧ x0 < (newA σ 20 (wr 600)) (-1) 0 ∧ (newA σ 20 (wr 600)) x0 (-1) = 9) (rsP PG0 MX d 175 40 [vR x0] [] (up (newA σ 20 (wr 600)) x0 4 (σ (-1) 0))) none) none :=
  blkE (cs := pgA_175) rfl [4, 13, 22, 31, 40, 49, 54, 63, 72, 81, 90, 99, 107, 115] 6 _ _ _ _
set_option maxRecDepth 100000 in
theorem sg_175_40 (d : Nat) (σ : HP) (x0 : Int) : rsP PG0 MX d 175 40 [vR x0] [] σ =
    cnd (0 ≤ wr 400 ∧ wr 400 ≤ 100000) (cnd (32 ≤ x0 ∧ x0 < (newA σ 20 (wr 400)) (-1) 0 ∧ (newA σ 20 (wr 400)) x0 (-1) = 9) (rsP PG0 MX d 175 49 [vR x0] [] (up (newA σ 20 (wr 400)) x0 6 (σ (-1) 0))) none) none :=
  blkE (cs := pgA_175) rfl [4, 13, 22, 31, 40, 49, 54, 63, 72, 81, 90, 99, 107, 115] 6 _ _ _ _
set_option maxRecDepth 100000 in
theorem sg_175_49 (d : Nat) (σ : HP) (x0 : Int) : rsP PG0 MX d 175 49 [vR x0] [] σ =
    cnd (32 ≤ x0 ∧ x0 < σ (-1) 0 ∧ σ x0 (-1) = 9) (rsP PG0 MX d 175 54 [vR x0] [] (up σ x0 9 ((-1)))) none :=
  blkE (cs := pgA_175) rfl [4, 13, 22, 31, 40, 49, 54, 63, 72, 81, 90, 99, 107, 115] 5 _ _ _ _
set_option maxRecDepth 100000 in
theorem sg_175_54 (d : Nat) (σ : HP) (x0 : Int) : rsP PG0 MX d 175 54 [vR x0] [] σ =
    cnd (0 ≤ wr 257 ∧ wr 257 ≤ 100000) (cnd (32 ≤ x0 ∧ x0 < (newA σ 20 (wr 257)) (-1) 0 ∧ (newA σ 20 (wr 257)) x0 (-1) = 9) (rsP PG0 MX d 175 63 [vR x0] [] (up (newA σ 20 (wr 257)) x0 15 (σ (-1) 0))) none) none :=
  blkE (cs := pgA_175) rfl [4, 13, 22, 31, 40, 49, 54, 63, 72, 81, 90, 99, 107, 115] 6 _ _ _ _
set_option maxRecDepth 100000 in
theorem sg_175_63 (d : Nat) (σ : HP) (x0 : Int) : rsP PG0 MX d 175 63 [vR x0] [] σ =
    cnd (0 ≤ wr 256 ∧ wr 256 ≤ 100000) (cnd (32 ≤ x0 ∧ x0 < (newA σ 20 (wr 256)) (-1) 0 ∧ (newA σ 20 (wr 256)) x0 (-1) = 9) (rsP PG0 MX d 175 72 [vR x0] [] (up (newA σ 20 (wr 256)) x0 16 (σ (-1) 0))) none) none :=
  blkE (cs := pgA_175) rfl [4, 13, 22, 31, 40, 49, 54, 63, 72, 81, 90, 99, 107, 115] 6 _ _ _ _
set_option maxRecDepth 100000 in
theorem sg_175_72 (d : Nat) (σ : HP) (x0 : Int) : rsP PG0 MX d 175 72 [vR x0] [] σ =
    cnd (0 ≤ wr 256 ∧ wr 256 ≤ 100000) (cnd (32 ≤ x0 ∧ x0 < (newA σ 22 (wr 256)) (-1) 0 ∧ (newA σ 22 (wr 256)) x0 (-1) = 9) (rsP PG0 MX d 175 81 [vR x0] [] (up (newA σ 22 (wr 256)) x0 19 (σ (-1) 0))) none) none :=
  blkE (cs := pgA_175) rfl [4, 13, 22, 31, 40, 49, 54, 63, 72, 81, 90, 99, 107, 115] 6 _ _ _ _
set_option maxRecDepth 100000 in
theorem sg_175_81 (d : Nat) (σ : HP) (x0 : Int) : rsP PG0 MX d 175 81 [vR x0] [] σ =
    cnd (0 ≤ wr 257 ∧ wr 257 ≤ 100000) (cnd (32 ≤ x0 ∧ x0 < (newA σ 20 (wr 257)) (-1) 0 ∧ (newA σ 20 (wr 257)) x0 (-1) = 9) (rsP PG0 MX d 175 90 [vR x0] [] (up (newA σ 20 (wr 257)) x0 20 (σ (-1) 0))) none) none :=
  blkE (cs := pgA_175) rfl [4, 13, 22, 31, 40, 49, 54, 63, 72, 81, 90, 99, 107, 115] 6 _ _ _ _
set_option maxRecDepth 100000 in
theorem sg_175_90 (d : Nat) (σ : HP) (x0 : Int) : rsP PG0 MX d 175 90 [vR x0] [] σ =
    cnd (0 ≤ wr 256 ∧ wr 256 ≤ 100000) (cnd (32 ≤ x0 ∧ x0 < (newA σ 20 (wr 256)) (-1) 0 ∧ (newA σ 20 (wr 256)) x0 (-1) = 9) (rsP PG0 MX d 175 99 [vR x0] [] (up (newA σ 20 (wr 256)) x0 24 (σ (-1) 0))) none) none :=
  blkE (cs := pgA_175) rfl [4, 13, 22, 31, 40, 49, 54, 63, 72, 81, 90, 99, 107, 115] 6 _ _ _ _
set_option maxRecDepth 100000 in
theorem sg_175_99 (d : Nat) (σ : HP) (x0 : Int) : rsP PG0 MX d 175 99 [vR x0] [] σ =
    cnd (0 ≤ wr 8 ∧ wr 8 ≤ 100000) (cnd (32 ≤ x0 ∧ x0 < (newA σ 20 (wr 8)) (-1) 0 ∧ (newA σ 20 (wr 8)) x0 (-1) = 9) (rsP PG0 MX d 175 107 [vR x0] [] (up (newA σ 20 (wr 8)) x0 25 (σ (-1) 0))) none) none :=
  blkE (cs := pgA_175) rfl [4, 13, 22, 31, 40, 49, 54, 63, 72, 81, 90, 99, 107, 115] 6 _ _ _ _
set_option maxRecDepth 100000 in
theorem sg_175_107 (d : Nat) (σ : HP) (x0 : Int) : rsP PG0 MX d 175 107 [vR x0] [] σ =
    cnd (0 ≤ wr 8 ∧ wr 8 ≤ 100000) (cnd (32 ≤ x0 ∧ x0 < (newA σ 20 (wr 8)) (-1) 0 ∧ (newA σ 20 (wr 8)) x0 (-1) = 9) (rsP PG0 MX d 175 115 [vR x0] [] (up (newA σ 20 (wr 8)) x0 26 (σ (-1) 0))) none) none :=
  blkE (cs := pgA_175) rfl [4, 13, 22, 31, 40, 49, 54, 63, 72, 81, 90, 99, 107, 115] 6 _ _ _ _
set_option maxRecDepth 100000 in
theorem sg_175_115 (d : Nat) (σ : HP) (x0 : Int) : rsP PG0 MX d 175 115 [vR x0] [] σ =
    cnd (0 ≤ wr 2400 ∧ wr 2400 ≤ 100000) (cnd (32 ≤ x0 ∧ x0 < (newA σ 20 (wr 2400)) (-1) 0 ∧ (newA σ 20 (wr 2400)) x0 (-1) = 9) (some (0, up (newA σ 20 (wr 2400)) x0 27 (σ (-1) 0))) none) none :=
  blkE (cs := pgA_175) rfl [4, 13, 22, 31, 40, 49, 54, 63, 72, 81, 90, 99, 107, 115] 6 _ _ _ _
