/-- OneAtATimeModel.twists(III)I -/
theorem ce_267 (d : Nat) (σ : HP) (x0 x1 x2 x3 : Int) : clR PG0 MX (d + 1) 267 [vR x0, vI x1, vI x2, vI x3] σ = rsP PG0 MX d 267 0 [vR x0, vI x1, vI x2, vI x3] [] σ := rfl
set_option maxRecDepth 100000 in
theorem sg_267_0 (d : Nat) (σ : HP) (x0 x1 x2 x3 : Int) : rsP PG0 MX d 267 0 [vR x0, vI x1, vI x2, vI x3] [] σ =
    cnd (0 < x0 ∧ x0 < σ (-1) 0 ∧ σ x0 (-1) = 9) (bnd (clR PG0 MX d 180 [vR x0, vI x1] σ) (fun q1 => 
    cnd (wr q1.1 = 0)
        (some ((-2), q1.2))
        (cnd (wr x2 < 0)
          (some ((-2), q1.2))
          (cnd (wr x3 ≤ wr x2)
            (some ((-2), q1.2))
            (cnd (0 < x0 ∧ x0 < q1.2 (-1) 0 ∧ q1.2 x0 (-1) = 9) (bnd (clR PG0 MX d 204 [vR x0, vI x1] q1.2) (fun q2 => 
            cnd (wr x3 < wr q2.1)
                (cnd (0 < x0 ∧ x0 < q2.2 (-1) 0 ∧ q2.2 x0 (-1) = 9) (bnd (clR PG0 MX d 203 [vR x0, vI x1] q2.2) (fun q3 => 
                cnd (0 < x0 ∧ x0 < q3.2 (-1) 0 ∧ q3.2 x0 (-1) = 9) (bnd (clR PG0 MX d 268 [vR x0, vI x2, vI x3] q3.2) (fun q4 => 
                  cnd (wr q4.1 ≠ 0)
                      (rsP PG0 MX d 267 46 [vR x0, vI x1, vI x2, vI x3] [] q4.2)
                      (rsP PG0 MX d 267 43 [vR x0, vI x1, vI x2, vI x3] [] q4.2))) none)) none)
                (some ((-2), q2.2)))) none))))) none :=
  blkE (cs := pgA_267) rfl [43, 46, 87, 124] 24 _ _ _ _
set_option maxRecDepth 100000 in
theorem sg_267_43 (d : Nat) (σ : HP) (x0 x1 x2 x3 : Int) : rsP PG0 MX d 267 43 [vR x0, vI x1, vI x2, vI x3] [] σ =
    some ((-6), σ) :=
  blkE (cs := pgA_267) rfl [43, 46, 87, 124] 3 _ _ _ _
set_option maxRecDepth 100000 in
theorem sg_267_46 (d : Nat) (σ : HP) (x0 x1 x2 x3 : Int) : rsP PG0 MX d 267 46 [vR x0, vI x1, vI x2, vI x3] [] σ =
    cnd (32 ≤ x0 ∧ x0 < σ (-1) 0 ∧ σ x0 (-1) = 9) (cnd (0 < x0 ∧ x0 < (up σ x0 5 0) (-1) 0 ∧ (up σ x0 5 0) x0 (-1) = 9) (bnd (clR PG0 MX d 254 [vR x0, vI x1, vI 0, vI x2] (up σ x0 5 0)) (fun q1 => 
    cnd (32 ≤ x0 ∧ x0 < q1.2 (-1) 0 ∧ q1.2 x0 (-1) = 9) (cnd (0 < (q1.2 x0 15) ∧ (q1.2 x0 15) < q1.2 (-1) 0 ∧ q1.2 (q1.2 x0 15) (-1) = 20 ∧ 0 ≤ wr x2 ∧ wr x2 < q1.2 (q1.2 x0 15) (-2)) (cnd (32 ≤ x0 ∧ x0 < q1.2 (-1) 0 ∧ q1.2 x0 (-1) = 9) (cnd (0 < (q1.2 x0 15) ∧ (q1.2 x0 15) < q1.2 (-1) 0 ∧ q1.2 (q1.2 x0 15) (-1) = 20 ∧ 0 ≤ wr x3 ∧ wr x3 < q1.2 (q1.2 x0 15) (-2)) (bnd (clR PG0 MX d 243 [vI (i_xor (q1.2 (q1.2 x0 15) (wr x2)) (q1.2 (q1.2 x0 15) (wr x3)))] q1.2) (fun q2 => 
      cnd (0 < x0 ∧ x0 < q2.2 (-1) 0 ∧ q2.2 x0 (-1) = 9) (bnd (clR PG0 MX d 196 [vR x0, vI q2.1] q2.2) (fun q3 => 
        cnd (0 < x0 ∧ x0 < q3.2 (-1) 0 ∧ q3.2 x0 (-1) = 9) (bnd (clR PG0 MX d 255 [vR x0, vI x1, vI (x2 + 1), vI x3] q3.2) (fun q4 => 
          rsP PG0 MX d 267 87 [vR x0, vI x1, vI x2, vI x3] [] q4.2)) none)) none)) none) none) none) none)) none) none :=
  blkE (cs := pgA_267) rfl [43, 46, 87, 124] 29 _ _ _ _
set_option maxRecDepth 100000 in
theorem sg_267_87 (d : Nat) (σ : HP) (x0 x1 x2 x3 : Int) : rsP PG0 MX d 267 87 [vR x0, vI x1, vI x2, vI x3] [] σ =
    cnd (32 ≤ x0 ∧ x0 < σ (-1) 0 ∧ σ x0 (-1) = 9) (cnd (0 < (σ x0 15) ∧ (σ x0 15) < σ (-1) 0 ∧ σ (σ x0 15) (-1) = 20 ∧ 0 ≤ wr (x2 + 1) ∧ wr (x2 + 1) < σ (σ x0 15) (-2)) (cnd (32 ≤ x0 ∧ x0 < σ (-1) 0 ∧ σ x0 (-1) = 9) (cnd (0 < (σ x0 15) ∧ (σ x0 15) < σ (-1) 0 ∧ σ (σ x0 15) (-1) = 20 ∧ 0 ≤ wr (x3 + 1) ∧ wr (x3 + 1) < σ (σ x0 15) (-2)) (bnd (clR PG0 MX d 243 [vI (i_xor (σ (σ x0 15) (wr (x2 + 1))) (σ (σ x0 15) (wr (x3 + 1))))] σ) (fun q1 => 
    cnd (0 < x0 ∧ x0 < q1.2 (-1) 0 ∧ q1.2 x0 (-1) = 9) (bnd (clR PG0 MX d 196 [vR x0, vI q1.1] q1.2) (fun q2 => 
      cnd (0 < x0 ∧ x0 < q2.2 (-1) 0 ∧ q2.2 x0 (-1) = 9) (bnd (clR PG0 MX d 204 [vR x0, vI x1] q2.2) (fun q3 => 
        cnd (0 < x0 ∧ x0 < q3.2 (-1) 0 ∧ q3.2 x0 (-1) = 9) (bnd (clR PG0 MX d 254 [vR x0, vI x1, vI (x3 + 1), vI q3.1] q3.2) (fun q4 => 
          rsP PG0 MX d 267 124 [vR x0, vI x1, vI x2, vI x3] [] q4.2)) none)) none)) none)) none) none) none) none :=
  blkE (cs := pgA_267) rfl [43, 46, 87, 124] 27 _ _ _ _
set_option maxRecDepth 100000 in
theorem sg_267_124 (d : Nat) (σ : HP) (x0 x1 x2 x3 : Int) : rsP PG0 MX d 267 124 [vR x0, vI x1, vI x2, vI x3] [] σ =
    cnd (0 < x0 ∧ x0 < σ (-1) 0 ∧ σ x0 (-1) = 9) (bnd (clR PG0 MX d 181 [vR x0, vI x1, vI 3] σ) (fun q1 => 
    cnd (32 ≤ x0 ∧ x0 < q1.2 (-1) 0 ∧ q1.2 x0 (-1) = 9) (cnd (0 < x0 ∧ x0 < q1.2 (-1) 0 ∧ q1.2 x0 (-1) = 9) (bnd (clR PG0 MX d 245 [vR x0, vI x1, vI q1.1, vI (q1.2 x0 5)] q1.2) (fun q2 => 
      some (q2.1, q2.2))) none) none)) none :=
  blkE (cs := pgA_267) rfl [43, 46, 87, 124] 11 _ _ _ _
/-- OneAtATimeModel.canTwist(II)Z -/
theorem ce_268 (d : Nat) (σ : HP) (x0 x1 x2 : Int) : clR PG0 MX (d + 1) 268 [vR x0, vI x1, vI x2] σ = rsP PG0 MX d 268 0 [vR x0, vI x1, vI x2] [] σ := rfl
set_option maxRecDepth 100000 in
theorem sg_268_0 (d : Nat) (σ : HP) (x0 x1 x2 : Int) : rsP PG0 MX d 268 0 [vR x0, vI x1, vI x2] [] σ =
    cnd (32 ≤ x0 ∧ x0 < σ (-1) 0 ∧ σ x0 (-1) = 9) (cnd (0 < (σ x0 15) ∧ (σ x0 15) < σ (-1) 0 ∧ σ (σ x0 15) (-1) = 20 ∧ 0 ≤ wr x1 ∧ wr x1 < σ (σ x0 15) (-2)) (cnd (32 ≤ x0 ∧ x0 < σ (-1) 0 ∧ σ x0 (-1) = 9) (cnd (0 < (σ x0 15) ∧ (σ x0 15) < σ (-1) 0 ∧ σ (σ x0 15) (-1) = 20 ∧ 0 ≤ wr x2 ∧ wr x2 < σ (σ x0 15) (-2)) (bnd (clR PG0 MX d 209 [vI (i_xor (σ (σ x0 15) (wr x1)) (σ (σ x0 15) (wr x2)))] σ) (fun q1 => 
    cnd (wr q1.1 ≠ wr 1)
        (some (0, q1.2))
        (cnd (32 ≤ x0 ∧ x0 < q1.2 (-1) 0 ∧ q1.2 x0 (-1) = 9) (cnd (0 < (q1.2 x0 15) ∧ (q1.2 x0 15) < q1.2 (-1) 0 ∧ q1.2 (q1.2 x0 15) (-1) = 20 ∧ 0 ≤ wr (x1 + 1) ∧ wr (x1 + 1) < q1.2 (q1.2 x0 15) (-2)) (cnd (32 ≤ x0 ∧ x0 < q1.2 (-1) 0 ∧ q1.2 x0 (-1) = 9) (cnd (0 < (q1.2 x0 15) ∧ (q1.2 x0 15) < q1.2 (-1) 0 ∧ q1.2 (q1.2 x0 15) (-1) = 20 ∧ 0 ≤ wr (x2 + 1) ∧ wr (x2 + 1) < q1.2 (q1.2 x0 15) (-2)) (bnd (clR PG0 MX d 209 [vI (i_xor (q1.2 (q1.2 x0 15) (wr (x1 + 1))) (q1.2 (q1.2 x0 15) (wr (x2 + 1))))] q1.2) (fun q2 => 
        cnd (wr q2.1 ≠ wr 1)
            (some (0, q2.2))
            (some (1, q2.2)))) none) none) none) none))) none) none) none) none :=
  blkE (cs := pgA_268) rfl [] 32 _ _ _ _
/-- OneAtATimeModel.twistable(I)I -/
theorem ce_269 (d : Nat) (σ : HP) (x0 x1 : Int) : clR PG0 MX (d + 1) 269 [vR x0, vI x1] σ = rsP PG0 MX d 269 0 [vR x0, vI x1, vU, vU, vU] [] σ := rfl
set_option maxRecDepth 100000 in
theorem sg_269_0 (d : Nat) (σ : HP) (x0 x1 : Int) : rsP PG0 MX d 269 0 [vR x0, vI x1, vU, vU, vU] [] σ =
    cnd (0 < x0 ∧ x0 < σ (-1) 0 ∧ σ x0 (-1) = 9) (bnd (clR PG0 MX d 180 [vR x0, vI x1] σ) (fun q1 => 
    cnd (wr q1.1 ≠ 0)
        (cnd (0 < x0 ∧ x0 < q1.2 (-1) 0 ∧ q1.2 x0 (-1) = 9) (bnd (clR PG0 MX d 203 [vR x0, vI x1] q1.2) (fun q2 => 
        rsP PG0 MX d 269 20 [vR x0, vI x1, vI 0, vI 0, vU] [] q2.2)) none)
        (some ((-2), q1.2)))) none :=
  blkE (cs := pgA_269) rfl [20, 34] 13 _ _ _ _
set_option maxRecDepth 100000 in
theorem sg_269_20 (d : Nat) (σ : HP) (x0 x1 x2 x3 : Int) (u4 : MV) : rsP PG0 MX d 269 20 [vR x0, vI x1, vI x2, vI x3, u4] [] σ =
    cnd (0 < x0 ∧ x0 < σ (-1) 0 ∧ σ x0 (-1) = 9) (bnd (clR PG0 MX d 204 [vR x0, vI x1] σ) (fun q1 => 
    cnd (wr q1.1 ≤ wr x3)
        (some (x2, q1.2))
        (rsP PG0 MX d 269 34 [vR x0, vI x1, vI x2, vI x3, vI (x3 + 2)] [] q1.2))) none :=
  blkE (cs := pgA_269) rfl [20, 34] 11 _ _ _ _
set_option maxRecDepth 100000 in
theorem sg_269_34 (d : Nat) (σ : HP) (x0 x1 x2 x3 x4 : Int) : rsP PG0 MX d 269 34 [vR x0, vI x1, vI x2, vI x3, vI x4] [] σ =
    cnd (0 < x0 ∧ x0 < σ (-1) 0 ∧ σ x0 (-1) = 9) (bnd (clR PG0 MX d 204 [vR x0, vI x1] σ) (fun q1 => 
    cnd (wr q1.1 ≤ wr x4)
        (rsP PG0 MX d 269 20 [vR x0, vI x1, vI x2, vI (x3 + 1), vI x4] [] q1.2)
        (cnd (0 < x0 ∧ x0 < q1.2 (-1) 0 ∧ q1.2 x0 (-1) = 9) (bnd (clR PG0 MX d 268 [vR x0, vI x3, vI x4] q1.2) (fun q2 => 
        cnd (wr q2.1 = 0)
            (rsP PG0 MX d 269 34 [vR x0, vI x1, vI (x2 + 0), vI x3, vI (x4 + 1)] [] q2.2)
            (rsP PG0 MX d 269 34 [vR x0, vI x1, vI (x2 + 1), vI x3, vI (x4 + 1)] [] q2.2))) none))) none :=
  blkE (cs := pgA_269) rfl [20, 34] 19 _ _ _ _
/-- OneAtATimeModel.detour(III)I -/
theorem ce_270 (d : Nat) (σ : HP) (x0 x1 x2 x3 : Int) : clR PG0 MX (d + 1) 270 [vR x0, vI x1, vI x2, vI x3] σ = rsP PG0 MX d 270 0 [vR x0, vI x1, vI x2, vI x3] [] σ := rfl
set_option maxRecDepth 100000 in
theorem sg_270_0 (d : Nat) (σ : HP) (x0 x1 x2 x3 : Int) : rsP PG0 MX d 270 0 [vR x0, vI x1, vI x2, vI x3] [] σ =
    cnd (0 < x0 ∧ x0 < σ (-1) 0 ∧ σ x0 (-1) = 9) (bnd (clR PG0 MX d 224 [vR x0, vI x1, vI x3] σ) (fun q1 => 
    cnd (wr q1.1 = 0)
        (some ((-2), q1.2))
        (cnd (0 < x0 ∧ x0 < q1.2 (-1) 0 ∧ q1.2 x0 (-1) = 9) (bnd (clR PG0 MX d 204 [vR x0, vI x1] q1.2) (fun q2 => 
        bnd (clR PG0 MX d 179 [vL (wr x2), vL 0, vL (wr (q2.1 - 1))] q2.2) (fun q3 => 
          cnd (wr q3.1 ≠ 0)
              (cnd (0 < x0 ∧ x0 < q3.2 (-1) 0 ∧ q3.2 x0 (-1) = 9) (bnd (clR PG0 MX d 204 [vR x0, vI x1] q3.2) (fun q4 => 
              cnd (wr (q4.1 + 2) ≤ wr 256)
                  (rsP PG0 MX d 270 45 [vR x0, vI x1, vI x2, vI x3] [] q4.2)
                  (rsP PG0 MX d 270 42 [vR x0, vI x1, vI x2, vI x3] [] q4.2))) none)
              (some ((-2), q3.2))))) none))) none :=
  blkE (cs := pgA_270) rfl [42, 45, 72] 25 _ _ _ _
set_option maxRecDepth 100000 in
theorem sg_270_42 (d : Nat) (σ : HP) (x0 x1 x2 x3 : Int) : rsP PG0 MX d 270 42 [vR x0, vI x1, vI x2, vI x3] [] σ =
    some ((-5), σ) :=
  blkE (cs := pgA_270) rfl [42, 45, 72] 3 _ _ _ _
set_option maxRecDepth 100000 in
theorem sg_270_45 (d : Nat) (σ : HP) (x0 x1 x2 x3 : Int) : rsP PG0 MX d 270 45 [vR x0, vI x1, vI x2, vI x3] [] σ =
    cnd (32 ≤ x0 ∧ x0 < σ (-1) 0 ∧ σ x0 (-1) = 9) (cnd (0 < x0 ∧ x0 < (up σ x0 5 0) (-1) 0 ∧ (up σ x0 5 0) x0 (-1) = 9) (bnd (clR PG0 MX d 254 [vR x0, vI x1, vI 0, vI x2] (up σ x0 5 0)) (fun q1 => 
    cnd (0 < x0 ∧ x0 < q1.2 (-1) 0 ∧ q1.2 x0 (-1) = 9) (bnd (clR PG0 MX d 196 [vR x0, vI x3] q1.2) (fun q2 => 
      cnd (0 < x0 ∧ x0 < q2.2 (-1) 0 ∧ q2.2 x0 (-1) = 9) (bnd (clR PG0 MX d 205 [vR x0, vI x1, vI x2] q2.2) (fun q3 => 
        cnd (0 < x0 ∧ x0 < q3.2 (-1) 0 ∧ q3.2 x0 (-1) = 9) (bnd (clR PG0 MX d 196 [vR x0, vI q3.1] q3.2) (fun q4 => 
          rsP PG0 MX d 270 72 [vR x0, vI x1, vI x2, vI x3] [] q4.2)) none)) none)) none)) none) none :=
  blkE (cs := pgA_270) rfl [42, 45, 72] 19 _ _ _ _
set_option maxRecDepth 100000 in
theorem sg_270_72 (d : Nat) (σ : HP) (x0 x1 x2 x3 : Int) : rsP PG0 MX d 270 72 [vR x0, vI x1, vI x2, vI x3] [] σ =
    cnd (0 < x0 ∧ x0 < σ (-1) 0 ∧ σ x0 (-1) = 9) (bnd (clR PG0 MX d 196 [vR x0, vI x3] σ) (fun q1 => 
    cnd (0 < x0 ∧ x0 < q1.2 (-1) 0 ∧ q1.2 x0 (-1) = 9) (bnd (clR PG0 MX d 204 [vR x0, vI x1] q1.2) (fun q2 => 
      cnd (0 < x0 ∧ x0 < q2.2 (-1) 0 ∧ q2.2 x0 (-1) = 9) (bnd (clR PG0 MX d 254 [vR x0, vI x1, vI (x2 + 1), vI q2.1] q2.2) (fun q3 => 
        cnd (0 < x0 ∧ x0 < q3.2 (-1) 0 ∧ q3.2 x0 (-1) = 9) (bnd (clR PG0 MX d 181 [vR x0, vI x1, vI 3] q3.2) (fun q4 => 
          cnd (32 ≤ x0 ∧ x0 < q4.2 (-1) 0 ∧ q4.2 x0 (-1) = 9) (cnd (0 < x0 ∧ x0 < q4.2 (-1) 0 ∧ q4.2 x0 (-1) = 9) (bnd (clR PG0 MX d 245 [vR x0, vI x1, vI q4.1, vI (q4.2 x0 5)] q4.2) (fun q5 => 
            some (q5.1, q5.2))) none) none)) none)) none)) none)) none :=
  blkE (cs := pgA_270) rfl [42, 45, 72] 23 _ _ _ _
/-- OneAtATimeModel.mirror(I)I -/
theorem ce_271 (d : Nat) (σ : HP) (x0 x1 : Int) : clR PG0 MX (d + 1) 271 [vR x0, vI x1] σ = rsP PG0 MX d 271 0 [vR x0, vI x1, vU, vU, vU] [] σ := rfl
set_option maxRecDepth 100000 in
theorem sg_271_0 (d : Nat) (σ : HP) (x0 x1 : Int) : rsP PG0 MX d 271 0 [vR x0, vI x1, vU, vU, vU] [] σ =
    cnd (0 < x0 ∧ x0 < σ (-1) 0 ∧ σ x0 (-1) = 9) (bnd (clR PG0 MX d 180 [vR x0, vI x1] σ) (fun q1 => 
    cnd (wr q1.1 ≠ 0)
        (cnd (0 < x0 ∧ x0 < q1.2 (-1) 0 ∧ q1.2 x0 (-1) = 9) (bnd (clR PG0 MX d 207 [vR x0, vI x1] q1.2) (fun q2 => 
        rsP PG0 MX d 271 22 [vR x0, vI x1, vI q2.1, vI 0, vI 0] [] q2.2)) none)
        (some ((-2), q1.2)))) none :=
  blkE (cs := pgA_271) rfl [22, 71] 14 _ _ _ _
set_option maxRecDepth 100000 in
theorem sg_271_22 (d : Nat) (σ : HP) (x0 x1 x2 x3 x4 : Int) : rsP PG0 MX d 271 22 [vR x0, vI x1, vI x2, vI x3, vI x4] [] σ =
    cnd (wr x2 ≤ wr x4)
      (cnd (32 ≤ x0 ∧ x0 < σ (-1) 0 ∧ σ x0 (-1) = 9) (rsP PG0 MX d 271 71 [vR x0, vI x1, vI x2, vI x3, vI 0] [] (up σ x0 5 0)) none)
      (cnd (0 < x0 ∧ x0 < σ (-1) 0 ∧ σ x0 (-1) = 9) (bnd (clR PG0 MX d 181 [vR x0, vI x1, vI 3] σ) (fun q1 => 
      bnd (clR PG0 MX d 216 [vI q1.1, vI x4] q1.2) (fun q2 => 
        cnd (wr q2.1 = 0)
            (rsP PG0 MX d 271 22 [vR x0, vI x1, vI x2, vI (i_or x3 0), vI (x4 + 1)] [] q2.2)
            (rsP PG0 MX d 271 22 [vR x0, vI x1, vI x2, vI (i_or x3 (i_shl 1 ((x2 - 1) - x4))), vI (x4 + 1)] [] q2.2)))) none) :=
  blkE (cs := pgA_271) rfl [22, 71] 25 _ _ _ _
set_option maxRecDepth 100000 in
theorem sg_271_71 (d : Nat) (σ : HP) (x0 x1 x2 x3 x4 : Int) : rsP PG0 MX d 271 71 [vR x0, vI x1, vI x2, vI x3, vI x4] [] σ =
    cnd (0 < x0 ∧ x0 < σ (-1) 0 ∧ σ x0 (-1) = 9) (bnd (clR PG0 MX d 204 [vR x0, vI x1] σ) (fun q1 => 
    cnd (wr q1.1 ≤ wr x4)
        (cnd (0 < x0 ∧ x0 < q1.2 (-1) 0 ∧ q1.2 x0 (-1) = 9) (bnd (clR PG0 MX d 245 [vR x0, vI x1, vI x3, vI x3] q1.2) (fun q2 => 
        some (q2.1, q2.2))) none)
        (cnd (0 < x0 ∧ x0 < q1.2 (-1) 0 ∧ q1.2 x0 (-1) = 9) (bnd (clR PG0 MX d 205 [vR x0, vI x1, vI x4] q1.2) (fun q3 => 
        cnd (0 < x0 ∧ x0 < q3.2 (-1) 0 ∧ q3.2 x0 (-1) = 9) (bnd (clR PG0 MX d 196 [vR x0, vI ((x2 - 1) - q3.1)] q3.2) (fun q4 => 
          rsP PG0 MX d 271 71 [vR x0, vI x1, vI x2, vI x3, vI (x4 + 1)] [] q4.2)) none)) none))) none :=
  blkE (cs := pgA_271) rfl [22, 71] 19 _ _ _ _
/-- OneAtATimeModel.starts(II)I -/
theorem ce_272 (d : Nat) (σ : HP) (x0 x1 x2 : Int) : clR PG0 MX (d + 1) 272 [vR x0, vI x1, vI x2] σ = rsP PG0 MX d 272 0 [vR x0, vI x1, vI x2, vU] [] σ := rfl
set_option maxRecDepth 100000 in
theorem sg_272_0 (d : Nat) (σ : HP) (x0 x1 x2 : Int) : rsP PG0 MX d 272 0 [vR x0, vI x1, vI x2, vU] [] σ =
    cnd (0 < x0 ∧ x0 < σ (-1) 0 ∧ σ x0 (-1) = 9) (bnd (clR PG0 MX d 221 [vR x0, vI x1, vI x2] σ) (fun q1 => 
    cnd (wr q1.1 ≠ 0)
        (cnd (0 < x0 ∧ x0 < q1.2 (-1) 0 ∧ q1.2 x0 (-1) = 9) (bnd (clR PG0 MX d 181 [vR x0, vI x1, vI 3] q1.2) (fun q2 => 
        cnd (0 < x0 ∧ x0 < q2.2 (-1) 0 ∧ q2.2 x0 (-1) = 9) (bnd (clR PG0 MX d 273 [vR x0, vI x1] q2.2) (fun q3 => 
          cnd (0 < x0 ∧ x0 < q3.2 (-1) 0 ∧ q3.2 x0 (-1) = 9) (bnd (clR PG0 MX d 245 [vR x0, vI x1, vI x2, vI q2.1] q3.2) (fun q4 => 
            some (q4.1, q4.2))) none)) none)) none)
        (some ((-2), q1.2)))) none :=
  blkE (cs := pgA_272) rfl [] 20 _ _ _ _
/-- OneAtATimeModel.laysMade(I)V -/
theorem ce_273 (d : Nat) (σ : HP) (x0 x1 : Int) : clR PG0 MX (d + 1) 273 [vR x0, vI x1] σ = rsP PG0 MX d 273 0 [vR x0, vI x1, vU] [] σ := rfl
set_option maxRecDepth 100000 in
theorem sg_273_0 (d : Nat) (σ : HP) (x0 x1 : Int) : rsP PG0 MX d 273 0 [vR x0, vI x1, vU] [] σ =
    cnd (32 ≤ x0 ∧ x0 < σ (-1) 0 ∧ σ x0 (-1) = 9) (rsP PG0 MX d 273 7 [vR x0, vI x1, vI 0] [] (up σ x0 5 0)) none :=
  blkE (cs := pgA_273) rfl [7] 7 _ _ _ _
set_option maxRecDepth 100000 in
theorem sg_273_7 (d : Nat) (σ : HP) (x0 x1 x2 : Int) : rsP PG0 MX d 273 7 [vR x0, vI x1, vI x2] [] σ =
    cnd (0 < x0 ∧ x0 < σ (-1) 0 ∧ σ x0 (-1) = 9) (bnd (clR PG0 MX d 204 [vR x0, vI x1] σ) (fun q1 => 
    cnd (wr q1.1 ≤ wr x2)
        (some (0, q1.2))
        (cnd (0 < x0 ∧ x0 < q1.2 (-1) 0 ∧ q1.2 x0 (-1) = 9) (bnd (clR PG0 MX d 205 [vR x0, vI x1, vI x2] q1.2) (fun q2 => 
        cnd (0 < x0 ∧ x0 < q2.2 (-1) 0 ∧ q2.2 x0 (-1) = 9) (bnd (clR PG0 MX d 196 [vR x0, vI q2.1] q2.2) (fun q3 => 
          rsP PG0 MX d 273 7 [vR x0, vI x1, vI (x2 + 1)] [] q3.2)) none)) none))) none :=
  blkE (cs := pgA_273) rfl [7] 15 _ _ _ _
/-- OneAtATimeModel.swaps(III)I -/
theorem ce_274 (d : Nat) (σ : HP) (x0 x1 x2 x3 : Int) : clR PG0 MX (d + 1) 274 [vR x0, vI x1, vI x2, vI x3] σ = rsP PG0 MX d 274 0 [vR x0, vI x1, vI x2, vI x3, vU, vU, vU] [] σ := rfl
set_option maxRecDepth 100000 in
theorem sg_274_0 (d : Nat) (σ : HP) (x0 x1 x2 x3 : Int) : rsP PG0 MX d 274 0 [vR x0, vI x1, vI x2, vI x3, vU, vU, vU] [] σ =
    cnd (0 < x0 ∧ x0 < σ (-1) 0 ∧ σ x0 (-1) = 9) (bnd (clR PG0 MX d 224 [vR x0, vI x1, vI x2] σ) (fun q1 => 
    cnd (wr q1.1 = 0)
        (some ((-2), q1.2))
        (cnd (0 < x0 ∧ x0 < q1.2 (-1) 0 ∧ q1.2 x0 (-1) = 9) (bnd (clR PG0 MX d 224 [vR x0, vI x1, vI x3] q1.2) (fun q2 => 
        cnd (wr q2.1 ≠ 0)
            (cnd (0 < x0 ∧ x0 < q2.2 (-1) 0 ∧ q2.2 x0 (-1) = 9) (bnd (clR PG0 MX d 273 [vR x0, vI x1] q2.2) (fun q3 => 
            rsP PG0 MX d 274 32 [vR x0, vI x1, vI x2, vI x3, vI 0, vI 0, vU] [] q3.2)) none)
            (some ((-2), q2.2)))) none))) none :=
  blkE (cs := pgA_274) rfl [32, 78, 147, 168] 19 _ _ _ _
set_option maxRecDepth 100000 in
theorem sg_274_32 (d : Nat) (σ : HP) (x0 x1 x2 x3 x4 x5 : Int) (u6 : MV) : rsP PG0 MX d 274 32 [vR x0, vI x1, vI x2, vI x3, vI x4, vI x5, u6] [] σ =
    cnd (32 ≤ x0 ∧ x0 < σ (-1) 0 ∧ σ x0 (-1) = 9) (cnd (wr (σ x0 5) ≤ wr x5)
      (cnd (0 < x0 ∧ x0 < σ (-1) 0 ∧ σ x0 (-1) = 9) (bnd (clR PG0 MX d 181 [vR x0, vI x1, vI 3] σ) (fun q1 => 
      bnd (clR PG0 MX d 216 [vI q1.1, vI x2] q1.2) (fun q2 => 
        cnd (wr q2.1 = 0)
            (rsP PG0 MX d 274 147 [vR x0, vI x1, vI x2, vI x3, vI x4, vI q1.1, vI (i_and q1.1 (i_xor (i_or (i_shl 1 x2) (i_shl 1 x3)) ((-1))))] [vI 0, vI (i_and q1.1 (i_xor (i_or (i_shl 1 x2) (i_shl 1 x3)) ((-1))))] q2.2)
            (rsP PG0 MX d 274 147 [vR x0, vI x1, vI x2, vI x3, vI x4, vI q1.1, vI (i_and q1.1 (i_xor (i_or (i_shl 1 x2) (i_shl 1 x3)) ((-1))))] [vI (i_shl 1 x3), vI (i_and q1.1 (i_xor (i_or (i_shl 1 x2) (i_shl 1 x3)) ((-1))))] q2.2)))) none)
      (cnd (32 ≤ x0 ∧ x0 < σ (-1) 0 ∧ σ x0 (-1) = 9) (cnd (0 < (σ x0 4) ∧ (σ x0 4) < σ (-1) 0 ∧ σ (σ x0 4) (-1) = 20 ∧ 0 ≤ wr x5 ∧ wr x5 < σ (σ x0 4) (-2)) (cnd (32 ≤ x0 ∧ x0 < σ (-1) 0 ∧ σ x0 (-1) = 9) (cnd (wr (σ (σ x0 4) (wr x5)) ≠ wr x2)
        (cnd (wr (σ (σ x0 4) (wr x5)) ≠ wr x3)
          (rsP PG0 MX d 274 78 [vR x0, vI x1, vI x2, vI x3, vI x4, vI x5, vI (σ (σ x0 4) (wr x5))] [vI (σ (σ x0 4) (wr x5)), vI x5, vR (σ x0 4)] σ)
          (rsP PG0 MX d 274 78 [vR x0, vI x1, vI x2, vI x3, vI x4, vI x5, vI (σ (σ x0 4) (wr x5))] [vI x2, vI x5, vR (σ x0 4)] σ))
        (rsP PG0 MX d 274 78 [vR x0, vI x1, vI x2, vI x3, vI x4, vI x5, vI (σ (σ x0 4) (wr x5))] [vI x3, vI x5, vR (σ x0 4)] σ)) none) none) none)) none :=
  blkE (cs := pgA_274) rfl [32, 78, 147, 168] 32 _ _ _ _
set_option maxRecDepth 100000 in
theorem sg_274_78 (d : Nat) (σ : HP) (x0 x1 x2 x3 x4 x5 x6 y0 y1 y2 : Int) : rsP PG0 MX d 274 78 [vR x0, vI x1, vI x2, vI x3, vI x4, vI x5, vI x6] [vI y2, vI y1, vR y0] σ =
    cnd (32 ≤ y0 ∧ y0 < σ (-1) 0 ∧ σ y0 (-1) = 20 ∧ 0 ≤ wr y1 ∧ wr y1 < σ y0 (-2)) (cnd (32 ≤ x0 ∧ x0 < (up σ y0 (wr y1) y2) (-1) 0 ∧ (up σ y0 (wr y1) y2) x0 (-1) = 9) (cnd (0 < ((up σ y0 (wr y1) y2) x0 4) ∧ ((up σ y0 (wr y1) y2) x0 4) < (up σ y0 (wr y1) y2) (-1) 0 ∧ (up σ y0 (wr y1) y2) ((up σ y0 (wr y1) y2) x0 4) (-1) = 20 ∧ 0 ≤ wr x5 ∧ wr x5 < (up σ y0 (wr y1) y2) ((up σ y0 (wr y1) y2) x0 4) (-2)) (cnd (wr ((up σ y0 (wr y1) y2) ((up σ y0 (wr y1) y2) x0 4) (wr x5)) ≠ wr x6)
      (rsP PG0 MX d 274 32 [vR x0, vI x1, vI x2, vI x3, vI (x4 + 1), vI (x5 + 1), vU] [] (up σ y0 (wr y1) y2))
      (rsP PG0 MX d 274 32 [vR x0, vI x1, vI x2, vI x3, vI (x4 + 0), vI (x5 + 1), vU] [] (up σ y0 (wr y1) y2))) none) none) none :=
  blkE (cs := pgA_274) rfl [32, 78, 147, 168] 16 _ _ _ _
set_option maxRecDepth 100000 in
theorem sg_274_147 (d : Nat) (σ : HP) (x0 x1 x2 x3 x4 x5 y0 y1 : Int) (u6 : MV) : rsP PG0 MX d 274 147 [vR x0, vI x1, vI x2, vI x3, vI x4, vI x5, u6] [vI y1, vI y0] σ =
    bnd (clR PG0 MX d 216 [vI x5, vI x3] σ) (fun q1 => 
    cnd (wr q1.1 = 0)
        (rsP PG0 MX d 274 168 [vR x0, vI x1, vI x2, vI x3, vI x4, vI x5, vI (i_or y0 y1)] [vI 0, vI (i_or y0 y1)] q1.2)
        (rsP PG0 MX d 274 168 [vR x0, vI x1, vI x2, vI x3, vI x4, vI x5, vI (i_or y0 y1)] [vI (i_shl 1 x2), vI (i_or y0 y1)] q1.2)) :=
  blkE (cs := pgA_274) rfl [32, 78, 147, 168] 13 _ _ _ _
set_option maxRecDepth 100000 in
theorem sg_274_168 (d : Nat) (σ : HP) (x0 x1 x4 y0 y1 : Int) (u2 u3 u5 u6 : MV) : rsP PG0 MX d 274 168 [vR x0, vI x1, u2, u3, vI x4, u5, u6] [vI y1, vI y0] σ =
    cnd (0 < x0 ∧ x0 < σ (-1) 0 ∧ σ x0 (-1) = 9) (bnd (clR PG0 MX d 245 [vR x0, vI x1, vI (i_or y0 y1), vI x4] σ) (fun q1 => 
    some (q1.1, q1.2))) none :=
  blkE (cs := pgA_274) rfl [32, 78, 147, 168] 9 _ _ _ _
/-- OneAtATimeModel.reverse(I)I -/
theorem ce_275 (d : Nat) (σ : HP) (x0 x1 : Int) : clR PG0 MX (d + 1) 275 [vR x0, vI x1] σ = rsP PG0 MX d 275 0 [vR x0, vI x1, vU] [] σ := rfl
set_option maxRecDepth 100000 in
theorem sg_275_0 (d : Nat) (σ : HP) (x0 x1 : Int) : rsP PG0 MX d 275 0 [vR x0, vI x1, vU] [] σ =
    cnd (0 < x0 ∧ x0 < σ (-1) 0 ∧ σ x0 (-1) = 9) (bnd (clR PG0 MX d 180 [vR x0, vI x1] σ) (fun q1 => 
    cnd (wr q1.1 ≠ 0)
        (cnd (0 < x0 ∧ x0 < q1.2 (-1) 0 ∧ q1.2 x0 (-1) = 9) (bnd (clR PG0 MX d 203 [vR x0, vI x1] q1.2) (fun q2 => 
        cnd (32 ≤ x0 ∧ x0 < q2.2 (-1) 0 ∧ q2.2 x0 (-1) = 9) (cnd (0 < x0 ∧ x0 < q2.2 (-1) 0 ∧ q2.2 x0 (-1) = 9) (bnd (clR PG0 MX d 204 [vR x0, vI x1] q2.2) (fun q3 => 
          cnd (0 < (q2.2 x0 15) ∧ (q2.2 x0 15) < q3.2 (-1) 0 ∧ q3.2 (q2.2 x0 15) (-1) = 20 ∧ 0 ≤ wr q3.1 ∧ wr q3.1 < q3.2 (q2.2 x0 15) (-2)) (cnd (32 ≤ x0 ∧ x0 < q3.2 (-1) 0 ∧ q3.2 x0 (-1) = 9) (cnd (0 < x0 ∧ x0 < (up q3.2 x0 5 0) (-1) 0 ∧ (up q3.2 x0 5 0) x0 (-1) = 9) (bnd (clR PG0 MX d 204 [vR x0, vI x1] (up q3.2 x0 5 0)) (fun q4 => 
            cnd (0 < x0 ∧ x0 < q4.2 (-1) 0 ∧ q4.2 x0 (-1) = 9) (bnd (clR PG0 MX d 255 [vR x0, vI x1, vI 0, vI q4.1] q4.2) (fun q5 => 
              rsP PG0 MX d 275 43 [vR x0, vI x1, vI (q3.2 (q2.2 x0 15) (wr q3.1))] [] q5.2)) none)) none) none) none)) none) none)) none)
        (some ((-2), q1.2)))) none :=
  blkE (cs := pgA_275) rfl [43] 26 _ _ _ _
set_option maxRecDepth 100000 in
theorem sg_275_43 (d : Nat) (σ : HP) (x0 x1 x2 : Int) : rsP PG0 MX d 275 43 [vR x0, vI x1, vI x2] [] σ =
    cnd (0 < x0 ∧ x0 < σ (-1) 0 ∧ σ x0 (-1) = 9) (bnd (clR PG0 MX d 245 [vR x0, vI x1, vI x2, vI x2] σ) (fun q1 => 
    some (q1.1, q1.2))) none :=
  blkE (cs := pgA_275) rfl [43] 7 _ _ _ _
/-- OneAtATimeModel.rolls(II)I -/
theorem ce_276 (d : Nat) (σ : HP) (x0 x1 x2 : Int) : clR PG0 MX (d + 1) 276 [vR x0, vI x1, vI x2] σ = rsP PG0 MX d 276 0 [vR x0, vI x1, vI x2, vU] [] σ := rfl
set_option maxRecDepth 100000 in
theorem sg_276_0 (d : Nat) (σ : HP) (x0 x1 x2 : Int) : rsP PG0 MX d 276 0 [vR x0, vI x1, vI x2, vU] [] σ =
    cnd (0 < x0 ∧ x0 < σ (-1) 0 ∧ σ x0 (-1) = 9) (bnd (clR PG0 MX d 180 [vR x0, vI x1] σ) (fun q1 => 
    cnd (wr q1.1 = 0)
        (some ((-2), q1.2))
        (cnd (0 < x0 ∧ x0 < q1.2 (-1) 0 ∧ q1.2 x0 (-1) = 9) (bnd (clR PG0 MX d 204 [vR x0, vI x1] q1.2) (fun q2 => 
        bnd (clR PG0 MX d 179 [vL (wr x2), vL 0, vL (wr (q2.1 - 1))] q2.2) (fun q3 => 
          cnd (wr q3.1 ≠ 0)
              (cnd (0 < x0 ∧ x0 < q3.2 (-1) 0 ∧ q3.2 x0 (-1) = 9) (bnd (clR PG0 MX d 203 [vR x0, vI x1] q3.2) (fun q4 => 
              rsP PG0 MX d 276 33 [vR x0, vI x1, vI x2, vU] [] q4.2)) none)
              (some ((-2), q3.2))))) none))) none :=
  blkE (cs := pgA_276) rfl [33] 20 _ _ _ _
set_option maxRecDepth 100000 in
theorem sg_276_33 (d : Nat) (σ : HP) (x0 x1 x2 : Int) (u3 : MV) : rsP PG0 MX d 276 33 [vR x0, vI x1, vI x2, u3] [] σ =
    cnd (32 ≤ x0 ∧ x0 < σ (-1) 0 ∧ σ x0 (-1) = 9) (cnd (wr (σ x0 18) ≠ 0)
      (cnd (32 ≤ x0 ∧ x0 < σ (-1) 0 ∧ σ x0 (-1) = 9) (cnd (0 < (σ x0 15) ∧ (σ x0 15) < σ (-1) 0 ∧ σ (σ x0 15) (-1) = 20 ∧ 0 ≤ wr x2 ∧ wr x2 < σ (σ x0 15) (-2)) (cnd (32 ≤ x0 ∧ x0 < σ (-1) 0 ∧ σ x0 (-1) = 9) (cnd (0 < x0 ∧ x0 < (up σ x0 5 0) (-1) 0 ∧ (up σ x0 5 0) x0 (-1) = 9) (bnd (clR PG0 MX d 204 [vR x0, vI x1] (up σ x0 5 0)) (fun q1 => 
      cnd (0 < x0 ∧ x0 < q1.2 (-1) 0 ∧ q1.2 x0 (-1) = 9) (bnd (clR PG0 MX d 254 [vR x0, vI x1, vI x2, vI q1.1] q1.2) (fun q2 => 
        cnd (0 < x0 ∧ x0 < q2.2 (-1) 0 ∧ q2.2 x0 (-1) = 9) (bnd (clR PG0 MX d 254 [vR x0, vI x1, vI 0, vI x2] q2.2) (fun q3 => 
          cnd (0 < x0 ∧ x0 < q3.2 (-1) 0 ∧ q3.2 x0 (-1) = 9) (bnd (clR PG0 MX d 245 [vR x0, vI x1, vI (σ (σ x0 15) (wr x2)), vI (σ (σ x0 15) (wr x2))] q3.2) (fun q4 => 
            some (q4.1, q4.2))) none)) none)) none)) none) none) none) none)
      (some ((-6), σ))) none :=
  blkE (cs := pgA_276) rfl [33] 30 _ _ _ _
/-- OneAtATimeModel.adds(II)I -/
theorem ce_277 (d : Nat) (σ : HP) (x0 x1 x2 : Int) : clR PG0 MX (d + 1) 277 [vR x0, vI x1, vI x2] σ = rsP PG0 MX d 277 0 [vR x0, vI x1, vI x2] [] σ := rfl
set_option maxRecDepth 100000 in
theorem sg_277_0 (d : Nat) (σ : HP) (x0 x1 x2 : Int) : rsP PG0 MX d 277 0 [vR x0, vI x1, vI x2] [] σ =
    cnd (0 < x0 ∧ x0 < σ (-1) 0 ∧ σ x0 (-1) = 9) (bnd (clR PG0 MX d 224 [vR x0, vI x1, vI x2] σ) (fun q1 => 
    cnd (wr q1.1 ≠ 0)
        (cnd (0 < x0 ∧ x0 < q1.2 (-1) 0 ∧ q1.2 x0 (-1) = 9) (bnd (clR PG0 MX d 204 [vR x0, vI x1] q1.2) (fun q2 => 
        cnd (wr q2.1 ≠ wr 256)
            (cnd (0 < x0 ∧ x0 < q2.2 (-1) 0 ∧ q2.2 x0 (-1) = 9) (bnd (clR PG0 MX d 273 [vR x0, vI x1] q2.2) (fun q3 => 
            cnd (0 < x0 ∧ x0 < q3.2 (-1) 0 ∧ q3.2 x0 (-1) = 9) (bnd (clR PG0 MX d 196 [vR x0, vI x2] q3.2) (fun q4 => 
              rsP PG0 MX d 277 36 [vR x0, vI x1, vI x2] [] q4.2)) none)) none)
            (some ((-5), q2.2)))) none)
        (some ((-2), q1.2)))) none :=
  blkE (cs := pgA_277) rfl [36, 64] 18 _ _ _ _
set_option maxRecDepth 100000 in
theorem sg_277_36 (d : Nat) (σ : HP) (x0 x1 x2 : Int) : rsP PG0 MX d 277 36 [vR x0, vI x1, vI x2] [] σ =
    cnd (0 < x0 ∧ x0 < σ (-1) 0 ∧ σ x0 (-1) = 9) (bnd (clR PG0 MX d 207 [vR x0, vI x1] σ) (fun q1 => 
    cnd (0 < x0 ∧ x0 < q1.2 (-1) 0 ∧ q1.2 x0 (-1) = 9) (bnd (clR PG0 MX d 181 [vR x0, vI x1, vI 1] q1.2) (fun q2 => 
      cnd (0 < x0 ∧ x0 < q2.2 (-1) 0 ∧ q2.2 x0 (-1) = 9) (bnd (clR PG0 MX d 181 [vR x0, vI x1, vI 2] q2.2) (fun q3 => 
        cnd (0 < x0 ∧ x0 < q3.2 (-1) 0 ∧ q3.2 x0 (-1) = 9) (bnd (clR PG0 MX d 181 [vR x0, vI x1, vI 3] q3.2) (fun q4 => 
          cnd (0 < x0 ∧ x0 < q4.2 (-1) 0 ∧ q4.2 x0 (-1) = 9) (bnd (clR PG0 MX d 182 [vR x0, vI x1, vI q1.1, vI q2.1, vI q3.1, vI q4.1] q4.2) (fun q5 => 
            rsP PG0 MX d 277 64 [vR x0, vI x1, vI x2] [] q5.2)) none)) none)) none)) none)) none :=
  blkE (cs := pgA_277) rfl [36, 64] 20 _ _ _ _
set_option maxRecDepth 100000 in
theorem sg_277_64 (d : Nat) (σ : HP) (x0 x1 x2 : Int) : rsP PG0 MX d 277 64 [vR x0, vI x1, vI x2] [] σ =
    cnd (0 < x0 ∧ x0 < σ (-1) 0 ∧ σ x0 (-1) = 9) (bnd (clR PG0 MX d 203 [vR x0, vI x1] σ) (fun q1 => 
    cnd (32 ≤ x0 ∧ x0 < q1.2 (-1) 0 ∧ q1.2 x0 (-1) = 9) (cnd (0 < x0 ∧ x0 < q1.2 (-1) 0 ∧ q1.2 x0 (-1) = 9) (bnd (clR PG0 MX d 204 [vR x0, vI x1] q1.2) (fun q2 => 
      cnd (0 < (q1.2 x0 15) ∧ (q1.2 x0 15) < q2.2 (-1) 0 ∧ q2.2 (q1.2 x0 15) (-1) = 20 ∧ 0 ≤ wr q2.1 ∧ wr q2.1 < q2.2 (q1.2 x0 15) (-2)) (cnd (0 < x0 ∧ x0 < q2.2 (-1) 0 ∧ q2.2 x0 (-1) = 9) (bnd (clR PG0 MX d 184 [vR x0, vI (q2.2 (q1.2 x0 15) (wr q2.1))] q2.2) (fun q3 => 
        some (q3.1, q3.2))) none) none)) none) none)) none :=
  blkE (cs := pgA_277) rfl [36, 64] 13 _ _ _ _
/-- OneAtATimeModel.cuts(II)I -/
theorem ce_278 (d : Nat) (σ : HP) (x0 x1 x2 : Int) : clR PG0 MX (d + 1) 278 [vR x0, vI x1, vI x2] σ = rsP PG0 MX d 278 0 [vR x0, vI x1, vI x2] [] σ := rfl
set_option maxRecDepth 100000 in
theorem sg_278_0 (d : Nat) (σ : HP) (x0 x1 x2 : Int) : rsP PG0 MX d 278 0 [vR x0, vI x1, vI x2] [] σ =
    cnd (0 < x0 ∧ x0 < σ (-1) 0 ∧ σ x0 (-1) = 9) (bnd (clR PG0 MX d 180 [vR x0, vI x1] σ) (fun q1 => 
    cnd (wr q1.1 = 0)
        (some ((-2), q1.2))
        (cnd (0 < x0 ∧ x0 < q1.2 (-1) 0 ∧ q1.2 x0 (-1) = 9) (bnd (clR PG0 MX d 204 [vR x0, vI x1] q1.2) (fun q2 => 
        bnd (clR PG0 MX d 179 [vL (wr x2), vL 1, vL (wr q2.1)] q2.2) (fun q3 => 
          cnd (wr q3.1 ≠ 0)
              (cnd (0 < x0 ∧ x0 < q3.2 (-1) 0 ∧ q3.2 x0 (-1) = 9) (bnd (clR PG0 MX d 273 [vR x0, vI x1] q3.2) (fun q4 => 
              rsP PG0 MX d 278 31 [vR x0, vI x1, vI x2] [] q4.2)) none)
              (some ((-2), q3.2))))) none))) none :=
  blkE (cs := pgA_278) rfl [31, 69] 18 _ _ _ _
set_option maxRecDepth 100000 in
theorem sg_278_31 (d : Nat) (σ : HP) (x0 x1 x2 : Int) : rsP PG0 MX d 278 31 [vR x0, vI x1, vI x2] [] σ =
    cnd (32 ≤ x0 ∧ x0 < σ (-1) 0 ∧ σ x0 (-1) = 9) (cnd (32 ≤ x0 ∧ x0 < σ (-1) 0 ∧ σ x0 (-1) = 9) (cnd (0 < x0 ∧ x0 < (up σ x0 5 ((σ x0 5) - x2)) (-1) 0 ∧ (up σ x0 5 ((σ x0 5) - x2)) x0 (-1) = 9) (bnd (clR PG0 MX d 207 [vR x0, vI x1] (up σ x0 5 ((σ x0 5) - x2))) (fun q1 => 
    cnd (0 < x0 ∧ x0 < q1.2 (-1) 0 ∧ q1.2 x0 (-1) = 9) (bnd (clR PG0 MX d 181 [vR x0, vI x1, vI 1] q1.2) (fun q2 => 
      cnd (0 < x0 ∧ x0 < q2.2 (-1) 0 ∧ q2.2 x0 (-1) = 9) (bnd (clR PG0 MX d 181 [vR x0, vI x1, vI 2] q2.2) (fun q3 => 
        cnd (0 < x0 ∧ x0 < q3.2 (-1) 0 ∧ q3.2 x0 (-1) = 9) (bnd (clR PG0 MX d 181 [vR x0, vI x1, vI 3] q3.2) (fun q4 => 
          cnd (0 < x0 ∧ x0 < q4.2 (-1) 0 ∧ q4.2 x0 (-1) = 9) (bnd (clR PG0 MX d 182 [vR x0, vI x1, vI q1.1, vI q2.1, vI q3.1, vI q4.1] q4.2) (fun q5 => 
            rsP PG0 MX d 278 69 [vR x0, vI x1, vI x2] [] q5.2)) none)) none)) none)) none)) none) none) none :=
  blkE (cs := pgA_278) rfl [31, 69] 26 _ _ _ _
set_option maxRecDepth 100000 in
theorem sg_278_69 (d : Nat) (σ : HP) (x0 x1 x2 : Int) : rsP PG0 MX d 278 69 [vR x0, vI x1, vI x2] [] σ =
    cnd (32 ≤ x0 ∧ x0 < σ (-1) 0 ∧ σ x0 (-1) = 9) (cnd (0 < x0 ∧ x0 < σ (-1) 0 ∧ σ x0 (-1) = 9) (bnd (clR PG0 MX d 184 [vR x0, vI (σ x0 5)] σ) (fun q1 => 
    some (q1.1, q1.2))) none) none :=
  blkE (cs := pgA_278) rfl [31, 69] 6 _ _ _ _
/-- OneAtATimeModel.alike(II)I -/
theorem ce_279 (d : Nat) (σ : HP) (x0 x1 x2 : Int) : clR PG0 MX (d + 1) 279 [vR x0, vI x1, vI x2] σ = rsP PG0 MX d 279 0 [vR x0, vI x1, vI x2, vU, vU] [] σ := rfl
set_option maxRecDepth 100000 in
theorem sg_279_0 (d : Nat) (σ : HP) (x0 x1 x2 : Int) : rsP PG0 MX d 279 0 [vR x0, vI x1, vI x2, vU, vU] [] σ =
    cnd (0 < x0 ∧ x0 < σ (-1) 0 ∧ σ x0 (-1) = 9) (bnd (clR PG0 MX d 180 [vR x0, vI x1] σ) (fun q1 => 
    cnd (wr q1.1 = 0)
        (some ((-2), q1.2))
        (cnd (0 < x0 ∧ x0 < q1.2 (-1) 0 ∧ q1.2 x0 (-1) = 9) (bnd (clR PG0 MX d 180 [vR x0, vI x2] q1.2) (fun q2 => 
        cnd (wr q2.1 ≠ 0)
            (cnd (0 < x0 ∧ x0 < q2.2 (-1) 0 ∧ q2.2 x0 (-1) = 9) (bnd (clR PG0 MX d 280 [vR x0, vI x1] q2.2) (fun q3 => 
            cnd (0 < x0 ∧ x0 < q3.2 (-1) 0 ∧ q3.2 x0 (-1) = 9) (bnd (clR PG0 MX d 204 [vR x0, vI x1] q3.2) (fun q4 => 
              cnd (0 < x0 ∧ x0 < q4.2 (-1) 0 ∧ q4.2 x0 (-1) = 9) (bnd (clR PG0 MX d 204 [vR x0, vI x2] q4.2) (fun q5 => 
                cnd (wr q4.1 ≠ wr q5.1)
                    (rsP PG0 MX d 279 47 [vR x0, vI x1, vI x2, vI q3.1, vU] [] q5.2)
                    (rsP PG0 MX d 279 38 [vR x0, vI x1, vI x2, vI q3.1, vU] [] q5.2))) none)) none)) none)
            (some ((-2), q2.2)))) none))) none :=
  blkE (cs := pgA_279) rfl [38, 47, 73] 21 _ _ _ _
set_option maxRecDepth 100000 in
theorem sg_279_38 (d : Nat) (σ : HP) (x0 x1 x2 x3 : Int) (u4 : MV) : rsP PG0 MX d 279 38 [vR x0, vI x1, vI x2, vI x3, u4] [] σ =
    cnd (0 < x0 ∧ x0 < σ (-1) 0 ∧ σ x0 (-1) = 9) (bnd (clR PG0 MX d 280 [vR x0, vI x2] σ) (fun q1 => 
    cnd (wr x3 = wr q1.1)
        (cnd (wr x3 ≠ 0)
          (rsP PG0 MX d 279 73 [vR x0, vI x1, vI x2, vI x3, vI 0] [] q1.2)
          (cnd (0 < x0 ∧ x0 < q1.2 (-1) 0 ∧ q1.2 x0 (-1) = 9) (bnd (clR PG0 MX d 281 [vR x0, vI x1, vI x2, vI 0, vI 1] q1.2) (fun q2 => 
          cnd (wr q2.1 = 0)
              (some (0, q2.2))
              (some (1, q2.2)))) none))
        (rsP PG0 MX d 279 47 [vR x0, vI x1, vI x2, vI x3, u4] [] q1.2))) none :=
  blkE (cs := pgA_279) rfl [38, 47, 73] 18 _ _ _ _
set_option maxRecDepth 100000 in
theorem sg_279_47 (d : Nat) (σ : HP) (u0 u1 u2 u3 u4 : MV) : rsP PG0 MX d 279 47 [u0, u1, u2, u3, u4] [] σ =
    some (0, σ) :=
  blkE (cs := pgA_279) rfl [38, 47, 73] 3 _ _ _ _
set_option maxRecDepth 100000 in
theorem sg_279_73 (d : Nat) (σ : HP) (x0 x1 x2 x4 : Int) (u3 : MV) : rsP PG0 MX d 279 73 [vR x0, vI x1, vI x2, u3, vI x4] [] σ =
    cnd (0 < x0 ∧ x0 < σ (-1) 0 ∧ σ x0 (-1) = 9) (bnd (clR PG0 MX d 204 [vR x0, vI x1] σ) (fun q1 => 
    cnd (wr q1.1 ≤ wr x4)
        (some (0, q1.2))
        (cnd (0 < x0 ∧ x0 < q1.2 (-1) 0 ∧ q1.2 x0 (-1) = 9) (bnd (clR PG0 MX d 281 [vR x0, vI x1, vI x2, vI x4, vI 1] q1.2) (fun q2 => 
        cnd (wr q2.1 ≠ 0)
            (some (1, q2.2))
            (cnd (0 < x0 ∧ x0 < q2.2 (-1) 0 ∧ q2.2 x0 (-1) = 9) (bnd (clR PG0 MX d 281 [vR x0, vI x1, vI x2, vI x4, vI 0] q2.2) (fun q3 => 
            cnd (wr q3.1 = 0)
                (rsP PG0 MX d 279 73 [vR x0, vI x1, vI x2, vU, vI (x4 + 1)] [] q3.2)
                (some (1, q3.2)))) none))) none))) none :=
  blkE (cs := pgA_279) rfl [38, 47, 73] 23 _ _ _ _
/-- OneAtATimeModel.isLoopAt(I)Z -/
theorem ce_280 (d : Nat) (σ : HP) (x0 x1 : Int) : clR PG0 MX (d + 1) 280 [vR x0, vI x1] σ = rsP PG0 MX d 280 0 [vR x0, vI x1] [] σ := rfl
set_option maxRecDepth 100000 in
theorem sg_280_0 (d : Nat) (σ : HP) (x0 x1 : Int) : rsP PG0 MX d 280 0 [vR x0, vI x1] [] σ =
    cnd (0 < x0 ∧ x0 < σ (-1) 0 ∧ σ x0 (-1) = 9) (bnd (clR PG0 MX d 203 [vR x0, vI x1] σ) (fun q1 => 
    cnd (32 ≤ x0 ∧ x0 < q1.2 (-1) 0 ∧ q1.2 x0 (-1) = 9) (cnd (q1.2 x0 18 = 0 ∨ q1.2 x0 18 = 1) (some (q1.2 x0 18, q1.2)) none) none)) none :=
  blkE (cs := pgA_280) rfl [] 7 _ _ _ _
/-- OneAtATimeModel.areNamed(IIIZ)Z -/
theorem ce_281 (d : Nat) (σ : HP) (x0 x1 x2 x3 x4 : Int) : clR PG0 MX (d + 1) 281 [vR x0, vI x1, vI x2, vI x3, vI x4] σ = rsP PG0 MX d 281 0 [vR x0, vI x1, vI x2, vI x3, vI x4, vU, vU, vU, vU] [] σ := rfl
set_option maxRecDepth 100000 in
theorem sg_281_0 (d : Nat) (σ : HP) (x0 x1 x2 x3 x4 : Int) : rsP PG0 MX d 281 0 [vR x0, vI x1, vI x2, vI x3, vI x4, vU, vU, vU, vU] [] σ =
    cnd (0 < x0 ∧ x0 < σ (-1) 0 ∧ σ x0 (-1) = 9) (bnd (clR PG0 MX d 204 [vR x0, vI x1] σ) (fun q1 => 
    rsP PG0 MX d 281 10 [vR x0, vI x1, vI x2, vI x3, vI x4, vI q1.1, vI 0, vU, vU] [] q1.2)) none :=
  blkE (cs := pgA_281) rfl [10, 42, 85, 130] 8 _ _ _ _
set_option maxRecDepth 100000 in
theorem sg_281_10 (d : Nat) (σ : HP) (x0 x1 x2 x3 x4 x5 x6 : Int) (u7 u8 : MV) : rsP PG0 MX d 281 10 [vR x0, vI x1, vI x2, vI x3, vI x4, vI x5, vI x6, u7, u8] [] σ =
    cnd (wr 8 ≤ wr x6)
      (rsP PG0 MX d 281 42 [vR x0, vI x1, vI x2, vI x3, vI x4, vI x5, vI 0, vU, vU] [] σ)
      (cnd (32 ≤ x0 ∧ x0 < σ (-1) 0 ∧ σ x0 (-1) = 9) (cnd (32 ≤ (σ x0 25) ∧ (σ x0 25) < σ (-1) 0 ∧ σ (σ x0 25) (-1) = 20 ∧ 0 ≤ wr x6 ∧ wr x6 < σ (σ x0 25) (-2)) (cnd (32 ≤ x0 ∧ x0 < (up σ (σ x0 25) (wr x6) ((-1))) (-1) 0 ∧ (up σ (σ x0 25) (wr x6) ((-1))) x0 (-1) = 9) (cnd (32 ≤ ((up σ (σ x0 25) (wr x6) ((-1))) x0 26) ∧ ((up σ (σ x0 25) (wr x6) ((-1))) x0 26) < (up σ (σ x0 25) (wr x6) ((-1))) (-1) 0 ∧ (up σ (σ x0 25) (wr x6) ((-1))) ((up σ (σ x0 25) (wr x6) ((-1))) x0 26) (-1) = 20 ∧ 0 ≤ wr x6 ∧ wr x6 < (up σ (σ x0 25) (wr x6) ((-1))) ((up σ (σ x0 25) (wr x6) ((-1))) x0 26) (-2)) (rsP PG0 MX d 281 10 [vR x0, vI x1, vI x2, vI x3, vI x4, vI x5, vI (x6 + 1), vU, vU] [] (up (up σ (σ x0 25) (wr x6) ((-1))) ((up σ (σ x0 25) (wr x6) ((-1))) x0 26) (wr x6) ((-1)))) none) none) none) none) :=
  blkE (cs := pgA_281) rfl [10, 42, 85, 130] 17 _ _ _ _
set_option maxRecDepth 100000 in
theorem sg_281_42 (d : Nat) (σ : HP) (x0 x1 x2 x3 x4 x5 x6 : Int) (u7 u8 : MV) : rsP PG0 MX d 281 42 [vR x0, vI x1, vI x2, vI x3, vI x4, vI x5, vI x6, u7, u8] [] σ =
    cnd (wr x5 ≤ wr x6)
      (some (1, σ))
      (cnd (0 < x0 ∧ x0 < σ (-1) 0 ∧ σ x0 (-1) = 9) (bnd (clR PG0 MX d 205 [vR x0, vI x1, vI x6] σ) (fun q1 => 
      cnd (wr x4 = 0)
          (cnd (wr x5 ≠ 0) (rsP PG0 MX d 281 85 [vR x0, vI x1, vI x2, vI x3, vI x4, vI x5, vI x6, vI q1.1, vU] [vI (i_rem ((x3 + x5) - x6) x5), vI x2, vR x0] q1.2) none)
          (cnd (wr x5 ≠ 0) (rsP PG0 MX d 281 85 [vR x0, vI x1, vI x2, vI x3, vI x4, vI x5, vI x6, vI q1.1, vU] [vI (i_rem (x3 + x6) x5), vI x2, vR x0] q1.2) none))) none) :=
  blkE (cs := pgA_281) rfl [10, 42, 85, 130] 21 _ _ _ _
set_option maxRecDepth 100000 in
theorem sg_281_85 (d : Nat) (σ : HP) (x0 x1 x2 x3 x4 x5 x6 x7 y0 y1 y2 : Int) (u8 : MV) : rsP PG0 MX d 281 85 [vR x0, vI x1, vI x2, vI x3, vI x4, vI x5, vI x6, vI x7, u8] [vI y2, vI y1, vR y0] σ =
    cnd (0 < y0 ∧ y0 < σ (-1) 0 ∧ σ y0 (-1) = 9) (bnd (clR PG0 MX d 205 [vR y0, vI y1, vI y2] σ) (fun q1 => 
    cnd (32 ≤ x0 ∧ x0 < q1.2 (-1) 0 ∧ q1.2 x0 (-1) = 9) (cnd (0 < (q1.2 x0 25) ∧ (q1.2 x0 25) < q1.2 (-1) 0 ∧ q1.2 (q1.2 x0 25) (-1) = 20 ∧ 0 ≤ wr x7 ∧ wr x7 < q1.2 (q1.2 x0 25) (-2)) (cnd (wr (q1.2 (q1.2 x0 25) (wr x7)) ≠ wr ((-1)))
        (rsP PG0 MX d 281 130 [vR x0, vI x1, vI x2, vI x3, vI x4, vI x5, vI x6, vI x7, vI q1.1] [] q1.2)
        (cnd (32 ≤ x0 ∧ x0 < q1.2 (-1) 0 ∧ q1.2 x0 (-1) = 9) (cnd (0 < (q1.2 x0 26) ∧ (q1.2 x0 26) < q1.2 (-1) 0 ∧ q1.2 (q1.2 x0 26) (-1) = 20 ∧ 0 ≤ wr q1.1 ∧ wr q1.1 < q1.2 (q1.2 x0 26) (-2)) (cnd (wr (q1.2 (q1.2 x0 26) (wr q1.1)) ≠ wr ((-1)))
          (rsP PG0 MX d 281 130 [vR x0, vI x1, vI x2, vI x3, vI x4, vI x5, vI x6, vI x7, vI q1.1] [] q1.2)
          (cnd (32 ≤ x0 ∧ x0 < q1.2 (-1) 0 ∧ q1.2 x0 (-1) = 9) (cnd (32 ≤ (q1.2 x0 25) ∧ (q1.2 x0 25) < q1.2 (-1) 0 ∧ q1.2 (q1.2 x0 25) (-1) = 20 ∧ 0 ≤ wr x7 ∧ wr x7 < q1.2 (q1.2 x0 25) (-2)) (cnd (32 ≤ x0 ∧ x0 < (up q1.2 (q1.2 x0 25) (wr x7) q1.1) (-1) 0 ∧ (up q1.2 (q1.2 x0 25) (wr x7) q1.1) x0 (-1) = 9) (cnd (32 ≤ ((up q1.2 (q1.2 x0 25) (wr x7) q1.1) x0 26) ∧ ((up q1.2 (q1.2 x0 25) (wr x7) q1.1) x0 26) < (up q1.2 (q1.2 x0 25) (wr x7) q1.1) (-1) 0 ∧ (up q1.2 (q1.2 x0 25) (wr x7) q1.1) ((up q1.2 (q1.2 x0 25) (wr x7) q1.1) x0 26) (-1) = 20 ∧ 0 ≤ wr q1.1 ∧ wr q1.1 < (up q1.2 (q1.2 x0 25) (wr x7) q1.1) ((up q1.2 (q1.2 x0 25) (wr x7) q1.1) x0 26) (-2)) (rsP PG0 MX d 281 130 [vR x0, vI x1, vI x2, vI x3, vI x4, vI x5, vI x6, vI x7, vI q1.1] [] (up (up q1.2 (q1.2 x0 25) (wr x7) q1.1) ((up q1.2 (q1.2 x0 25) (wr x7) q1.1) x0 26) (wr q1.1) x7)) none) none) none) none)) none) none)) none) none)) none :=
  blkE (cs := pgA_281) rfl [10, 42, 85, 130] 26 _ _ _ _
set_option maxRecDepth 100000 in
theorem sg_281_130 (d : Nat) (σ : HP) (x0 x1 x2 x3 x4 x5 x6 x7 x8 : Int) : rsP PG0 MX d 281 130 [vR x0, vI x1, vI x2, vI x3, vI x4, vI x5, vI x6, vI x7, vI x8] [] σ =
    cnd (32 ≤ x0 ∧ x0 < σ (-1) 0 ∧ σ x0 (-1) = 9) (cnd (0 < (σ x0 25) ∧ (σ x0 25) < σ (-1) 0 ∧ σ (σ x0 25) (-1) = 20 ∧ 0 ≤ wr x7 ∧ wr x7 < σ (σ x0 25) (-2)) (cnd (wr (σ (σ x0 25) (wr x7)) ≠ wr x8)
      (some (0, σ))
      (cnd (32 ≤ x0 ∧ x0 < σ (-1) 0 ∧ σ x0 (-1) = 9) (cnd (0 < (σ x0 26) ∧ (σ x0 26) < σ (-1) 0 ∧ σ (σ x0 26) (-1) = 20 ∧ 0 ≤ wr x8 ∧ wr x8 < σ (σ x0 26) (-2)) (cnd (wr (σ (σ x0 26) (wr x8)) = wr x7)
        (rsP PG0 MX d 281 42 [vR x0, vI x1, vI x2, vI x3, vI x4, vI x5, vI (x6 + 1), vI x7, vI x8] [] σ)
        (some (0, σ))) none) none)) none) none :=
  blkE (cs := pgA_281) rfl [10, 42, 85, 130] 16 _ _ _ _
/-- OneAtATimeModel.tell(II)I -/
theorem ce_282 (d : Nat) (σ : HP) (x0 x1 x2 : Int) : clR PG0 MX (d + 1) 282 [vR x0, vI x1, vI x2] σ = rsP PG0 MX d 282 0 [vR x0, vI x1, vI x2, vU, vU] [] σ := rfl
set_option maxRecDepth 100000 in
theorem sg_282_0 (d : Nat) (σ : HP) (x0 x1 x2 : Int) : rsP PG0 MX d 282 0 [vR x0, vI x1, vI x2, vU, vU] [] σ =
    cnd (0 < x0 ∧ x0 < σ (-1) 0 ∧ σ x0 (-1) = 9) (bnd (clR PG0 MX d 180 [vR x0, vI x1] σ) (fun q1 => 
    cnd (wr q1.1 = 0)
        (some ((-2), q1.2))
        (bnd (clR PG0 MX d 179 [vL (wr x2), vL 0, vL 1] q1.2) (fun q2 => 
        cnd (wr q2.1 ≠ 0)
            (cnd (32 ≤ x0 ∧ x0 < q2.2 (-1) 0 ∧ q2.2 x0 (-1) = 9) (cnd (wr x2 ≠ 0)
              (cnd (0 < x0 ∧ x0 < (up q2.2 x0 28 0) (-1) 0 ∧ (up q2.2 x0 28 0) x0 (-1) = 9) (bnd (clR PG0 MX d 203 [vR x0, vI x1] (up q2.2 x0 28 0)) (fun q3 => 
              rsP PG0 MX d 282 150 [vR x0, vI x1, vI x2, vI 0, vU] [] q3.2)) none)
              (cnd (0 < x0 ∧ x0 < (up q2.2 x0 28 0) (-1) 0 ∧ (up q2.2 x0 28 0) x0 (-1) = 9) (bnd (clR PG0 MX d 283 [vR x0, vR 8] (up q2.2 x0 28 0)) (fun q4 => 
              cnd (0 < x0 ∧ x0 < q4.2 (-1) 0 ∧ q4.2 x0 (-1) = 9) (bnd (clR PG0 MX d 207 [vR x0, vI x1] q4.2) (fun q5 => 
                cnd (0 < x0 ∧ x0 < q5.2 (-1) 0 ∧ q5.2 x0 (-1) = 9) (bnd (clR PG0 MX d 284 [vR x0, vI q5.1] q5.2) (fun q6 => 
                  rsP PG0 MX d 282 46 [vR x0, vI x1, vI x2, vU, vU] [] q6.2)) none)) none)) none)) none)
            (some ((-2), q2.2)))))) none :=
  blkE (cs := pgA_282) rfl [46, 70, 97, 106, 150, 167, 192] 25 _ _ _ _
set_option maxRecDepth 100000 in
theorem sg_282_46 (d : Nat) (σ : HP) (x0 x1 x2 : Int) (u3 u4 : MV) : rsP PG0 MX d 282 46 [vR x0, vI x1, vI x2, u3, u4] [] σ =
    cnd (0 < x0 ∧ x0 < σ (-1) 0 ∧ σ x0 (-1) = 9) (bnd (clR PG0 MX d 283 [vR x0, vR 2] σ) (fun q1 => 
    cnd (0 < x0 ∧ x0 < q1.2 (-1) 0 ∧ q1.2 x0 (-1) = 9) (bnd (clR PG0 MX d 181 [vR x0, vI x1, vI 1] q1.2) (fun q2 => 
      cnd (0 < x0 ∧ x0 < q2.2 (-1) 0 ∧ q2.2 x0 (-1) = 9) (bnd (clR PG0 MX d 284 [vR x0, vI q2.1] q2.2) (fun q3 => 
        cnd (0 < x0 ∧ x0 < q3.2 (-1) 0 ∧ q3.2 x0 (-1) = 9) (bnd (clR PG0 MX d 283 [vR x0, vR 4] q3.2) (fun q4 => 
          rsP PG0 MX d 282 70 [vR x0, vI x1, vI x2, u3, u4] [] q4.2)) none)) none)) none)) none :=
  blkE (cs := pgA_282) rfl [46, 70, 97, 106, 150, 167, 192] 14 _ _ _ _
set_option maxRecDepth 100000 in
theorem sg_282_70 (d : Nat) (σ : HP) (x0 x1 x2 : Int) (u3 u4 : MV) : rsP PG0 MX d 282 70 [vR x0, vI x1, vI x2, u3, u4] [] σ =
    cnd (0 < x0 ∧ x0 < σ (-1) 0 ∧ σ x0 (-1) = 9) (bnd (clR PG0 MX d 181 [vR x0, vI x1, vI 2] σ) (fun q1 => 
    cnd (0 < x0 ∧ x0 < q1.2 (-1) 0 ∧ q1.2 x0 (-1) = 9) (bnd (clR PG0 MX d 284 [vR x0, vI q1.1] q1.2) (fun q2 => 
      cnd (0 < x0 ∧ x0 < q2.2 (-1) 0 ∧ q2.2 x0 (-1) = 9) (bnd (clR PG0 MX d 283 [vR x0, vR 3] q2.2) (fun q3 => 
        cnd (0 < x0 ∧ x0 < q3.2 (-1) 0 ∧ q3.2 x0 (-1) = 9) (bnd (clR PG0 MX d 181 [vR x0, vI x1, vI 3] q3.2) (fun q4 => 
          cnd (0 < x0 ∧ x0 < q4.2 (-1) 0 ∧ q4.2 x0 (-1) = 9) (bnd (clR PG0 MX d 284 [vR x0, vI q4.1] q4.2) (fun q5 => 
            rsP PG0 MX d 282 97 [vR x0, vI x1, vI x2, u3, u4] [] q5.2)) none)) none)) none)) none)) none :=
  blkE (cs := pgA_282) rfl [46, 70, 97, 106, 150, 167, 192] 17 _ _ _ _
set_option maxRecDepth 100000 in
theorem sg_282_97 (d : Nat) (σ : HP) (x0 x1 x2 : Int) (u3 u4 : MV) : rsP PG0 MX d 282 97 [vR x0, vI x1, vI x2, u3, u4] [] σ =
    cnd (0 < x0 ∧ x0 < σ (-1) 0 ∧ σ x0 (-1) = 9) (bnd (clR PG0 MX d 283 [vR x0, vR 5] σ) (fun q1 => 
    rsP PG0 MX d 282 106 [vR x0, vI x1, vI x2, vI 0, u4] [] q1.2)) none :=
  blkE (cs := pgA_282) rfl [46, 70, 97, 106, 150, 167, 192] 7 _ _ _ _
set_option maxRecDepth 100000 in
theorem sg_282_106 (d : Nat) (σ : HP) (x0 x1 x3 : Int) (u2 u4 : MV) : rsP PG0 MX d 282 106 [vR x0, vI x1, u2, vI x3, u4] [] σ =
    cnd (0 < x0 ∧ x0 < σ (-1) 0 ∧ σ x0 (-1) = 9) (bnd (clR PG0 MX d 204 [vR x0, vI x1] σ) (fun q1 => 
    cnd (wr q1.1 ≤ wr x3)
        (cnd (0 < x0 ∧ x0 < q1.2 (-1) 0 ∧ q1.2 x0 (-1) = 9) (bnd (clR PG0 MX d 283 [vR x0, vR 6] q1.2) (fun q2 => 
        cnd (32 ≤ x0 ∧ x0 < q2.2 (-1) 0 ∧ q2.2 x0 (-1) = 9) (some (q2.2 x0 28, q2.2)) none)) none)
        (cnd (0 < x0 ∧ x0 < q1.2 (-1) 0 ∧ q1.2 x0 (-1) = 9) (bnd (clR PG0 MX d 205 [vR x0, vI x1, vI x3] q1.2) (fun q3 => 
        cnd (0 < x0 ∧ x0 < q3.2 (-1) 0 ∧ q3.2 x0 (-1) = 9) (bnd (clR PG0 MX d 284 [vR x0, vI q3.1] q3.2) (fun q4 => 
          rsP PG0 MX d 282 106 [vR x0, vI x1, vU, vI (x3 + 1), vU] [] q4.2)) none)) none))) none :=
  blkE (cs := pgA_282) rfl [46, 70, 97, 106, 150, 167, 192] 15 _ _ _ _
set_option maxRecDepth 100000 in
theorem sg_282_150 (d : Nat) (σ : HP) (x0 x1 x3 : Int) (u2 u4 : MV) : rsP PG0 MX d 282 150 [vR x0, vI x1, u2, vI x3, u4] [] σ =
    cnd (32 ≤ x0 ∧ x0 < σ (-1) 0 ∧ σ x0 (-1) = 9) (cnd (wr (σ x0 17) ≤ wr x3)
      (cnd (32 ≤ x0 ∧ x0 < σ (-1) 0 ∧ σ x0 (-1) = 9) (some (σ x0 28, σ)) none)
      (cnd (0 < x0 ∧ x0 < σ (-1) 0 ∧ σ x0 (-1) = 9) (bnd (clR PG0 MX d 207 [vR x0, vI x1] σ) (fun q1 => 
      rsP PG0 MX d 282 167 [vR x0, vI x1, vU, vI x3, vI (q1.1 - 1)] [] q1.2)) none)) none :=
  blkE (cs := pgA_282) rfl [46, 70, 97, 106, 150, 167, 192] 12 _ _ _ _
set_option maxRecDepth 100000 in
theorem sg_282_167 (d : Nat) (σ : HP) (x0 x1 x3 x4 : Int) (u2 : MV) : rsP PG0 MX d 282 167 [vR x0, vI x1, u2, vI x3, vI x4] [] σ =
    cnd (wr x4 < 0)
      (cnd (32 ≤ x0 ∧ x0 < σ (-1) 0 ∧ σ x0 (-1) = 9) (cnd (32 ≤ x0 ∧ x0 < σ (-1) 0 ∧ σ x0 (-1) = 9) (cnd (32 ≤ (σ x0 27) ∧ (σ x0 27) < σ (-1) 0 ∧ σ (σ x0 27) (-1) = 20 ∧ 0 ≤ wr (σ x0 28) ∧ wr (σ x0 28) < σ (σ x0 27) (-2)) (cnd (32 ≤ x0 ∧ x0 < (up σ (σ x0 27) (wr (σ x0 28)) 10) (-1) 0 ∧ (up σ (σ x0 27) (wr (σ x0 28)) 10) x0 (-1) = 9) (cnd (32 ≤ x0 ∧ x0 < (up σ (σ x0 27) (wr (σ x0 28)) 10) (-1) 0 ∧ (up σ (σ x0 27) (wr (σ x0 28)) 10) x0 (-1) = 9) (rsP PG0 MX d 282 150 [vR x0, vI x1, vU, vI (x3 + 1), vI x4] [] (up (up σ (σ x0 27) (wr (σ x0 28)) 10) x0 28 (((up σ (σ x0 27) (wr (σ x0 28)) 10) x0 28) + 1))) none) none) none) none) none)
      (cnd (32 ≤ x0 ∧ x0 < σ (-1) 0 ∧ σ x0 (-1) = 9) (cnd (0 < (σ x0 15) ∧ (σ x0 15) < σ (-1) 0 ∧ σ (σ x0 15) (-1) = 20 ∧ 0 ≤ wr x3 ∧ wr x3 < σ (σ x0 15) (-2)) (bnd (clR PG0 MX d 216 [vI (σ (σ x0 15) (wr x3)), vI x4] σ) (fun q1 => 
      cnd (wr q1.1 = 0)
          (rsP PG0 MX d 282 192 [vR x0, vI x1, vU, vI x3, vI x4] [vI 0, vR x0] q1.2)
          (rsP PG0 MX d 282 192 [vR x0, vI x1, vU, vI x3, vI x4] [vI 1, vR x0] q1.2))) none) none) :=
  blkE (cs := pgA_282) rfl [46, 70, 97, 106, 150, 167, 192] 18 _ _ _ _
set_option maxRecDepth 100000 in
theorem sg_282_192 (d : Nat) (σ : HP) (x0 x1 x3 x4 y0 y1 : Int) (u2 : MV) : rsP PG0 MX d 282 192 [vR x0, vI x1, u2, vI x3, vI x4] [vI y1, vR y0] σ =
    cnd (0 < y0 ∧ y0 < σ (-1) 0 ∧ σ y0 (-1) = 9) (bnd (clR PG0 MX d 284 [vR y0, vI y1] σ) (fun q1 => 
    rsP PG0 MX d 282 167 [vR x0, vI x1, u2, vI x3, vI (x4 + (-1))] [] q1.2)) none :=
  blkE (cs := pgA_282) rfl [46, 70, 97, 106, 150, 167, 192] 5 _ _ _ _
/-- OneAtATimeModel.says(Ljava/lang/String;)V -/
theorem ce_283 (d : Nat) (σ : HP) (x0 x1 : Int) : clR PG0 MX (d + 1) 283 [vR x0, vR x1] σ = rsP PG0 MX d 283 0 [vR x0, vR x1, vU] [] σ := rfl
set_option maxRecDepth 100000 in
theorem sg_283_0 (d : Nat) (σ : HP) (x0 x1 : Int) : rsP PG0 MX d 283 0 [vR x0, vR x1, vU] [] σ =
    rsP PG0 MX d 283 2 [vR x0, vR x1, vI 0] [] σ :=
  blkE (cs := pgA_283) rfl [2, 34] 4 _ _ _ _
set_option maxRecDepth 100000 in
theorem sg_283_2 (d : Nat) (σ : HP) (x0 x1 x2 : Int) : rsP PG0 MX d 283 2 [vR x0, vR x1, vI x2] [] σ =
    cnd (0 < x1 ∧ x1 < σ (-1) 0 ∧ σ x1 (-1) = 30) (bnd (clR PG0 MX d 1000 [vR x1] σ) (fun q1 => 
    cnd (wr q1.1 ≤ wr x2)
        (some (0, q1.2))
        (cnd (32 ≤ x0 ∧ x0 < q1.2 (-1) 0 ∧ q1.2 x0 (-1) = 9) (cnd (32 ≤ x0 ∧ x0 < q1.2 (-1) 0 ∧ q1.2 x0 (-1) = 9) (cnd (0 < x1 ∧ x1 < q1.2 (-1) 0 ∧ q1.2 x1 (-1) = 30) (bnd (clR PG0 MX d 1001 [vR x1, vI x2] q1.2) (fun q2 => 
        cnd (32 ≤ (q1.2 x0 27) ∧ (q1.2 x0 27) < q2.2 (-1) 0 ∧ q2.2 (q1.2 x0 27) (-1) = 20 ∧ 0 ≤ wr (q1.2 x0 28) ∧ wr (q1.2 x0 28) < q2.2 (q1.2 x0 27) (-2)) (cnd (32 ≤ x0 ∧ x0 < (up q2.2 (q1.2 x0 27) (wr (q1.2 x0 28)) q2.1) (-1) 0 ∧ (up q2.2 (q1.2 x0 27) (wr (q1.2 x0 28)) q2.1) x0 (-1) = 9) (cnd (32 ≤ x0 ∧ x0 < (up q2.2 (q1.2 x0 27) (wr (q1.2 x0 28)) q2.1) (-1) 0 ∧ (up q2.2 (q1.2 x0 27) (wr (q1.2 x0 28)) q2.1) x0 (-1) = 9) (rsP PG0 MX d 283 34 [vR x0, vR x1, vI x2] [] (up (up q2.2 (q1.2 x0 27) (wr (q1.2 x0 28)) q2.1) x0 28 (((up q2.2 (q1.2 x0 27) (wr (q1.2 x0 28)) q2.1) x0 28) + 1))) none) none) none)) none) none) none))) none :=
  blkE (cs := pgA_283) rfl [2, 34] 20 _ _ _ _
set_option maxRecDepth 100000 in
theorem sg_283_34 (d : Nat) (σ : HP) (x0 x1 x2 : Int) : rsP PG0 MX d 283 34 [vR x0, vR x1, vI x2] [] σ =
    rsP PG0 MX d 283 2 [vR x0, vR x1, vI (x2 + 1)] [] σ :=
  blkE (cs := pgA_283) rfl [2, 34] 4 _ _ _ _
/-- OneAtATimeModel.saysNumber(I)V -/
theorem ce_284 (d : Nat) (σ : HP) (x0 x1 : Int) : clR PG0 MX (d + 1) 284 [vR x0, vI x1] σ = rsP PG0 MX d 284 0 [vR x0, vI x1] [] σ := rfl
set_option maxRecDepth 100000 in
theorem sg_284_0 (d : Nat) (σ : HP) (x0 x1 : Int) : rsP PG0 MX d 284 0 [vR x0, vI x1] [] σ =
    cnd (wr x1 ≤ wr 9)
      (rsP PG0 MX d 284 14 [vR x0, vI x1] [] σ)
      (cnd (wr 10 ≠ 0) (cnd (0 < x0 ∧ x0 < σ (-1) 0 ∧ σ x0 (-1) = 9) (bnd (clR PG0 MX d 284 [vR x0, vI (i_div x1 10)] σ) (fun q1 => 
      rsP PG0 MX d 284 14 [vR x0, vI x1] [] q1.2)) none) none) :=
  blkE (cs := pgA_284) rfl [14] 10 _ _ _ _
set_option maxRecDepth 100000 in
theorem sg_284_14 (d : Nat) (σ : HP) (x0 x1 : Int) : rsP PG0 MX d 284 14 [vR x0, vI x1] [] σ =
    cnd (32 ≤ x0 ∧ x0 < σ (-1) 0 ∧ σ x0 (-1) = 9) (cnd (32 ≤ x0 ∧ x0 < σ (-1) 0 ∧ σ x0 (-1) = 9) (cnd (wr 10 ≠ 0) (cnd (32 ≤ (σ x0 27) ∧ (σ x0 27) < σ (-1) 0 ∧ σ (σ x0 27) (-1) = 20 ∧ 0 ≤ wr (σ x0 28) ∧ wr (σ x0 28) < σ (σ x0 27) (-2)) (cnd (32 ≤ x0 ∧ x0 < (up σ (σ x0 27) (wr (σ x0 28)) (48 + (i_rem x1 10))) (-1) 0 ∧ (up σ (σ x0 27) (wr (σ x0 28)) (48 + (i_rem x1 10))) x0 (-1) = 9) (cnd (32 ≤ x0 ∧ x0 < (up σ (σ x0 27) (wr (σ x0 28)) (48 + (i_rem x1 10))) (-1) 0 ∧ (up σ (σ x0 27) (wr (σ x0 28)) (48 + (i_rem x1 10))) x0 (-1) = 9) (some (0, up (up σ (σ x0 27) (wr (σ x0 28)) (48 + (i_rem x1 10))) x0 28 (((up σ (σ x0 27) (wr (σ x0 28)) (48 + (i_rem x1 10))) x0 28) + 1))) none) none) none) none) none) none :=
  blkE (cs := pgA_284) rfl [14] 18 _ _ _ _
/-- OneAtATimeModel.octet(I)I -/
theorem ce_285 (d : Nat) (σ : HP) (x0 x1 : Int) : clR PG0 MX (d + 1) 285 [vR x0, vI x1] σ = rsP PG0 MX d 285 0 [vR x0, vI x1] [] σ := rfl
set_option maxRecDepth 100000 in
theorem sg_285_0 (d : Nat) (σ : HP) (x0 x1 : Int) : rsP PG0 MX d 285 0 [vR x0, vI x1] [] σ =
    cnd (32 ≤ x0 ∧ x0 < σ (-1) 0 ∧ σ x0 (-1) = 9) (bnd (clR PG0 MX d 179 [vL (wr x1), vL 0, vL (wr ((σ x0 28) - 1))] σ) (fun q1 => 
    cnd (wr q1.1 = 0)
        (some ((-1), q1.2))
        (cnd (32 ≤ x0 ∧ x0 < q1.2 (-1) 0 ∧ q1.2 x0 (-1) = 9) (cnd (0 < (q1.2 x0 27) ∧ (q1.2 x0 27) < q1.2 (-1) 0 ∧ q1.2 (q1.2 x0 27) (-1) = 20 ∧ 0 ≤ wr x1 ∧ wr x1 < q1.2 (q1.2 x0 27) (-2)) (some (q1.2 (q1.2 x0 27) (wr x1), q1.2)) none) none))) none :=
  blkE (cs := pgA_285) rfl [] 17 _ _ _ _
