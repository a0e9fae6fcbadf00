/-- OneAtATimeLaw.law([I)Z -/
theorem ce_286 (d : Nat) (σ : HP) (x0 : Int) : clR PG0 MX (d + 1) 286 [vR x0] σ = rsP PG0 MX d 286 0 [vR x0, vU, vU, vU] [] σ := rfl
set_option maxRecDepth 100000 in
theorem sg_286_0 (d : Nat) (σ : HP) (x0 : Int) : rsP PG0 MX d 286 0 [vR x0, vU, vU, vU] [] σ =
    cnd (0 < (σ (-1) 0)) (bnd (clR PG0 MX d 0 [vR (σ (-1) 0)] (newO σ 8 9)) (fun q1 => 
    rsP PG0 MX d 286 8 [vR x0, vR (σ (-1) 0), vU, vU] [] q1.2)) none :=
  blkE (cs := pgA_286) rfl [8, 18, 244, 307, 330, 353, 376, 399, 432, 465, 498, 531, 574, 607, 640, 673, 696, 729, 772, 815, 858, 891, 924, 967, 990, 1033, 1056, 1079, 1102, 1135, 1178, 1241, 1264, 1307, 1341, 1394, 1437, 1480, 1503, 1546, 1569, 1602, 1645, 1668, 1701, 1734, 1767, 1800, 1823, 1836, 1869] 6 _ _ _ _
set_option maxRecDepth 100000 in
theorem sg_286_8 (d : Nat) (σ : HP) (x0 x1 : Int) (u2 u3 : MV) : rsP PG0 MX d 286 8 [vR x0, vR x1, u2, u3] [] σ =
    cnd (0 < (σ (-1) 0)) (bnd (clR PG0 MX d 175 [vR (σ (-1) 0)] (newO σ 9 29)) (fun q1 => 
    rsP PG0 MX d 286 18 [vR x0, vR x1, vR (σ (-1) 0), vI 0] [] q1.2)) none :=
  blkE (cs := pgA_286) rfl [8, 18, 244, 307, 330, 353, 376, 399, 432, 465, 498, 531, 574, 607, 640, 673, 696, 729, 772, 815, 858, 891, 924, 967, 990, 1033, 1056, 1079, 1102, 1135, 1178, 1241, 1264, 1307, 1341, 1394, 1437, 1480, 1503, 1546, 1569, 1602, 1645, 1668, 1701, 1734, 1767, 1800, 1823, 1836, 1869] 8 _ _ _ _
set_option maxRecDepth 100000 in
theorem sg_286_18 (d : Nat) (σ : HP) (x0 x1 x2 x3 : Int) : rsP PG0 MX d 286 18 [vR x0, vR x1, vR x2, vI x3] [] σ =
    cnd (0 < x0 ∧ x0 < σ (-1) 0 ∧ σ x0 (-1) = 40 ∧ 0 ≤ σ x0 (-2)) (cnd (wr ((σ x0 (-2)) - 6) < wr x3)
      (some (1, σ))
      (cnd (0 < x0 ∧ x0 < σ (-1) 0 ∧ σ x0 (-1) = 40 ∧ 0 ≤ wr x3 ∧ wr x3 < σ x0 (-2)) (cnd (wr (i_and (σ x0 (wr x3)) 63) = 0)
        (rsP PG0 MX d 286 244 [vR x0, vR x1, vR x2, vI x3] [] σ)
        (cnd (wr (i_and (σ x0 (wr x3)) 63) = 1)
        (rsP PG0 MX d 286 307 [vR x0, vR x1, vR x2, vI x3] [] σ)
        (cnd (wr (i_and (σ x0 (wr x3)) 63) = 2)
        (rsP PG0 MX d 286 330 [vR x0, vR x1, vR x2, vI x3] [] σ)
        (cnd (wr (i_and (σ x0 (wr x3)) 63) = 3)
        (rsP PG0 MX d 286 353 [vR x0, vR x1, vR x2, vI x3] [] σ)
        (cnd (wr (i_and (σ x0 (wr x3)) 63) = 4)
        (rsP PG0 MX d 286 376 [vR x0, vR x1, vR x2, vI x3] [] σ)
        (cnd (wr (i_and (σ x0 (wr x3)) 63) = 5)
        (rsP PG0 MX d 286 399 [vR x0, vR x1, vR x2, vI x3] [] σ)
        (cnd (wr (i_and (σ x0 (wr x3)) 63) = 6)
        (rsP PG0 MX d 286 432 [vR x0, vR x1, vR x2, vI x3] [] σ)
        (cnd (wr (i_and (σ x0 (wr x3)) 63) = 7)
        (rsP PG0 MX d 286 465 [vR x0, vR x1, vR x2, vI x3] [] σ)
        (cnd (wr (i_and (σ x0 (wr x3)) 63) = 8)
        (rsP PG0 MX d 286 498 [vR x0, vR x1, vR x2, vI x3] [] σ)
        (cnd (wr (i_and (σ x0 (wr x3)) 63) = 9)
        (rsP PG0 MX d 286 531 [vR x0, vR x1, vR x2, vI x3] [] σ)
        (cnd (wr (i_and (σ x0 (wr x3)) 63) = 10)
        (rsP PG0 MX d 286 574 [vR x0, vR x1, vR x2, vI x3] [] σ)
        (cnd (wr (i_and (σ x0 (wr x3)) 63) = 11)
        (rsP PG0 MX d 286 607 [vR x0, vR x1, vR x2, vI x3] [] σ)
        (cnd (wr (i_and (σ x0 (wr x3)) 63) = 12)
        (rsP PG0 MX d 286 640 [vR x0, vR x1, vR x2, vI x3] [] σ)
        (cnd (wr (i_and (σ x0 (wr x3)) 63) = 13)
        (rsP PG0 MX d 286 673 [vR x0, vR x1, vR x2, vI x3] [] σ)
        (cnd (wr (i_and (σ x0 (wr x3)) 63) = 14)
        (rsP PG0 MX d 286 696 [vR x0, vR x1, vR x2, vI x3] [] σ)
        (cnd (wr (i_and (σ x0 (wr x3)) 63) = 15)
        (rsP PG0 MX d 286 729 [vR x0, vR x1, vR x2, vI x3] [] σ)
        (cnd (wr (i_and (σ x0 (wr x3)) 63) = 16)
        (rsP PG0 MX d 286 772 [vR x0, vR x1, vR x2, vI x3] [] σ)
        (cnd (wr (i_and (σ x0 (wr x3)) 63) = 17)
        (rsP PG0 MX d 286 815 [vR x0, vR x1, vR x2, vI x3] [] σ)
        (cnd (wr (i_and (σ x0 (wr x3)) 63) = 18)
        (rsP PG0 MX d 286 858 [vR x0, vR x1, vR x2, vI x3] [] σ)
        (cnd (wr (i_and (σ x0 (wr x3)) 63) = 19)
        (rsP PG0 MX d 286 891 [vR x0, vR x1, vR x2, vI x3] [] σ)
        (cnd (wr (i_and (σ x0 (wr x3)) 63) = 20)
        (rsP PG0 MX d 286 924 [vR x0, vR x1, vR x2, vI x3] [] σ)
        (cnd (wr (i_and (σ x0 (wr x3)) 63) = 21)
        (rsP PG0 MX d 286 967 [vR x0, vR x1, vR x2, vI x3] [] σ)
        (cnd (wr (i_and (σ x0 (wr x3)) 63) = 22)
        (rsP PG0 MX d 286 990 [vR x0, vR x1, vR x2, vI x3] [] σ)
        (cnd (wr (i_and (σ x0 (wr x3)) 63) = 23)
        (rsP PG0 MX d 286 1033 [vR x0, vR x1, vR x2, vI x3] [] σ)
        (cnd (wr (i_and (σ x0 (wr x3)) 63) = 24)
        (rsP PG0 MX d 286 1056 [vR x0, vR x1, vR x2, vI x3] [] σ)
        (cnd (wr (i_and (σ x0 (wr x3)) 63) = 25)
        (rsP PG0 MX d 286 1079 [vR x0, vR x1, vR x2, vI x3] [] σ)
        (cnd (wr (i_and (σ x0 (wr x3)) 63) = 26)
        (rsP PG0 MX d 286 1102 [vR x0, vR x1, vR x2, vI x3] [] σ)
        (cnd (wr (i_and (σ x0 (wr x3)) 63) = 27)
        (rsP PG0 MX d 286 1135 [vR x0, vR x1, vR x2, vI x3] [] σ)
        (cnd (wr (i_and (σ x0 (wr x3)) 63) = 28)
        (rsP PG0 MX d 286 1178 [vR x0, vR x1, vR x2, vI x3] [] σ)
        (cnd (wr (i_and (σ x0 (wr x3)) 63) = 29)
        (rsP PG0 MX d 286 1241 [vR x0, vR x1, vR x2, vI x3] [] σ)
        (cnd (wr (i_and (σ x0 (wr x3)) 63) = 30)
        (rsP PG0 MX d 286 1264 [vR x0, vR x1, vR x2, vI x3] [] σ)
        (cnd (wr (i_and (σ x0 (wr x3)) 63) = 31)
        (rsP PG0 MX d 286 1307 [vR x0, vR x1, vR x2, vI x3] [] σ)
        (cnd (wr (i_and (σ x0 (wr x3)) 63) = 32)
        (rsP PG0 MX d 286 1341 [vR x0, vR x1, vR x2, vI x3] [] σ)
        (cnd (wr (i_and (σ x0 (wr x3)) 63) = 33)
        (rsP PG0 MX d 286 1394 [vR x0, vR x1, vR x2, vI x3] [] σ)
        (cnd (wr (i_and (σ x0 (wr x3)) 63) = 34)
        (rsP PG0 MX d 286 1437 [vR x0, vR x1, vR x2, vI x3] [] σ)
        (cnd (wr (i_and (σ x0 (wr x3)) 63) = 35)
        (rsP PG0 MX d 286 1480 [vR x0, vR x1, vR x2, vI x3] [] σ)
        (cnd (wr (i_and (σ x0 (wr x3)) 63) = 36)
        (rsP PG0 MX d 286 1503 [vR x0, vR x1, vR x2, vI x3] [] σ)
        (cnd (wr (i_and (σ x0 (wr x3)) 63) = 37)
        (rsP PG0 MX d 286 1546 [vR x0, vR x1, vR x2, vI x3] [] σ)
        (cnd (wr (i_and (σ x0 (wr x3)) 63) = 38)
        (rsP PG0 MX d 286 1569 [vR x0, vR x1, vR x2, vI x3] [] σ)
        (cnd (wr (i_and (σ x0 (wr x3)) 63) = 39)
        (rsP PG0 MX d 286 1602 [vR x0, vR x1, vR x2, vI x3] [] σ)
        (cnd (wr (i_and (σ x0 (wr x3)) 63) = 40)
        (rsP PG0 MX d 286 1645 [vR x0, vR x1, vR x2, vI x3] [] σ)
        (cnd (wr (i_and (σ x0 (wr x3)) 63) = 41)
        (rsP PG0 MX d 286 1668 [vR x0, vR x1, vR x2, vI x3] [] σ)
        (cnd (wr (i_and (σ x0 (wr x3)) 63) = 42)
        (rsP PG0 MX d 286 1701 [vR x0, vR x1, vR x2, vI x3] [] σ)
        (cnd (wr (i_and (σ x0 (wr x3)) 63) = 43)
        (rsP PG0 MX d 286 1734 [vR x0, vR x1, vR x2, vI x3] [] σ)
        (cnd (wr (i_and (σ x0 (wr x3)) 63) = 44)
        (rsP PG0 MX d 286 1767 [vR x0, vR x1, vR x2, vI x3] [] σ)
        (cnd (wr (i_and (σ x0 (wr x3)) 63) = 45)
        (rsP PG0 MX d 286 1800 [vR x0, vR x1, vR x2, vI x3] [] σ)
        (cnd (wr (i_and (σ x0 (wr x3)) 63) = 46)
        (rsP PG0 MX d 286 1823 [vR x0, vR x1, vR x2, vI x3] [] σ)
        (cnd (wr (i_and (σ x0 (wr x3)) 63) = 47)
        (rsP PG0 MX d 286 1836 [vR x0, vR x1, vR x2, vI x3] [] σ)
        (cnd (wr (i_and (σ x0 (wr x3)) 63) = 48)
        (rsP PG0 MX d 286 1869 [vR x0, vR x1, vR x2, vI x3] [] σ)
        (rsP PG0 MX d 286 18 [vR x0, vR x1, vR x2, vI (x3 + 6)] [] σ)))))))))))))))))))))))))))))))))))))))))))))))))) none)) none :=
  blkE (cs := pgA_286) rfl [8, 18, 244, 307, 330, 353, 376, 399, 432, 465, 498, 531, 574, 607, 640, 673, 696, 729, 772, 815, 858, 891, 924, 967, 990, 1033, 1056, 1079, 1102, 1135, 1178, 1241, 1264, 1307, 1341, 1394, 1437, 1480, 1503, 1546, 1569, 1602, 1645, 1668, 1701, 1734, 1767, 1800, 1823, 1836, 1869] 16 _ _ _ _
set_option maxRecDepth 100000 in
theorem sg_286_244 (d : Nat) (σ : HP) (x0 x1 x2 x3 : Int) : rsP PG0 MX d 286 244 [vR x0, vR x1, vR x2, vI x3] [] σ =
    cnd (0 < x0 ∧ x0 < σ (-1) 0 ∧ σ x0 (-1) = 40 ∧ 0 ≤ wr (x3 + 1) ∧ wr (x3 + 1) < σ x0 (-2)) (cnd (0 < x0 ∧ x0 < σ (-1) 0 ∧ σ x0 (-1) = 40 ∧ 0 ≤ wr (x3 + 2) ∧ wr (x3 + 2) < σ x0 (-2)) (cnd (0 < x0 ∧ x0 < σ (-1) 0 ∧ σ x0 (-1) = 40 ∧ 0 ≤ wr (x3 + 3) ∧ wr (x3 + 3) < σ x0 (-2)) (cnd (0 < x0 ∧ x0 < σ (-1) 0 ∧ σ x0 (-1) = 40 ∧ 0 ≤ wr (x3 + 4) ∧ wr (x3 + 4) < σ x0 (-2)) (cnd (0 < x0 ∧ x0 < σ (-1) 0 ∧ σ x0 (-1) = 40 ∧ 0 ≤ wr (x3 + 5) ∧ wr (x3 + 5) < σ x0 (-2)) (cnd (0 < x1 ∧ x1 < σ (-1) 0 ∧ σ x1 (-1) = 8) (bnd (clR PG0 MX d 10 [vR x1, vI (σ x0 (wr (x3 + 1))), vI (σ x0 (wr (x3 + 2))), vI (σ x0 (wr (x3 + 3))), vI (σ x0 (wr (x3 + 4))), vI (σ x0 (wr (x3 + 5)))] σ) (fun q1 => 
    cnd (0 < x0 ∧ x0 < q1.2 (-1) 0 ∧ q1.2 x0 (-1) = 40 ∧ 0 ≤ wr (x3 + 1) ∧ wr (x3 + 1) < q1.2 x0 (-2)) (cnd (0 < x0 ∧ x0 < q1.2 (-1) 0 ∧ q1.2 x0 (-1) = 40 ∧ 0 ≤ wr (x3 + 2) ∧ wr (x3 + 2) < q1.2 x0 (-2)) (cnd (0 < x0 ∧ x0 < q1.2 (-1) 0 ∧ q1.2 x0 (-1) = 40 ∧ 0 ≤ wr (x3 + 3) ∧ wr (x3 + 3) < q1.2 x0 (-2)) (cnd (0 < x0 ∧ x0 < q1.2 (-1) 0 ∧ q1.2 x0 (-1) = 40 ∧ 0 ≤ wr (x3 + 4) ∧ wr (x3 + 4) < q1.2 x0 (-2)) (cnd (0 < x0 ∧ x0 < q1.2 (-1) 0 ∧ q1.2 x0 (-1) = 40 ∧ 0 ≤ wr (x3 + 5) ∧ wr (x3 + 5) < q1.2 x0 (-2)) (cnd (0 < x2 ∧ x2 < q1.2 (-1) 0 ∧ q1.2 x2 (-1) = 9) (bnd (clR PG0 MX d 185 [vR x2, vI (q1.2 x0 (wr (x3 + 1))), vI (q1.2 x0 (wr (x3 + 2))), vI (q1.2 x0 (wr (x3 + 3))), vI (q1.2 x0 (wr (x3 + 4))), vI (q1.2 x0 (wr (x3 + 5)))] q1.2) (fun q2 => 
      cnd (wr q1.1 = wr q2.1)
          (rsP PG0 MX d 286 18 [vR x0, vR x1, vR x2, vI (x3 + 6)] [] q2.2)
          (some (0, q2.2)))) none) none) none) none) none) none)) none) none) none) none) none) none :=
  blkE (cs := pgA_286) rfl [8, 18, 244, 307, 330, 353, 376, 399, 432, 465, 498, 531, 574, 607, 640, 673, 696, 729, 772, 815, 858, 891, 924, 967, 990, 1033, 1056, 1079, 1102, 1135, 1178, 1241, 1264, 1307, 1341, 1394, 1437, 1480, 1503, 1546, 1569, 1602, 1645, 1668, 1701, 1734, 1767, 1800, 1823, 1836, 1869] 59 _ _ _ _
set_option maxRecDepth 100000 in
theorem sg_286_307 (d : Nat) (σ : HP) (x0 x1 x2 x3 : Int) : rsP PG0 MX d 286 307 [vR x0, vR x1, vR x2, vI x3] [] σ =
    cnd (0 < x0 ∧ x0 < σ (-1) 0 ∧ σ x0 (-1) = 40 ∧ 0 ≤ wr (x3 + 1) ∧ wr (x3 + 1) < σ x0 (-2)) (cnd (0 < x1 ∧ x1 < σ (-1) 0 ∧ σ x1 (-1) = 8) (bnd (clR PG0 MX d 14 [vR x1, vI (σ x0 (wr (x3 + 1)))] σ) (fun q1 => 
    cnd (0 < x0 ∧ x0 < q1.2 (-1) 0 ∧ q1.2 x0 (-1) = 40 ∧ 0 ≤ wr (x3 + 1) ∧ wr (x3 + 1) < q1.2 x0 (-2)) (cnd (0 < x2 ∧ x2 < q1.2 (-1) 0 ∧ q1.2 x2 (-1) = 9) (bnd (clR PG0 MX d 186 [vR x2, vI (q1.2 x0 (wr (x3 + 1)))] q1.2) (fun q2 => 
      cnd (wr q1.1 = wr q2.1)
          (rsP PG0 MX d 286 18 [vR x0, vR x1, vR x2, vI (x3 + 6)] [] q2.2)
          (some (0, q2.2)))) none) none)) none) none :=
  blkE (cs := pgA_286) rfl [8, 18, 244, 307, 330, 353, 376, 399, 432, 465, 498, 531, 574, 607, 640, 673, 696, 729, 772, 815, 858, 891, 924, 967, 990, 1033, 1056, 1079, 1102, 1135, 1178, 1241, 1264, 1307, 1341, 1394, 1437, 1480, 1503, 1546, 1569, 1602, 1645, 1668, 1701, 1734, 1767, 1800, 1823, 1836, 1869] 19 _ _ _ _
set_option maxRecDepth 100000 in
theorem sg_286_330 (d : Nat) (σ : HP) (x0 x1 x2 x3 : Int) : rsP PG0 MX d 286 330 [vR x0, vR x1, vR x2, vI x3] [] σ =
    cnd (0 < x0 ∧ x0 < σ (-1) 0 ∧ σ x0 (-1) = 40 ∧ 0 ≤ wr (x3 + 1) ∧ wr (x3 + 1) < σ x0 (-2)) (cnd (0 < x1 ∧ x1 < σ (-1) 0 ∧ σ x1 (-1) = 8) (bnd (clR PG0 MX d 15 [vR x1, vI (σ x0 (wr (x3 + 1)))] σ) (fun q1 => 
    cnd (0 < x0 ∧ x0 < q1.2 (-1) 0 ∧ q1.2 x0 (-1) = 40 ∧ 0 ≤ wr (x3 + 1) ∧ wr (x3 + 1) < q1.2 x0 (-2)) (cnd (0 < x2 ∧ x2 < q1.2 (-1) 0 ∧ q1.2 x2 (-1) = 9) (bnd (clR PG0 MX d 187 [vR x2, vI (q1.2 x0 (wr (x3 + 1)))] q1.2) (fun q2 => 
      cnd (wr q1.1 = wr q2.1)
          (rsP PG0 MX d 286 18 [vR x0, vR x1, vR x2, vI (x3 + 6)] [] q2.2)
          (some (0, q2.2)))) none) none)) none) none :=
  blkE (cs := pgA_286) rfl [8, 18, 244, 307, 330, 353, 376, 399, 432, 465, 498, 531, 574, 607, 640, 673, 696, 729, 772, 815, 858, 891, 924, 967, 990, 1033, 1056, 1079, 1102, 1135, 1178, 1241, 1264, 1307, 1341, 1394, 1437, 1480, 1503, 1546, 1569, 1602, 1645, 1668, 1701, 1734, 1767, 1800, 1823, 1836, 1869] 19 _ _ _ _
set_option maxRecDepth 100000 in
theorem sg_286_353 (d : Nat) (σ : HP) (x0 x1 x2 x3 : Int) : rsP PG0 MX d 286 353 [vR x0, vR x1, vR x2, vI x3] [] σ =
    cnd (0 < x0 ∧ x0 < σ (-1) 0 ∧ σ x0 (-1) = 40 ∧ 0 ≤ wr (x3 + 1) ∧ wr (x3 + 1) < σ x0 (-2)) (cnd (0 < x1 ∧ x1 < σ (-1) 0 ∧ σ x1 (-1) = 8) (bnd (clR PG0 MX d 37 [vR x1, vI (σ x0 (wr (x3 + 1)))] σ) (fun q1 => 
    cnd (0 < x0 ∧ x0 < q1.2 (-1) 0 ∧ q1.2 x0 (-1) = 40 ∧ 0 ≤ wr (x3 + 1) ∧ wr (x3 + 1) < q1.2 x0 (-2)) (cnd (0 < x2 ∧ x2 < q1.2 (-1) 0 ∧ q1.2 x2 (-1) = 9) (bnd (clR PG0 MX d 198 [vR x2, vI (q1.2 x0 (wr (x3 + 1)))] q1.2) (fun q2 => 
      cnd (wr q1.1 = wr q2.1)
          (rsP PG0 MX d 286 18 [vR x0, vR x1, vR x2, vI (x3 + 6)] [] q2.2)
          (some (0, q2.2)))) none) none)) none) none :=
  blkE (cs := pgA_286) rfl [8, 18, 244, 307, 330, 353, 376, 399, 432, 465, 498, 531, 574, 607, 640, 673, 696, 729, 772, 815, 858, 891, 924, 967, 990, 1033, 1056, 1079, 1102, 1135, 1178, 1241, 1264, 1307, 1341, 1394, 1437, 1480, 1503, 1546, 1569, 1602, 1645, 1668, 1701, 1734, 1767, 1800, 1823, 1836, 1869] 19 _ _ _ _
set_option maxRecDepth 100000 in
theorem sg_286_376 (d : Nat) (σ : HP) (x0 x1 x2 x3 : Int) : rsP PG0 MX d 286 376 [vR x0, vR x1, vR x2, vI x3] [] σ =
    cnd (0 < x0 ∧ x0 < σ (-1) 0 ∧ σ x0 (-1) = 40 ∧ 0 ≤ wr (x3 + 1) ∧ wr (x3 + 1) < σ x0 (-2)) (cnd (0 < x1 ∧ x1 < σ (-1) 0 ∧ σ x1 (-1) = 8) (bnd (clR PG0 MX d 38 [vR x1, vI (σ x0 (wr (x3 + 1)))] σ) (fun q1 => 
    cnd (0 < x0 ∧ x0 < q1.2 (-1) 0 ∧ q1.2 x0 (-1) = 40 ∧ 0 ≤ wr (x3 + 1) ∧ wr (x3 + 1) < q1.2 x0 (-2)) (cnd (0 < x2 ∧ x2 < q1.2 (-1) 0 ∧ q1.2 x2 (-1) = 9) (bnd (clR PG0 MX d 199 [vR x2, vI (q1.2 x0 (wr (x3 + 1)))] q1.2) (fun q2 => 
      cnd (wr q1.1 = wr q2.1)
          (rsP PG0 MX d 286 18 [vR x0, vR x1, vR x2, vI (x3 + 6)] [] q2.2)
          (some (0, q2.2)))) none) none)) none) none :=
  blkE (cs := pgA_286) rfl [8, 18, 244, 307, 330, 353, 376, 399, 432, 465, 498, 531, 574, 607, 640, 673, 696, 729, 772, 815, 858, 891, 924, 967, 990, 1033, 1056, 1079, 1102, 1135, 1178, 1241, 1264, 1307, 1341, 1394, 1437, 1480, 1503, 1546, 1569, 1602, 1645, 1668, 1701, 1734, 1767, 1800, 1823, 1836, 1869] 19 _ _ _ _
set_option maxRecDepth 100000 in
theorem sg_286_399 (d : Nat) (σ : HP) (x0 x1 x2 x3 : Int) : rsP PG0 MX d 286 399 [vR x0, vR x1, vR x2, vI x3] [] σ =
    cnd (0 < x0 ∧ x0 < σ (-1) 0 ∧ σ x0 (-1) = 40 ∧ 0 ≤ wr (x3 + 1) ∧ wr (x3 + 1) < σ x0 (-2)) (cnd (0 < x0 ∧ x0 < σ (-1) 0 ∧ σ x0 (-1) = 40 ∧ 0 ≤ wr (x3 + 2) ∧ wr (x3 + 2) < σ x0 (-2)) (cnd (0 < x1 ∧ x1 < σ (-1) 0 ∧ σ x1 (-1) = 8) (bnd (clR PG0 MX d 40 [vR x1, vI (σ x0 (wr (x3 + 1))), vI (σ x0 (wr (x3 + 2)))] σ) (fun q1 => 
    cnd (0 < x0 ∧ x0 < q1.2 (-1) 0 ∧ q1.2 x0 (-1) = 40 ∧ 0 ≤ wr (x3 + 1) ∧ wr (x3 + 1) < q1.2 x0 (-2)) (cnd (0 < x0 ∧ x0 < q1.2 (-1) 0 ∧ q1.2 x0 (-1) = 40 ∧ 0 ≤ wr (x3 + 2) ∧ wr (x3 + 2) < q1.2 x0 (-2)) (cnd (0 < x2 ∧ x2 < q1.2 (-1) 0 ∧ q1.2 x2 (-1) = 9) (bnd (clR PG0 MX d 217 [vR x2, vI (q1.2 x0 (wr (x3 + 1))), vI (q1.2 x0 (wr (x3 + 2)))] q1.2) (fun q2 => 
      cnd (wr q1.1 = wr q2.1)
          (rsP PG0 MX d 286 18 [vR x0, vR x1, vR x2, vI (x3 + 6)] [] q2.2)
          (some (0, q2.2)))) none) none) none)) none) none) none :=
  blkE (cs := pgA_286) rfl [8, 18, 244, 307, 330, 353, 376, 399, 432, 465, 498, 531, 574, 607, 640, 673, 696, 729, 772, 815, 858, 891, 924, 967, 990, 1033, 1056, 1079, 1102, 1135, 1178, 1241, 1264, 1307, 1341, 1394, 1437, 1480, 1503, 1546, 1569, 1602, 1645, 1668, 1701, 1734, 1767, 1800, 1823, 1836, 1869] 29 _ _ _ _
set_option maxRecDepth 100000 in
theorem sg_286_432 (d : Nat) (σ : HP) (x0 x1 x2 x3 : Int) : rsP PG0 MX d 286 432 [vR x0, vR x1, vR x2, vI x3] [] σ =
    cnd (0 < x0 ∧ x0 < σ (-1) 0 ∧ σ x0 (-1) = 40 ∧ 0 ≤ wr (x3 + 1) ∧ wr (x3 + 1) < σ x0 (-2)) (cnd (0 < x0 ∧ x0 < σ (-1) 0 ∧ σ x0 (-1) = 40 ∧ 0 ≤ wr (x3 + 2) ∧ wr (x3 + 2) < σ x0 (-2)) (cnd (0 < x1 ∧ x1 < σ (-1) 0 ∧ σ x1 (-1) = 8) (bnd (clR PG0 MX d 51 [vR x1, vI (σ x0 (wr (x3 + 1))), vI (σ x0 (wr (x3 + 2)))] σ) (fun q1 => 
    cnd (0 < x0 ∧ x0 < q1.2 (-1) 0 ∧ q1.2 x0 (-1) = 40 ∧ 0 ≤ wr (x3 + 1) ∧ wr (x3 + 1) < q1.2 x0 (-2)) (cnd (0 < x0 ∧ x0 < q1.2 (-1) 0 ∧ q1.2 x0 (-1) = 40 ∧ 0 ≤ wr (x3 + 2) ∧ wr (x3 + 2) < q1.2 x0 (-2)) (cnd (0 < x2 ∧ x2 < q1.2 (-1) 0 ∧ q1.2 x2 (-1) = 9) (bnd (clR PG0 MX d 200 [vR x2, vI (q1.2 x0 (wr (x3 + 1))), vI (q1.2 x0 (wr (x3 + 2)))] q1.2) (fun q2 => 
      cnd (wr q1.1 = wr q2.1)
          (rsP PG0 MX d 286 18 [vR x0, vR x1, vR x2, vI (x3 + 6)] [] q2.2)
          (some (0, q2.2)))) none) none) none)) none) none) none :=
  blkE (cs := pgA_286) rfl [8, 18, 244, 307, 330, 353, 376, 399, 432, 465, 498, 531, 574, 607, 640, 673, 696, 729, 772, 815, 858, 891, 924, 967, 990, 1033, 1056, 1079, 1102, 1135, 1178, 1241, 1264, 1307, 1341, 1394, 1437, 1480, 1503, 1546, 1569, 1602, 1645, 1668, 1701, 1734, 1767, 1800, 1823, 1836, 1869] 29 _ _ _ _
set_option maxRecDepth 100000 in
theorem sg_286_465 (d : Nat) (σ : HP) (x0 x1 x2 x3 : Int) : rsP PG0 MX d 286 465 [vR x0, vR x1, vR x2, vI x3] [] σ =
    cnd (0 < x0 ∧ x0 < σ (-1) 0 ∧ σ x0 (-1) = 40 ∧ 0 ≤ wr (x3 + 1) ∧ wr (x3 + 1) < σ x0 (-2)) (cnd (0 < x0 ∧ x0 < σ (-1) 0 ∧ σ x0 (-1) = 40 ∧ 0 ≤ wr (x3 + 2) ∧ wr (x3 + 2) < σ x0 (-2)) (cnd (0 < x1 ∧ x1 < σ (-1) 0 ∧ σ x1 (-1) = 8) (bnd (clR PG0 MX d 65 [vR x1, vI (σ x0 (wr (x3 + 1))), vI (σ x0 (wr (x3 + 2)))] σ) (fun q1 => 
    cnd (0 < x0 ∧ x0 < q1.2 (-1) 0 ∧ q1.2 x0 (-1) = 40 ∧ 0 ≤ wr (x3 + 1) ∧ wr (x3 + 1) < q1.2 x0 (-2)) (cnd (0 < x0 ∧ x0 < q1.2 (-1) 0 ∧ q1.2 x0 (-1) = 40 ∧ 0 ≤ wr (x3 + 2) ∧ wr (x3 + 2) < q1.2 x0 (-2)) (cnd (0 < x2 ∧ x2 < q1.2 (-1) 0 ∧ q1.2 x2 (-1) = 9) (bnd (clR PG0 MX d 218 [vR x2, vI (q1.2 x0 (wr (x3 + 1))), vI (q1.2 x0 (wr (x3 + 2)))] q1.2) (fun q2 => 
      cnd (wr q1.1 = wr q2.1)
          (rsP PG0 MX d 286 18 [vR x0, vR x1, vR x2, vI (x3 + 6)] [] q2.2)
          (some (0, q2.2)))) none) none) none)) none) none) none :=
  blkE (cs := pgA_286) rfl [8, 18, 244, 307, 330, 353, 376, 399, 432, 465, 498, 531, 574, 607, 640, 673, 696, 729, 772, 815, 858, 891, 924, 967, 990, 1033, 1056, 1079, 1102, 1135, 1178, 1241, 1264, 1307, 1341, 1394, 1437, 1480, 1503, 1546, 1569, 1602, 1645, 1668, 1701, 1734, 1767, 1800, 1823, 1836, 1869] 29 _ _ _ _
set_option maxRecDepth 100000 in
theorem sg_286_498 (d : Nat) (σ : HP) (x0 x1 x2 x3 : Int) : rsP PG0 MX d 286 498 [vR x0, vR x1, vR x2, vI x3] [] σ =
    cnd (0 < x0 ∧ x0 < σ (-1) 0 ∧ σ x0 (-1) = 40 ∧ 0 ≤ wr (x3 + 1) ∧ wr (x3 + 1) < σ x0 (-2)) (cnd (0 < x0 ∧ x0 < σ (-1) 0 ∧ σ x0 (-1) = 40 ∧ 0 ≤ wr (x3 + 2) ∧ wr (x3 + 2) < σ x0 (-2)) (cnd (0 < x1 ∧ x1 < σ (-1) 0 ∧ σ x1 (-1) = 8) (bnd (clR PG0 MX d 66 [vR x1, vI (σ x0 (wr (x3 + 1))), vI (σ x0 (wr (x3 + 2)))] σ) (fun q1 => 
    cnd (0 < x0 ∧ x0 < q1.2 (-1) 0 ∧ q1.2 x0 (-1) = 40 ∧ 0 ≤ wr (x3 + 1) ∧ wr (x3 + 1) < q1.2 x0 (-2)) (cnd (0 < x0 ∧ x0 < q1.2 (-1) 0 ∧ q1.2 x0 (-1) = 40 ∧ 0 ≤ wr (x3 + 2) ∧ wr (x3 + 2) < q1.2 x0 (-2)) (cnd (0 < x2 ∧ x2 < q1.2 (-1) 0 ∧ q1.2 x2 (-1) = 9) (bnd (clR PG0 MX d 219 [vR x2, vI (q1.2 x0 (wr (x3 + 1))), vI (q1.2 x0 (wr (x3 + 2)))] q1.2) (fun q2 => 
      cnd (wr q1.1 = wr q2.1)
          (rsP PG0 MX d 286 18 [vR x0, vR x1, vR x2, vI (x3 + 6)] [] q2.2)
          (some (0, q2.2)))) none) none) none)) none) none) none :=
  blkE (cs := pgA_286) rfl [8, 18, 244, 307, 330, 353, 376, 399, 432, 465, 498, 531, 574, 607, 640, 673, 696, 729, 772, 815, 858, 891, 924, 967, 990, 1033, 1056, 1079, 1102, 1135, 1178, 1241, 1264, 1307, 1341, 1394, 1437, 1480, 1503, 1546, 1569, 1602, 1645, 1668, 1701, 1734, 1767, 1800, 1823, 1836, 1869] 29 _ _ _ _
set_option maxRecDepth 100000 in
theorem sg_286_531 (d : Nat) (σ : HP) (x0 x1 x2 x3 : Int) : rsP PG0 MX d 286 531 [vR x0, vR x1, vR x2, vI x3] [] σ =
    cnd (0 < x0 ∧ x0 < σ (-1) 0 ∧ σ x0 (-1) = 40 ∧ 0 ≤ wr (x3 + 1) ∧ wr (x3 + 1) < σ x0 (-2)) (cnd (0 < x0 ∧ x0 < σ (-1) 0 ∧ σ x0 (-1) = 40 ∧ 0 ≤ wr (x3 + 2) ∧ wr (x3 + 2) < σ x0 (-2)) (cnd (0 < x0 ∧ x0 < σ (-1) 0 ∧ σ x0 (-1) = 40 ∧ 0 ≤ wr (x3 + 3) ∧ wr (x3 + 3) < σ x0 (-2)) (cnd (0 < x1 ∧ x1 < σ (-1) 0 ∧ σ x1 (-1) = 8) (bnd (clR PG0 MX d 67 [vR x1, vI (σ x0 (wr (x3 + 1))), vI (σ x0 (wr (x3 + 2))), vI (σ x0 (wr (x3 + 3)))] σ) (fun q1 => 
    cnd (0 < x0 ∧ x0 < q1.2 (-1) 0 ∧ q1.2 x0 (-1) = 40 ∧ 0 ≤ wr (x3 + 1) ∧ wr (x3 + 1) < q1.2 x0 (-2)) (cnd (0 < x0 ∧ x0 < q1.2 (-1) 0 ∧ q1.2 x0 (-1) = 40 ∧ 0 ≤ wr (x3 + 2) ∧ wr (x3 + 2) < q1.2 x0 (-2)) (cnd (0 < x0 ∧ x0 < q1.2 (-1) 0 ∧ q1.2 x0 (-1) = 40 ∧ 0 ≤ wr (x3 + 3) ∧ wr (x3 + 3) < q1.2 x0 (-2)) (cnd (0 < x2 ∧ x2 < q1.2 (-1) 0 ∧ q1.2 x2 (-1) = 9) (bnd (clR PG0 MX d 220 [vR x2, vI (q1.2 x0 (wr (x3 + 1))), vI (q1.2 x0 (wr (x3 + 2))), vI (q1.2 x0 (wr (x3 + 3)))] q1.2) (fun q2 => 
      cnd (wr q1.1 = wr q2.1)
          (rsP PG0 MX d 286 18 [vR x0, vR x1, vR x2, vI (x3 + 6)] [] q2.2)
          (some (0, q2.2)))) none) none) none) none)) none) none) none) none :=
  blkE (cs := pgA_286) rfl [8, 18, 244, 307, 330, 353, 376, 399, 432, 465, 498, 531, 574, 607, 640, 673, 696, 729, 772, 815, 858, 891, 924, 967, 990, 1033, 1056, 1079, 1102, 1135, 1178, 1241, 1264, 1307, 1341, 1394, 1437, 1480, 1503, 1546, 1569, 1602, 1645, 1668, 1701, 1734, 1767, 1800, 1823, 1836, 1869] 39 _ _ _ _
set_option maxRecDepth 100000 in
theorem sg_286_574 (d : Nat) (σ : HP) (x0 x1 x2 x3 : Int) : rsP PG0 MX d 286 574 [vR x0, vR x1, vR x2, vI x3] [] σ =
    cnd (0 < x0 ∧ x0 < σ (-1) 0 ∧ σ x0 (-1) = 40 ∧ 0 ≤ wr (x3 + 1) ∧ wr (x3 + 1) < σ x0 (-2)) (cnd (0 < x0 ∧ x0 < σ (-1) 0 ∧ σ x0 (-1) = 40 ∧ 0 ≤ wr (x3 + 2) ∧ wr (x3 + 2) < σ x0 (-2)) (cnd (0 < x1 ∧ x1 < σ (-1) 0 ∧ σ x1 (-1) = 8) (bnd (clR PG0 MX d 69 [vR x1, vI (σ x0 (wr (x3 + 1))), vI (σ x0 (wr (x3 + 2)))] σ) (fun q1 => 
    cnd (0 < x0 ∧ x0 < q1.2 (-1) 0 ∧ q1.2 x0 (-1) = 40 ∧ 0 ≤ wr (x3 + 1) ∧ wr (x3 + 1) < q1.2 x0 (-2)) (cnd (0 < x0 ∧ x0 < q1.2 (-1) 0 ∧ q1.2 x0 (-1) = 40 ∧ 0 ≤ wr (x3 + 2) ∧ wr (x3 + 2) < q1.2 x0 (-2)) (cnd (0 < x2 ∧ x2 < q1.2 (-1) 0 ∧ q1.2 x2 (-1) = 9) (bnd (clR PG0 MX d 222 [vR x2, vI (q1.2 x0 (wr (x3 + 1))), vI (q1.2 x0 (wr (x3 + 2)))] q1.2) (fun q2 => 
      cnd (wr q1.1 = wr q2.1)
          (rsP PG0 MX d 286 18 [vR x0, vR x1, vR x2, vI (x3 + 6)] [] q2.2)
          (some (0, q2.2)))) none) none) none)) none) none) none :=
  blkE (cs := pgA_286) rfl [8, 18, 244, 307, 330, 353, 376, 399, 432, 465, 498, 531, 574, 607, 640, 673, 696, 729, 772, 815, 858, 891, 924, 967, 990, 1033, 1056, 1079, 1102, 1135, 1178, 1241, 1264, 1307, 1341, 1394, 1437, 1480, 1503, 1546, 1569, 1602, 1645, 1668, 1701, 1734, 1767, 1800, 1823, 1836, 1869] 29 _ _ _ _
set_option maxRecDepth 100000 in
theorem sg_286_607 (d : Nat) (σ : HP) (x0 x1 x2 x3 : Int) : rsP PG0 MX d 286 607 [vR x0, vR x1, vR x2, vI x3] [] σ =
    cnd (0 < x0 ∧ x0 < σ (-1) 0 ∧ σ x0 (-1) = 40 ∧ 0 ≤ wr (x3 + 1) ∧ wr (x3 + 1) < σ x0 (-2)) (cnd (0 < x0 ∧ x0 < σ (-1) 0 ∧ σ x0 (-1) = 40 ∧ 0 ≤ wr (x3 + 2) ∧ wr (x3 + 2) < σ x0 (-2)) (cnd (0 < x1 ∧ x1 < σ (-1) 0 ∧ σ x1 (-1) = 8) (bnd (clR PG0 MX d 71 [vR x1, vI (σ x0 (wr (x3 + 1))), vI (σ x0 (wr (x3 + 2)))] σ) (fun q1 => 
    cnd (0 < x0 ∧ x0 < q1.2 (-1) 0 ∧ q1.2 x0 (-1) = 40 ∧ 0 ≤ wr (x3 + 1) ∧ wr (x3 + 1) < q1.2 x0 (-2)) (cnd (0 < x0 ∧ x0 < q1.2 (-1) 0 ∧ q1.2 x0 (-1) = 40 ∧ 0 ≤ wr (x3 + 2) ∧ wr (x3 + 2) < q1.2 x0 (-2)) (cnd (0 < x2 ∧ x2 < q1.2 (-1) 0 ∧ q1.2 x2 (-1) = 9) (bnd (clR PG0 MX d 223 [vR x2, vI (q1.2 x0 (wr (x3 + 1))), vI (q1.2 x0 (wr (x3 + 2)))] q1.2) (fun q2 => 
      cnd (wr q1.1 = wr q2.1)
          (rsP PG0 MX d 286 18 [vR x0, vR x1, vR x2, vI (x3 + 6)] [] q2.2)
          (some (0, q2.2)))) none) none) none)) none) none) none :=
  blkE (cs := pgA_286) rfl [8, 18, 244, 307, 330, 353, 376, 399, 432, 465, 498, 531, 574, 607, 640, 673, 696, 729, 772, 815, 858, 891, 924, 967, 990, 1033, 1056, 1079, 1102, 1135, 1178, 1241, 1264, 1307, 1341, 1394, 1437, 1480, 1503, 1546, 1569, 1602, 1645, 1668, 1701, 1734, 1767, 1800, 1823, 1836, 1869] 29 _ _ _ _
set_option maxRecDepth 100000 in
theorem sg_286_640 (d : Nat) (σ : HP) (x0 x1 x2 x3 : Int) : rsP PG0 MX d 286 640 [vR x0, vR x1, vR x2, vI x3] [] σ =
    cnd (0 < x0 ∧ x0 < σ (-1) 0 ∧ σ x0 (-1) = 40 ∧ 0 ≤ wr (x3 + 1) ∧ wr (x3 + 1) < σ x0 (-2)) (cnd (0 < x0 ∧ x0 < σ (-1) 0 ∧ σ x0 (-1) = 40 ∧ 0 ≤ wr (x3 + 2) ∧ wr (x3 + 2) < σ x0 (-2)) (cnd (0 < x1 ∧ x1 < σ (-1) 0 ∧ σ x1 (-1) = 8) (bnd (clR PG0 MX d 73 [vR x1, vI (σ x0 (wr (x3 + 1))), vI (σ x0 (wr (x3 + 2)))] σ) (fun q1 => 
    cnd (0 < x0 ∧ x0 < q1.2 (-1) 0 ∧ q1.2 x0 (-1) = 40 ∧ 0 ≤ wr (x3 + 1) ∧ wr (x3 + 1) < q1.2 x0 (-2)) (cnd (0 < x0 ∧ x0 < q1.2 (-1) 0 ∧ q1.2 x0 (-1) = 40 ∧ 0 ≤ wr (x3 + 2) ∧ wr (x3 + 2) < q1.2 x0 (-2)) (cnd (0 < x2 ∧ x2 < q1.2 (-1) 0 ∧ q1.2 x2 (-1) = 9) (bnd (clR PG0 MX d 226 [vR x2, vI (q1.2 x0 (wr (x3 + 1))), vI (q1.2 x0 (wr (x3 + 2)))] q1.2) (fun q2 => 
      cnd (wr q1.1 = wr q2.1)
          (rsP PG0 MX d 286 18 [vR x0, vR x1, vR x2, vI (x3 + 6)] [] q2.2)
          (some (0, q2.2)))) none) none) none)) none) none) none :=
  blkE (cs := pgA_286) rfl [8, 18, 244, 307, 330, 353, 376, 399, 432, 465, 498, 531, 574, 607, 640, 673, 696, 729, 772, 815, 858, 891, 924, 967, 990, 1033, 1056, 1079, 1102, 1135, 1178, 1241, 1264, 1307, 1341, 1394, 1437, 1480, 1503, 1546, 1569, 1602, 1645, 1668, 1701, 1734, 1767, 1800, 1823, 1836, 1869] 29 _ _ _ _
set_option maxRecDepth 100000 in
theorem sg_286_673 (d : Nat) (σ : HP) (x0 x1 x2 x3 : Int) : rsP PG0 MX d 286 673 [vR x0, vR x1, vR x2, vI x3] [] σ =
    cnd (0 < x0 ∧ x0 < σ (-1) 0 ∧ σ x0 (-1) = 40 ∧ 0 ≤ wr (x3 + 1) ∧ wr (x3 + 1) < σ x0 (-2)) (cnd (0 < x1 ∧ x1 < σ (-1) 0 ∧ σ x1 (-1) = 8) (bnd (clR PG0 MX d 75 [vR x1, vI (σ x0 (wr (x3 + 1)))] σ) (fun q1 => 
    cnd (0 < x0 ∧ x0 < q1.2 (-1) 0 ∧ q1.2 x0 (-1) = 40 ∧ 0 ≤ wr (x3 + 1) ∧ wr (x3 + 1) < q1.2 x0 (-2)) (cnd (0 < x2 ∧ x2 < q1.2 (-1) 0 ∧ q1.2 x2 (-1) = 9) (bnd (clR PG0 MX d 227 [vR x2, vI (q1.2 x0 (wr (x3 + 1)))] q1.2) (fun q2 => 
      cnd (wr q1.1 = wr q2.1)
          (rsP PG0 MX d 286 18 [vR x0, vR x1, vR x2, vI (x3 + 6)] [] q2.2)
          (some (0, q2.2)))) none) none)) none) none :=
  blkE (cs := pgA_286) rfl [8, 18, 244, 307, 330, 353, 376, 399, 432, 465, 498, 531, 574, 607, 640, 673, 696, 729, 772, 815, 858, 891, 924, 967, 990, 1033, 1056, 1079, 1102, 1135, 1178, 1241, 1264, 1307, 1341, 1394, 1437, 1480, 1503, 1546, 1569, 1602, 1645, 1668, 1701, 1734, 1767, 1800, 1823, 1836, 1869] 19 _ _ _ _
set_option maxRecDepth 100000 in
theorem sg_286_696 (d : Nat) (σ : HP) (x0 x1 x2 x3 : Int) : rsP PG0 MX d 286 696 [vR x0, vR x1, vR x2, vI x3] [] σ =
    cnd (0 < x0 ∧ x0 < σ (-1) 0 ∧ σ x0 (-1) = 40 ∧ 0 ≤ wr (x3 + 1) ∧ wr (x3 + 1) < σ x0 (-2)) (cnd (0 < x0 ∧ x0 < σ (-1) 0 ∧ σ x0 (-1) = 40 ∧ 0 ≤ wr (x3 + 2) ∧ wr (x3 + 2) < σ x0 (-2)) (cnd (0 < x1 ∧ x1 < σ (-1) 0 ∧ σ x1 (-1) = 8) (bnd (clR PG0 MX d 77 [vR x1, vI (σ x0 (wr (x3 + 1))), vI (σ x0 (wr (x3 + 2)))] σ) (fun q1 => 
    cnd (0 < x0 ∧ x0 < q1.2 (-1) 0 ∧ q1.2 x0 (-1) = 40 ∧ 0 ≤ wr (x3 + 1) ∧ wr (x3 + 1) < q1.2 x0 (-2)) (cnd (0 < x0 ∧ x0 < q1.2 (-1) 0 ∧ q1.2 x0 (-1) = 40 ∧ 0 ≤ wr (x3 + 2) ∧ wr (x3 + 2) < q1.2 x0 (-2)) (cnd (0 < x2 ∧ x2 < q1.2 (-1) 0 ∧ q1.2 x2 (-1) = 9) (bnd (clR PG0 MX d 228 [vR x2, vI (q1.2 x0 (wr (x3 + 1))), vI (q1.2 x0 (wr (x3 + 2)))] q1.2) (fun q2 => 
      cnd (wr q1.1 = wr q2.1)
          (rsP PG0 MX d 286 18 [vR x0, vR x1, vR x2, vI (x3 + 6)] [] q2.2)
          (some (0, q2.2)))) none) none) none)) none) none) none :=
  blkE (cs := pgA_286) rfl [8, 18, 244, 307, 330, 353, 376, 399, 432, 465, 498, 531, 574, 607, 640, 673, 696, 729, 772, 815, 858, 891, 924, 967, 990, 1033, 1056, 1079, 1102, 1135, 1178, 1241, 1264, 1307, 1341, 1394, 1437, 1480, 1503, 1546, 1569, 1602, 1645, 1668, 1701, 1734, 1767, 1800, 1823, 1836, 1869] 29 _ _ _ _
set_option maxRecDepth 100000 in
theorem sg_286_729 (d : Nat) (σ : HP) (x0 x1 x2 x3 : Int) : rsP PG0 MX d 286 729 [vR x0, vR x1, vR x2, vI x3] [] σ =
    cnd (0 < x0 ∧ x0 < σ (-1) 0 ∧ σ x0 (-1) = 40 ∧ 0 ≤ wr (x3 + 1) ∧ wr (x3 + 1) < σ x0 (-2)) (cnd (0 < x0 ∧ x0 < σ (-1) 0 ∧ σ x0 (-1) = 40 ∧ 0 ≤ wr (x3 + 2) ∧ wr (x3 + 2) < σ x0 (-2)) (cnd (0 < x0 ∧ x0 < σ (-1) 0 ∧ σ x0 (-1) = 40 ∧ 0 ≤ wr (x3 + 3) ∧ wr (x3 + 3) < σ x0 (-2)) (cnd (0 < x1 ∧ x1 < σ (-1) 0 ∧ σ x1 (-1) = 8) (bnd (clR PG0 MX d 81 [vR x1, vI (σ x0 (wr (x3 + 1))), vI (σ x0 (wr (x3 + 2))), vI (σ x0 (wr (x3 + 3)))] σ) (fun q1 => 
    cnd (0 < x0 ∧ x0 < q1.2 (-1) 0 ∧ q1.2 x0 (-1) = 40 ∧ 0 ≤ wr (x3 + 1) ∧ wr (x3 + 1) < q1.2 x0 (-2)) (cnd (0 < x0 ∧ x0 < q1.2 (-1) 0 ∧ q1.2 x0 (-1) = 40 ∧ 0 ≤ wr (x3 + 2) ∧ wr (x3 + 2) < q1.2 x0 (-2)) (cnd (0 < x0 ∧ x0 < q1.2 (-1) 0 ∧ q1.2 x0 (-1) = 40 ∧ 0 ≤ wr (x3 + 3) ∧ wr (x3 + 3) < q1.2 x0 (-2)) (cnd (0 < x2 ∧ x2 < q1.2 (-1) 0 ∧ q1.2 x2 (-1) = 9) (bnd (clR PG0 MX d 230 [vR x2, vI (q1.2 x0 (wr (x3 + 1))), vI (q1.2 x0 (wr (x3 + 2))), vI (q1.2 x0 (wr (x3 + 3)))] q1.2) (fun q2 => 
      cnd (wr q1.1 = wr q2.1)
          (rsP PG0 MX d 286 18 [vR x0, vR x1, vR x2, vI (x3 + 6)] [] q2.2)
          (some (0, q2.2)))) none) none) none) none)) none) none) none) none :=
  blkE (cs := pgA_286) rfl [8, 18, 244, 307, 330, 353, 376, 399, 432, 465, 498, 531, 574, 607, 640, 673, 696, 729, 772, 815, 858, 891, 924, 967, 990, 1033, 1056, 1079, 1102, 1135, 1178, 1241, 1264, 1307, 1341, 1394, 1437, 1480, 1503, 1546, 1569, 1602, 1645, 1668, 1701, 1734, 1767, 1800, 1823, 1836, 1869] 39 _ _ _ _
set_option maxRecDepth 100000 in
theorem sg_286_772 (d : Nat) (σ : HP) (x0 x1 x2 x3 : Int) : rsP PG0 MX d 286 772 [vR x0, vR x1, vR x2, vI x3] [] σ =
    cnd (0 < x0 ∧ x0 < σ (-1) 0 ∧ σ x0 (-1) = 40 ∧ 0 ≤ wr (x3 + 1) ∧ wr (x3 + 1) < σ x0 (-2)) (cnd (0 < x0 ∧ x0 < σ (-1) 0 ∧ σ x0 (-1) = 40 ∧ 0 ≤ wr (x3 + 2) ∧ wr (x3 + 2) < σ x0 (-2)) (cnd (0 < x0 ∧ x0 < σ (-1) 0 ∧ σ x0 (-1) = 40 ∧ 0 ≤ wr (x3 + 3) ∧ wr (x3 + 3) < σ x0 (-2)) (cnd (0 < x1 ∧ x1 < σ (-1) 0 ∧ σ x1 (-1) = 8) (bnd (clR PG0 MX d 84 [vR x1, vI (σ x0 (wr (x3 + 1))), vI (σ x0 (wr (x3 + 2))), vI (σ x0 (wr (x3 + 3)))] σ) (fun q1 => 
    cnd (0 < x0 ∧ x0 < q1.2 (-1) 0 ∧ q1.2 x0 (-1) = 40 ∧ 0 ≤ wr (x3 + 1) ∧ wr (x3 + 1) < q1.2 x0 (-2)) (cnd (0 < x0 ∧ x0 < q1.2 (-1) 0 ∧ q1.2 x0 (-1) = 40 ∧ 0 ≤ wr (x3 + 2) ∧ wr (x3 + 2) < q1.2 x0 (-2)) (cnd (0 < x0 ∧ x0 < q1.2 (-1) 0 ∧ q1.2 x0 (-1) = 40 ∧ 0 ≤ wr (x3 + 3) ∧ wr (x3 + 3) < q1.2 x0 (-2)) (cnd (0 < x2 ∧ x2 < q1.2 (-1) 0 ∧ q1.2 x2 (-1) = 9) (bnd (clR PG0 MX d 232 [vR x2, vI (q1.2 x0 (wr (x3 + 1))), vI (q1.2 x0 (wr (x3 + 2))), vI (q1.2 x0 (wr (x3 + 3)))] q1.2) (fun q2 => 
      cnd (wr q1.1 = wr q2.1)
          (rsP PG0 MX d 286 18 [vR x0, vR x1, vR x2, vI (x3 + 6)] [] q2.2)
          (some (0, q2.2)))) none) none) none) none)) none) none) none) none :=
  blkE (cs := pgA_286) rfl [8, 18, 244, 307, 330, 353, 376, 399, 432, 465, 498, 531, 574, 607, 640, 673, 696, 729, 772, 815, 858, 891, 924, 967, 990, 1033, 1056, 1079, 1102, 1135, 1178, 1241, 1264, 1307, 1341, 1394, 1437, 1480, 1503, 1546, 1569, 1602, 1645, 1668, 1701, 1734, 1767, 1800, 1823, 1836, 1869] 39 _ _ _ _
set_option maxRecDepth 100000 in
theorem sg_286_815 (d : Nat) (σ : HP) (x0 x1 x2 x3 : Int) : rsP PG0 MX d 286 815 [vR x0, vR x1, vR x2, vI x3] [] σ =
    cnd (0 < x0 ∧ x0 < σ (-1) 0 ∧ σ x0 (-1) = 40 ∧ 0 ≤ wr (x3 + 1) ∧ wr (x3 + 1) < σ x0 (-2)) (cnd (0 < x0 ∧ x0 < σ (-1) 0 ∧ σ x0 (-1) = 40 ∧ 0 ≤ wr (x3 + 2) ∧ wr (x3 + 2) < σ x0 (-2)) (cnd (0 < x0 ∧ x0 < σ (-1) 0 ∧ σ x0 (-1) = 40 ∧ 0 ≤ wr (x3 + 3) ∧ wr (x3 + 3) < σ x0 (-2)) (cnd (0 < x1 ∧ x1 < σ (-1) 0 ∧ σ x1 (-1) = 8) (bnd (clR PG0 MX d 86 [vR x1, vI (σ x0 (wr (x3 + 1))), vI (σ x0 (wr (x3 + 2))), vI (σ x0 (wr (x3 + 3)))] σ) (fun q1 => 
    cnd (0 < x0 ∧ x0 < q1.2 (-1) 0 ∧ q1.2 x0 (-1) = 40 ∧ 0 ≤ wr (x3 + 1) ∧ wr (x3 + 1) < q1.2 x0 (-2)) (cnd (0 < x0 ∧ x0 < q1.2 (-1) 0 ∧ q1.2 x0 (-1) = 40 ∧ 0 ≤ wr (x3 + 2) ∧ wr (x3 + 2) < q1.2 x0 (-2)) (cnd (0 < x0 ∧ x0 < q1.2 (-1) 0 ∧ q1.2 x0 (-1) = 40 ∧ 0 ≤ wr (x3 + 3) ∧ wr (x3 + 3) < q1.2 x0 (-2)) (cnd (0 < x2 ∧ x2 < q1.2 (-1) 0 ∧ q1.2 x2 (-1) = 9) (bnd (clR PG0 MX d 233 [vR x2, vI (q1.2 x0 (wr (x3 + 1))), vI (q1.2 x0 (wr (x3 + 2))), vI (q1.2 x0 (wr (x3 + 3)))] q1.2) (fun q2 => 
      cnd (wr q1.1 = wr q2.1)
          (rsP PG0 MX d 286 18 [vR x0, vR x1, vR x2, vI (x3 + 6)] [] q2.2)
          (some (0, q2.2)))) none) none) none) none)) none) none) none) none :=
  blkE (cs := pgA_286) rfl [8, 18, 244, 307, 330, 353, 376, 399, 432, 465, 498, 531, 574, 607, 640, 673, 696, 729, 772, 815, 858, 891, 924, 967, 990, 1033, 1056, 1079, 1102, 1135, 1178, 1241, 1264, 1307, 1341, 1394, 1437, 1480, 1503, 1546, 1569, 1602, 1645, 1668, 1701, 1734, 1767, 1800, 1823, 1836, 1869] 39 _ _ _ _
set_option maxRecDepth 100000 in
theorem sg_286_858 (d : Nat) (σ : HP) (x0 x1 x2 x3 : Int) : rsP PG0 MX d 286 858 [vR x0, vR x1, vR x2, vI x3] [] σ =
    cnd (0 < x0 ∧ x0 < σ (-1) 0 ∧ σ x0 (-1) = 40 ∧ 0 ≤ wr (x3 + 1) ∧ wr (x3 + 1) < σ x0 (-2)) (cnd (0 < x0 ∧ x0 < σ (-1) 0 ∧ σ x0 (-1) = 40 ∧ 0 ≤ wr (x3 + 2) ∧ wr (x3 + 2) < σ x0 (-2)) (cnd (0 < x1 ∧ x1 < σ (-1) 0 ∧ σ x1 (-1) = 8) (bnd (clR PG0 MX d 88 [vR x1, vI (σ x0 (wr (x3 + 1))), vI (σ x0 (wr (x3 + 2)))] σ) (fun q1 => 
    cnd (0 < x0 ∧ x0 < q1.2 (-1) 0 ∧ q1.2 x0 (-1) = 40 ∧ 0 ≤ wr (x3 + 1) ∧ wr (x3 + 1) < q1.2 x0 (-2)) (cnd (0 < x0 ∧ x0 < q1.2 (-1) 0 ∧ q1.2 x0 (-1) = 40 ∧ 0 ≤ wr (x3 + 2) ∧ wr (x3 + 2) < q1.2 x0 (-2)) (cnd (0 < x2 ∧ x2 < q1.2 (-1) 0 ∧ q1.2 x2 (-1) = 9) (bnd (clR PG0 MX d 239 [vR x2, vI (q1.2 x0 (wr (x3 + 1))), vI (q1.2 x0 (wr (x3 + 2)))] q1.2) (fun q2 => 
      cnd (wr q1.1 = wr q2.1)
          (rsP PG0 MX d 286 18 [vR x0, vR x1, vR x2, vI (x3 + 6)] [] q2.2)
          (some (0, q2.2)))) none) none) none)) none) none) none :=
  blkE (cs := pgA_286) rfl [8, 18, 244, 307, 330, 353, 376, 399, 432, 465, 498, 531, 574, 607, 640, 673, 696, 729, 772, 815, 858, 891, 924, 967, 990, 1033, 1056, 1079, 1102, 1135, 1178, 1241, 1264, 1307, 1341, 1394, 1437, 1480, 1503, 1546, 1569, 1602, 1645, 1668, 1701, 1734, 1767, 1800, 1823, 1836, 1869] 29 _ _ _ _
set_option maxRecDepth 100000 in
theorem sg_286_891 (d : Nat) (σ : HP) (x0 x1 x2 x3 : Int) : rsP PG0 MX d 286 891 [vR x0, vR x1, vR x2, vI x3] [] σ =
    cnd (0 < x0 ∧ x0 < σ (-1) 0 ∧ σ x0 (-1) = 40 ∧ 0 ≤ wr (x3 + 1) ∧ wr (x3 + 1) < σ x0 (-2)) (cnd (0 < x0 ∧ x0 < σ (-1) 0 ∧ σ x0 (-1) = 40 ∧ 0 ≤ wr (x3 + 2) ∧ wr (x3 + 2) < σ x0 (-2)) (cnd (0 < x1 ∧ x1 < σ (-1) 0 ∧ σ x1 (-1) = 8) (bnd (clR PG0 MX d 89 [vR x1, vI (σ x0 (wr (x3 + 1))), vI (σ x0 (wr (x3 + 2)))] σ) (fun q1 => 
    cnd (0 < x0 ∧ x0 < q1.2 (-1) 0 ∧ q1.2 x0 (-1) = 40 ∧ 0 ≤ wr (x3 + 1) ∧ wr (x3 + 1) < q1.2 x0 (-2)) (cnd (0 < x0 ∧ x0 < q1.2 (-1) 0 ∧ q1.2 x0 (-1) = 40 ∧ 0 ≤ wr (x3 + 2) ∧ wr (x3 + 2) < q1.2 x0 (-2)) (cnd (0 < x2 ∧ x2 < q1.2 (-1) 0 ∧ q1.2 x2 (-1) = 9) (bnd (clR PG0 MX d 235 [vR x2, vI (q1.2 x0 (wr (x3 + 1))), vI (q1.2 x0 (wr (x3 + 2)))] q1.2) (fun q2 => 
      cnd (wr q1.1 = wr q2.1)
          (rsP PG0 MX d 286 18 [vR x0, vR x1, vR x2, vI (x3 + 6)] [] q2.2)
          (some (0, q2.2)))) none) none) none)) none) none) none :=
  blkE (cs := pgA_286) rfl [8, 18, 244, 307, 330, 353, 376, 399, 432, 465, 498, 531, 574, 607, 640, 673, 696, 729, 772, 815, 858, 891, 924, 967, 990, 1033, 1056, 1079, 1102, 1135, 1178, 1241, 1264, 1307, 1341, 1394, 1437, 1480, 1503, 1546, 1569, 1602, 1645, 1668, 1701, 1734, 1767, 1800, 1823, 1836, 1869] 29 _ _ _ _
set_option maxRecDepth 100000 in
theorem sg_286_924 (d : Nat) (σ : HP) (x0 x1 x2 x3 : Int) : rsP PG0 MX d 286 924 [vR x0, vR x1, vR x2, vI x3] [] σ =
    cnd (0 < x0 ∧ x0 < σ (-1) 0 ∧ σ x0 (-1) = 40 ∧ 0 ≤ wr (x3 + 1) ∧ wr (x3 + 1) < σ x0 (-2)) (cnd (0 < x0 ∧ x0 < σ (-1) 0 ∧ σ x0 (-1) = 40 ∧ 0 ≤ wr (x3 + 2) ∧ wr (x3 + 2) < σ x0 (-2)) (cnd (0 < x0 ∧ x0 < σ (-1) 0 ∧ σ x0 (-1) = 40 ∧ 0 ≤ wr (x3 + 3) ∧ wr (x3 + 3) < σ x0 (-2)) (cnd (0 < x1 ∧ x1 < σ (-1) 0 ∧ σ x1 (-1) = 8) (bnd (clR PG0 MX d 90 [vR x1, vI (σ x0 (wr (x3 + 1))), vI (σ x0 (wr (x3 + 2))), vI (σ x0 (wr (x3 + 3)))] σ) (fun q1 => 
    cnd (0 < x0 ∧ x0 < q1.2 (-1) 0 ∧ q1.2 x0 (-1) = 40 ∧ 0 ≤ wr (x3 + 1) ∧ wr (x3 + 1) < q1.2 x0 (-2)) (cnd (0 < x0 ∧ x0 < q1.2 (-1) 0 ∧ q1.2 x0 (-1) = 40 ∧ 0 ≤ wr (x3 + 2) ∧ wr (x3 + 2) < q1.2 x0 (-2)) (cnd (0 < x0 ∧ x0 < q1.2 (-1) 0 ∧ q1.2 x0 (-1) = 40 ∧ 0 ≤ wr (x3 + 3) ∧ wr (x3 + 3) < q1.2 x0 (-2)) (cnd (0 < x2 ∧ x2 < q1.2 (-1) 0 ∧ q1.2 x2 (-1) = 9) (bnd (clR PG0 MX d 236 [vR x2, vI (q1.2 x0 (wr (x3 + 1))), vI (q1.2 x0 (wr (x3 + 2))), vI (q1.2 x0 (wr (x3 + 3)))] q1.2) (fun q2 => 
      cnd (wr q1.1 = wr q2.1)
          (rsP PG0 MX d 286 18 [vR x0, vR x1, vR x2, vI (x3 + 6)] [] q2.2)
          (some (0, q2.2)))) none) none) none) none)) none) none) none) none :=
  blkE (cs := pgA_286) rfl [8, 18, 244, 307, 330, 353, 376, 399, 432, 465, 498, 531, 574, 607, 640, 673, 696, 729, 772, 815, 858, 891, 924, 967, 990, 1033, 1056, 1079, 1102, 1135, 1178, 1241, 1264, 1307, 1341, 1394, 1437, 1480, 1503, 1546, 1569, 1602, 1645, 1668, 1701, 1734, 1767, 1800, 1823, 1836, 1869] 39 _ _ _ _
set_option maxRecDepth 100000 in
theorem sg_286_967 (d : Nat) (σ : HP) (x0 x1 x2 x3 : Int) : rsP PG0 MX d 286 967 [vR x0, vR x1, vR x2, vI x3] [] σ =
    cnd (0 < x0 ∧ x0 < σ (-1) 0 ∧ σ x0 (-1) = 40 ∧ 0 ≤ wr (x3 + 1) ∧ wr (x3 + 1) < σ x0 (-2)) (cnd (0 < x1 ∧ x1 < σ (-1) 0 ∧ σ x1 (-1) = 8) (bnd (clR PG0 MX d 92 [vR x1, vI (σ x0 (wr (x3 + 1)))] σ) (fun q1 => 
    cnd (0 < x0 ∧ x0 < q1.2 (-1) 0 ∧ q1.2 x0 (-1) = 40 ∧ 0 ≤ wr (x3 + 1) ∧ wr (x3 + 1) < q1.2 x0 (-2)) (cnd (0 < x2 ∧ x2 < q1.2 (-1) 0 ∧ q1.2 x2 (-1) = 9) (bnd (clR PG0 MX d 237 [vR x2, vI (q1.2 x0 (wr (x3 + 1)))] q1.2) (fun q2 => 
      cnd (wr q1.1 = wr q2.1)
          (rsP PG0 MX d 286 18 [vR x0, vR x1, vR x2, vI (x3 + 6)] [] q2.2)
          (some (0, q2.2)))) none) none)) none) none :=
  blkE (cs := pgA_286) rfl [8, 18, 244, 307, 330, 353, 376, 399, 432, 465, 498, 531, 574, 607, 640, 673, 696, 729, 772, 815, 858, 891, 924, 967, 990, 1033, 1056, 1079, 1102, 1135, 1178, 1241, 1264, 1307, 1341, 1394, 1437, 1480, 1503, 1546, 1569, 1602, 1645, 1668, 1701, 1734, 1767, 1800, 1823, 1836, 1869] 19 _ _ _ _
set_option maxRecDepth 100000 in
theorem sg_286_990 (d : Nat) (σ : HP) (x0 x1 x2 x3 : Int) : rsP PG0 MX d 286 990 [vR x0, vR x1, vR x2, vI x3] [] σ =
    cnd (0 < x0 ∧ x0 < σ (-1) 0 ∧ σ x0 (-1) = 40 ∧ 0 ≤ wr (x3 + 1) ∧ wr (x3 + 1) < σ x0 (-2)) (cnd (0 < x0 ∧ x0 < σ (-1) 0 ∧ σ x0 (-1) = 40 ∧ 0 ≤ wr (x3 + 2) ∧ wr (x3 + 2) < σ x0 (-2)) (cnd (0 < x0 ∧ x0 < σ (-1) 0 ∧ σ x0 (-1) = 40 ∧ 0 ≤ wr (x3 + 3) ∧ wr (x3 + 3) < σ x0 (-2)) (cnd (0 < x1 ∧ x1 < σ (-1) 0 ∧ σ x1 (-1) = 8) (bnd (clR PG0 MX d 96 [vR x1, vI (σ x0 (wr (x3 + 1))), vI (σ x0 (wr (x3 + 2))), vI (σ x0 (wr (x3 + 3)))] σ) (fun q1 => 
    cnd (0 < x0 ∧ x0 < q1.2 (-1) 0 ∧ q1.2 x0 (-1) = 40 ∧ 0 ≤ wr (x3 + 1) ∧ wr (x3 + 1) < q1.2 x0 (-2)) (cnd (0 < x0 ∧ x0 < q1.2 (-1) 0 ∧ q1.2 x0 (-1) = 40 ∧ 0 ≤ wr (x3 + 2) ∧ wr (x3 + 2) < q1.2 x0 (-2)) (cnd (0 < x0 ∧ x0 < q1.2 (-1) 0 ∧ q1.2 x0 (-1) = 40 ∧ 0 ≤ wr (x3 + 3) ∧ wr (x3 + 3) < q1.2 x0 (-2)) (cnd (0 < x2 ∧ x2 < q1.2 (-1) 0 ∧ q1.2 x2 (-1) = 9) (bnd (clR PG0 MX d 234 [vR x2, vI (q1.2 x0 (wr (x3 + 1))), vI (q1.2 x0 (wr (x3 + 2))), vI (q1.2 x0 (wr (x3 + 3)))] q1.2) (fun q2 => 
      cnd (wr q1.1 = wr q2.1)
          (rsP PG0 MX d 286 18 [vR x0, vR x1, vR x2, vI (x3 + 6)] [] q2.2)
          (some (0, q2.2)))) none) none) none) none)) none) none) none) none :=
  blkE (cs := pgA_286) rfl [8, 18, 244, 307, 330, 353, 376, 399, 432, 465, 498, 531, 574, 607, 640, 673, 696, 729, 772, 815, 858, 891, 924, 967, 990, 1033, 1056, 1079, 1102, 1135, 1178, 1241, 1264, 1307, 1341, 1394, 1437, 1480, 1503, 1546, 1569, 1602, 1645, 1668, 1701, 1734, 1767, 1800, 1823, 1836, 1869] 39 _ _ _ _
set_option maxRecDepth 100000 in
theorem sg_286_1033 (d : Nat) (σ : HP) (x0 x1 x2 x3 : Int) : rsP PG0 MX d 286 1033 [vR x0, vR x1, vR x2, vI x3] [] σ =
    cnd (0 < x0 ∧ x0 < σ (-1) 0 ∧ σ x0 (-1) = 40 ∧ 0 ≤ wr (x3 + 1) ∧ wr (x3 + 1) < σ x0 (-2)) (cnd (0 < x1 ∧ x1 < σ (-1) 0 ∧ σ x1 (-1) = 8) (bnd (clR PG0 MX d 98 [vR x1, vI (σ x0 (wr (x3 + 1)))] σ) (fun q1 => 
    cnd (0 < x0 ∧ x0 < q1.2 (-1) 0 ∧ q1.2 x0 (-1) = 40 ∧ 0 ≤ wr (x3 + 1) ∧ wr (x3 + 1) < q1.2 x0 (-2)) (cnd (0 < x2 ∧ x2 < q1.2 (-1) 0 ∧ q1.2 x2 (-1) = 9) (bnd (clR PG0 MX d 240 [vR x2, vI (q1.2 x0 (wr (x3 + 1)))] q1.2) (fun q2 => 
      cnd (wr q1.1 = wr q2.1)
          (rsP PG0 MX d 286 18 [vR x0, vR x1, vR x2, vI (x3 + 6)] [] q2.2)
          (some (0, q2.2)))) none) none)) none) none :=
  blkE (cs := pgA_286) rfl [8, 18, 244, 307, 330, 353, 376, 399, 432, 465, 498, 531, 574, 607, 640, 673, 696, 729, 772, 815, 858, 891, 924, 967, 990, 1033, 1056, 1079, 1102, 1135, 1178, 1241, 1264, 1307, 1341, 1394, 1437, 1480, 1503, 1546, 1569, 1602, 1645, 1668, 1701, 1734, 1767, 1800, 1823, 1836, 1869] 19 _ _ _ _
set_option maxRecDepth 100000 in
theorem sg_286_1056 (d : Nat) (σ : HP) (x0 x1 x2 x3 : Int) : rsP PG0 MX d 286 1056 [vR x0, vR x1, vR x2, vI x3] [] σ =
    cnd (0 < x0 ∧ x0 < σ (-1) 0 ∧ σ x0 (-1) = 40 ∧ 0 ≤ wr (x3 + 1) ∧ wr (x3 + 1) < σ x0 (-2)) (cnd (0 < x1 ∧ x1 < σ (-1) 0 ∧ σ x1 (-1) = 8) (bnd (clR PG0 MX d 99 [vR x1, vI (σ x0 (wr (x3 + 1)))] σ) (fun q1 => 
    cnd (0 < x0 ∧ x0 < q1.2 (-1) 0 ∧ q1.2 x0 (-1) = 40 ∧ 0 ≤ wr (x3 + 1) ∧ wr (x3 + 1) < q1.2 x0 (-2)) (cnd (0 < x2 ∧ x2 < q1.2 (-1) 0 ∧ q1.2 x2 (-1) = 9) (bnd (clR PG0 MX d 241 [vR x2, vI (q1.2 x0 (wr (x3 + 1)))] q1.2) (fun q2 => 
      cnd (wr q1.1 = wr q2.1)
          (rsP PG0 MX d 286 18 [vR x0, vR x1, vR x2, vI (x3 + 6)] [] q2.2)
          (some (0, q2.2)))) none) none)) none) none :=
  blkE (cs := pgA_286) rfl [8, 18, 244, 307, 330, 353, 376, 399, 432, 465, 498, 531, 574, 607, 640, 673, 696, 729, 772, 815, 858, 891, 924, 967, 990, 1033, 1056, 1079, 1102, 1135, 1178, 1241, 1264, 1307, 1341, 1394, 1437, 1480, 1503, 1546, 1569, 1602, 1645, 1668, 1701, 1734, 1767, 1800, 1823, 1836, 1869] 19 _ _ _ _
set_option maxRecDepth 100000 in
theorem sg_286_1079 (d : Nat) (σ : HP) (x0 x1 x2 x3 : Int) : rsP PG0 MX d 286 1079 [vR x0, vR x1, vR x2, vI x3] [] σ =
    cnd (0 < x0 ∧ x0 < σ (-1) 0 ∧ σ x0 (-1) = 40 ∧ 0 ≤ wr (x3 + 1) ∧ wr (x3 + 1) < σ x0 (-2)) (cnd (0 < x1 ∧ x1 < σ (-1) 0 ∧ σ x1 (-1) = 8) (bnd (clR PG0 MX d 100 [vR x1, vI (σ x0 (wr (x3 + 1)))] σ) (fun q1 => 
    cnd (0 < x0 ∧ x0 < q1.2 (-1) 0 ∧ q1.2 x0 (-1) = 40 ∧ 0 ≤ wr (x3 + 1) ∧ wr (x3 + 1) < q1.2 x0 (-2)) (cnd (0 < x2 ∧ x2 < q1.2 (-1) 0 ∧ q1.2 x2 (-1) = 9) (bnd (clR PG0 MX d 242 [vR x2, vI (q1.2 x0 (wr (x3 + 1)))] q1.2) (fun q2 => 
      cnd (wr q1.1 = wr q2.1)
          (rsP PG0 MX d 286 18 [vR x0, vR x1, vR x2, vI (x3 + 6)] [] q2.2)
          (some (0, q2.2)))) none) none)) none) none :=
  blkE (cs := pgA_286) rfl [8, 18, 244, 307, 330, 353, 376, 399, 432, 465, 498, 531, 574, 607, 640, 673, 696, 729, 772, 815, 858, 891, 924, 967, 990, 1033, 1056, 1079, 1102, 1135, 1178, 1241, 1264, 1307, 1341, 1394, 1437, 1480, 1503, 1546, 1569, 1602, 1645, 1668, 1701, 1734, 1767, 1800, 1823, 1836, 1869] 19 _ _ _ _
set_option maxRecDepth 100000 in
theorem sg_286_1102 (d : Nat) (σ : HP) (x0 x1 x2 x3 : Int) : rsP PG0 MX d 286 1102 [vR x0, vR x1, vR x2, vI x3] [] σ =
    cnd (0 < x0 ∧ x0 < σ (-1) 0 ∧ σ x0 (-1) = 40 ∧ 0 ≤ wr (x3 + 1) ∧ wr (x3 + 1) < σ x0 (-2)) (cnd (0 < x0 ∧ x0 < σ (-1) 0 ∧ σ x0 (-1) = 40 ∧ 0 ≤ wr (x3 + 2) ∧ wr (x3 + 2) < σ x0 (-2)) (cnd (0 < x1 ∧ x1 < σ (-1) 0 ∧ σ x1 (-1) = 8) (bnd (clR PG0 MX d 102 [vR x1, vI (σ x0 (wr (x3 + 1))), vI (σ x0 (wr (x3 + 2)))] σ) (fun q1 => 
    cnd (0 < x0 ∧ x0 < q1.2 (-1) 0 ∧ q1.2 x0 (-1) = 40 ∧ 0 ≤ wr (x3 + 1) ∧ wr (x3 + 1) < q1.2 x0 (-2)) (cnd (0 < x0 ∧ x0 < q1.2 (-1) 0 ∧ q1.2 x0 (-1) = 40 ∧ 0 ≤ wr (x3 + 2) ∧ wr (x3 + 2) < q1.2 x0 (-2)) (cnd (0 < x2 ∧ x2 < q1.2 (-1) 0 ∧ q1.2 x2 (-1) = 9) (bnd (clR PG0 MX d 244 [vR x2, vI (q1.2 x0 (wr (x3 + 1))), vI (q1.2 x0 (wr (x3 + 2)))] q1.2) (fun q2 => 
      cnd (wr q1.1 = wr q2.1)
          (rsP PG0 MX d 286 18 [vR x0, vR x1, vR x2, vI (x3 + 6)] [] q2.2)
          (some (0, q2.2)))) none) none) none)) none) none) none :=
  blkE (cs := pgA_286) rfl [8, 18, 244, 307, 330, 353, 376, 399, 432, 465, 498, 531, 574, 607, 640, 673, 696, 729, 772, 815, 858, 891, 924, 967, 990, 1033, 1056, 1079, 1102, 1135, 1178, 1241, 1264, 1307, 1341, 1394, 1437, 1480, 1503, 1546, 1569, 1602, 1645, 1668, 1701, 1734, 1767, 1800, 1823, 1836, 1869] 29 _ _ _ _
set_option maxRecDepth 100000 in
theorem sg_286_1135 (d : Nat) (σ : HP) (x0 x1 x2 x3 : Int) : rsP PG0 MX d 286 1135 [vR x0, vR x1, vR x2, vI x3] [] σ =
    cnd (0 < x0 ∧ x0 < σ (-1) 0 ∧ σ x0 (-1) = 40 ∧ 0 ≤ wr (x3 + 1) ∧ wr (x3 + 1) < σ x0 (-2)) (cnd (0 < x0 ∧ x0 < σ (-1) 0 ∧ σ x0 (-1) = 40 ∧ 0 ≤ wr (x3 + 2) ∧ wr (x3 + 2) < σ x0 (-2)) (cnd (0 < x0 ∧ x0 < σ (-1) 0 ∧ σ x0 (-1) = 40 ∧ 0 ≤ wr (x3 + 3) ∧ wr (x3 + 3) < σ x0 (-2)) (cnd (0 < x1 ∧ x1 < σ (-1) 0 ∧ σ x1 (-1) = 8) (bnd (clR PG0 MX d 108 [vR x1, vI (σ x0 (wr (x3 + 1))), vI (σ x0 (wr (x3 + 2))), vI (σ x0 (wr (x3 + 3)))] σ) (fun q1 => 
    cnd (0 < x0 ∧ x0 < q1.2 (-1) 0 ∧ q1.2 x0 (-1) = 40 ∧ 0 ≤ wr (x3 + 1) ∧ wr (x3 + 1) < q1.2 x0 (-2)) (cnd (0 < x0 ∧ x0 < q1.2 (-1) 0 ∧ q1.2 x0 (-1) = 40 ∧ 0 ≤ wr (x3 + 2) ∧ wr (x3 + 2) < q1.2 x0 (-2)) (cnd (0 < x0 ∧ x0 < q1.2 (-1) 0 ∧ q1.2 x0 (-1) = 40 ∧ 0 ≤ wr (x3 + 3) ∧ wr (x3 + 3) < q1.2 x0 (-2)) (cnd (0 < x2 ∧ x2 < q1.2 (-1) 0 ∧ q1.2 x2 (-1) = 9) (bnd (clR PG0 MX d 246 [vR x2, vI (q1.2 x0 (wr (x3 + 1))), vI (q1.2 x0 (wr (x3 + 2))), vI (q1.2 x0 (wr (x3 + 3)))] q1.2) (fun q2 => 
      cnd (wr q1.1 = wr q2.1)
          (rsP PG0 MX d 286 18 [vR x0, vR x1, vR x2, vI (x3 + 6)] [] q2.2)
          (some (0, q2.2)))) none) none) none) none)) none) none) none) none :=
  blkE (cs := pgA_286) rfl [8, 18, 244, 307, 330, 353, 376, 399, 432, 465, 498, 531, 574, 607, 640, 673, 696, 729, 772, 815, 858, 891, 924, 967, 990, 1033, 1056, 1079, 1102, 1135, 1178, 1241, 1264, 1307, 1341, 1394, 1437, 1480, 1503, 1546, 1569, 1602, 1645, 1668, 1701, 1734, 1767, 1800, 1823, 1836, 1869] 39 _ _ _ _
set_option maxRecDepth 100000 in
theorem sg_286_1178 (d : Nat) (σ : HP) (x0 x1 x2 x3 : Int) : rsP PG0 MX d 286 1178 [vR x0, vR x1, vR x2, vI x3] [] σ =
    cnd (0 < x0 ∧ x0 < σ (-1) 0 ∧ σ x0 (-1) = 40 ∧ 0 ≤ wr (x3 + 1) ∧ wr (x3 + 1) < σ x0 (-2)) (cnd (0 < x0 ∧ x0 < σ (-1) 0 ∧ σ x0 (-1) = 40 ∧ 0 ≤ wr (x3 + 2) ∧ wr (x3 + 2) < σ x0 (-2)) (cnd (0 < x0 ∧ x0 < σ (-1) 0 ∧ σ x0 (-1) = 40 ∧ 0 ≤ wr (x3 + 3) ∧ wr (x3 + 3) < σ x0 (-2)) (cnd (0 < x1 ∧ x1 < σ (-1) 0 ∧ σ x1 (-1) = 8) (bnd (clR PG0 MX d 117 [vR x1, vI (σ x0 (wr (x3 + 1))), vL (l_or (l_shl (wr (σ x0 (wr (x3 + 2)))) 32) (l_and (wr (σ x0 (wr (x3 + 3)))) 4294967295))] σ) (fun q1 => 
    cnd (0 < x0 ∧ x0 < q1.2 (-1) 0 ∧ q1.2 x0 (-1) = 40 ∧ 0 ≤ wr (x3 + 1) ∧ wr (x3 + 1) < q1.2 x0 (-2)) (cnd (0 < x0 ∧ x0 < q1.2 (-1) 0 ∧ q1.2 x0 (-1) = 40 ∧ 0 ≤ wr (x3 + 2) ∧ wr (x3 + 2) < q1.2 x0 (-2)) (cnd (0 < x0 ∧ x0 < q1.2 (-1) 0 ∧ q1.2 x0 (-1) = 40 ∧ 0 ≤ wr (x3 + 3) ∧ wr (x3 + 3) < q1.2 x0 (-2)) (cnd (0 < x2 ∧ x2 < q1.2 (-1) 0 ∧ q1.2 x2 (-1) = 9) (bnd (clR PG0 MX d 250 [vR x2, vI (q1.2 x0 (wr (x3 + 1))), vL (l_or (l_shl (wr (q1.2 x0 (wr (x3 + 2)))) 32) (l_and (wr (q1.2 x0 (wr (x3 + 3)))) 4294967295))] q1.2) (fun q2 => 
      cnd (wr q1.1 = wr q2.1)
          (rsP PG0 MX d 286 18 [vR x0, vR x1, vR x2, vI (x3 + 6)] [] q2.2)
          (some (0, q2.2)))) none) none) none) none)) none) none) none) none :=
  blkE (cs := pgA_286) rfl [8, 18, 244, 307, 330, 353, 376, 399, 432, 465, 498, 531, 574, 607, 640, 673, 696, 729, 772, 815, 858, 891, 924, 967, 990, 1033, 1056, 1079, 1102, 1135, 1178, 1241, 1264, 1307, 1341, 1394, 1437, 1480, 1503, 1546, 1569, 1602, 1645, 1668, 1701, 1734, 1767, 1800, 1823, 1836, 1869] 53 _ _ _ _
set_option maxRecDepth 100000 in
theorem sg_286_1241 (d : Nat) (σ : HP) (x0 x1 x2 x3 : Int) : rsP PG0 MX d 286 1241 [vR x0, vR x1, vR x2, vI x3] [] σ =
    cnd (0 < x0 ∧ x0 < σ (-1) 0 ∧ σ x0 (-1) = 40 ∧ 0 ≤ wr (x3 + 1) ∧ wr (x3 + 1) < σ x0 (-2)) (cnd (0 < x1 ∧ x1 < σ (-1) 0 ∧ σ x1 (-1) = 8) (bnd (clR PG0 MX d 124 [vR x1, vI (σ x0 (wr (x3 + 1)))] σ) (fun q1 => 
    cnd (0 < x0 ∧ x0 < q1.2 (-1) 0 ∧ q1.2 x0 (-1) = 40 ∧ 0 ≤ wr (x3 + 1) ∧ wr (x3 + 1) < q1.2 x0 (-2)) (cnd (0 < x2 ∧ x2 < q1.2 (-1) 0 ∧ q1.2 x2 (-1) = 9) (bnd (clR PG0 MX d 258 [vR x2, vI (q1.2 x0 (wr (x3 + 1)))] q1.2) (fun q2 => 
      cnd (wr q1.1 = wr q2.1)
          (rsP PG0 MX d 286 18 [vR x0, vR x1, vR x2, vI (x3 + 6)] [] q2.2)
          (some (0, q2.2)))) none) none)) none) none :=
  blkE (cs := pgA_286) rfl [8, 18, 244, 307, 330, 353, 376, 399, 432, 465, 498, 531, 574, 607, 640, 673, 696, 729, 772, 815, 858, 891, 924, 967, 990, 1033, 1056, 1079, 1102, 1135, 1178, 1241, 1264, 1307, 1341, 1394, 1437, 1480, 1503, 1546, 1569, 1602, 1645, 1668, 1701, 1734, 1767, 1800, 1823, 1836, 1869] 19 _ _ _ _
set_option maxRecDepth 100000 in
theorem sg_286_1264 (d : Nat) (σ : HP) (x0 x1 x2 x3 : Int) : rsP PG0 MX d 286 1264 [vR x0, vR x1, vR x2, vI x3] [] σ =
    cnd (0 < x0 ∧ x0 < σ (-1) 0 ∧ σ x0 (-1) = 40 ∧ 0 ≤ wr (x3 + 1) ∧ wr (x3 + 1) < σ x0 (-2)) (cnd (0 < x0 ∧ x0 < σ (-1) 0 ∧ σ x0 (-1) = 40 ∧ 0 ≤ wr (x3 + 2) ∧ wr (x3 + 2) < σ x0 (-2)) (cnd (0 < x0 ∧ x0 < σ (-1) 0 ∧ σ x0 (-1) = 40 ∧ 0 ≤ wr (x3 + 3) ∧ wr (x3 + 3) < σ x0 (-2)) (cnd (0 < x1 ∧ x1 < σ (-1) 0 ∧ σ x1 (-1) = 8) (bnd (clR PG0 MX d 126 [vR x1, vI (σ x0 (wr (x3 + 1))), vI (σ x0 (wr (x3 + 2))), vI (σ x0 (wr (x3 + 3)))] σ) (fun q1 => 
    cnd (0 < x0 ∧ x0 < q1.2 (-1) 0 ∧ q1.2 x0 (-1) = 40 ∧ 0 ≤ wr (x3 + 1) ∧ wr (x3 + 1) < q1.2 x0 (-2)) (cnd (0 < x0 ∧ x0 < q1.2 (-1) 0 ∧ q1.2 x0 (-1) = 40 ∧ 0 ≤ wr (x3 + 2) ∧ wr (x3 + 2) < q1.2 x0 (-2)) (cnd (0 < x0 ∧ x0 < q1.2 (-1) 0 ∧ q1.2 x0 (-1) = 40 ∧ 0 ≤ wr (x3 + 3) ∧ wr (x3 + 3) < q1.2 x0 (-2)) (cnd (0 < x2 ∧ x2 < q1.2 (-1) 0 ∧ q1.2 x2 (-1) = 9) (bnd (clR PG0 MX d 259 [vR x2, vI (q1.2 x0 (wr (x3 + 1))), vI (q1.2 x0 (wr (x3 + 2))), vI (q1.2 x0 (wr (x3 + 3)))] q1.2) (fun q2 => 
      cnd (wr q1.1 = wr q2.1)
          (rsP PG0 MX d 286 18 [vR x0, vR x1, vR x2, vI (x3 + 6)] [] q2.2)
          (some (0, q2.2)))) none) none) none) none)) none) none) none) none :=
  blkE (cs := pgA_286) rfl [8, 18, 244, 307, 330, 353, 376, 399, 432, 465, 498, 531, 574, 607, 640, 673, 696, 729, 772, 815, 858, 891, 924, 967, 990, 1033, 1056, 1079, 1102, 1135, 1178, 1241, 1264, 1307, 1341, 1394, 1437, 1480, 1503, 1546, 1569, 1602, 1645, 1668, 1701, 1734, 1767, 1800, 1823, 1836, 1869] 39 _ _ _ _
set_option maxRecDepth 100000 in
theorem sg_286_1307 (d : Nat) (σ : HP) (x0 x1 x2 x3 : Int) : rsP PG0 MX d 286 1307 [vR x0, vR x1, vR x2, vI x3] [] σ =
    cnd (0 < x0 ∧ x0 < σ (-1) 0 ∧ σ x0 (-1) = 40 ∧ 0 ≤ wr (x3 + 1) ∧ wr (x3 + 1) < σ x0 (-2)) (cnd (0 < x0 ∧ x0 < σ (-1) 0 ∧ σ x0 (-1) = 40 ∧ 0 ≤ wr (x3 + 2) ∧ wr (x3 + 2) < σ x0 (-2)) (cnd (0 < x1 ∧ x1 < σ (-1) 0 ∧ σ x1 (-1) = 8) (bnd (clR PG0 MX d 128 [vR x1, vI (σ x0 (wr (x3 + 1))), vI (σ x0 (wr (x3 + 2)))] σ) (fun q1 => 
    cnd (0 < x0 ∧ x0 < q1.2 (-1) 0 ∧ q1.2 x0 (-1) = 40 ∧ 0 ≤ wr (x3 + 1) ∧ wr (x3 + 1) < q1.2 x0 (-2)) (cnd (0 < x0 ∧ x0 < q1.2 (-1) 0 ∧ q1.2 x0 (-1) = 40 ∧ 0 ≤ wr (x3 + 2) ∧ wr (x3 + 2) < q1.2 x0 (-2)) (cnd (0 < x2 ∧ x2 < q1.2 (-1) 0 ∧ q1.2 x2 (-1) = 9) (bnd (clR PG0 MX d 256 [vR x2, vI (q1.2 x0 (wr (x3 + 1))), vI (q1.2 x0 (wr (x3 + 2)))] q1.2) (fun q2 => 
      cnd (wr (l_cmp q1.1 q2.1) = 0)
          (rsP PG0 MX d 286 18 [vR x0, vR x1, vR x2, vI (x3 + 6)] [] q2.2)
          (some (0, q2.2)))) none) none) none)) none) none) none :=
  blkE (cs := pgA_286) rfl [8, 18, 244, 307, 330, 353, 376, 399, 432, 465, 498, 531, 574, 607, 640, 673, 696, 729, 772, 815, 858, 891, 924, 967, 990, 1033, 1056, 1079, 1102, 1135, 1178, 1241, 1264, 1307, 1341, 1394, 1437, 1480, 1503, 1546, 1569, 1602, 1645, 1668, 1701, 1734, 1767, 1800, 1823, 1836, 1869] 30 _ _ _ _
set_option maxRecDepth 100000 in
theorem sg_286_1341 (d : Nat) (σ : HP) (x0 x1 x2 x3 : Int) : rsP PG0 MX d 286 1341 [vR x0, vR x1, vR x2, vI x3] [] σ =
    cnd (0 < x0 ∧ x0 < σ (-1) 0 ∧ σ x0 (-1) = 40 ∧ 0 ≤ wr (x3 + 1) ∧ wr (x3 + 1) < σ x0 (-2)) (cnd (0 < x0 ∧ x0 < σ (-1) 0 ∧ σ x0 (-1) = 40 ∧ 0 ≤ wr (x3 + 2) ∧ wr (x3 + 2) < σ x0 (-2)) (cnd (0 < x0 ∧ x0 < σ (-1) 0 ∧ σ x0 (-1) = 40 ∧ 0 ≤ wr (x3 + 3) ∧ wr (x3 + 3) < σ x0 (-2)) (cnd (0 < x0 ∧ x0 < σ (-1) 0 ∧ σ x0 (-1) = 40 ∧ 0 ≤ wr (x3 + 4) ∧ wr (x3 + 4) < σ x0 (-2)) (cnd (0 < x1 ∧ x1 < σ (-1) 0 ∧ σ x1 (-1) = 8) (bnd (clR PG0 MX d 135 [vR x1, vI (σ x0 (wr (x3 + 1))), vI (σ x0 (wr (x3 + 2))), vI (σ x0 (wr (x3 + 3))), vI (σ x0 (wr (x3 + 4)))] σ) (fun q1 => 
    cnd (0 < x0 ∧ x0 < q1.2 (-1) 0 ∧ q1.2 x0 (-1) = 40 ∧ 0 ≤ wr (x3 + 1) ∧ wr (x3 + 1) < q1.2 x0 (-2)) (cnd (0 < x0 ∧ x0 < q1.2 (-1) 0 ∧ q1.2 x0 (-1) = 40 ∧ 0 ≤ wr (x3 + 2) ∧ wr (x3 + 2) < q1.2 x0 (-2)) (cnd (0 < x0 ∧ x0 < q1.2 (-1) 0 ∧ q1.2 x0 (-1) = 40 ∧ 0 ≤ wr (x3 + 3) ∧ wr (x3 + 3) < q1.2 x0 (-2)) (cnd (0 < x0 ∧ x0 < q1.2 (-1) 0 ∧ q1.2 x0 (-1) = 40 ∧ 0 ≤ wr (x3 + 4) ∧ wr (x3 + 4) < q1.2 x0 (-2)) (cnd (0 < x2 ∧ x2 < q1.2 (-1) 0 ∧ q1.2 x2 (-1) = 9) (bnd (clR PG0 MX d 260 [vR x2, vI (q1.2 x0 (wr (x3 + 1))), vI (q1.2 x0 (wr (x3 + 2))), vI (q1.2 x0 (wr (x3 + 3))), vI (q1.2 x0 (wr (x3 + 4)))] q1.2) (fun q2 => 
      cnd (wr q1.1 = wr q2.1)
          (rsP PG0 MX d 286 18 [vR x0, vR x1, vR x2, vI (x3 + 6)] [] q2.2)
          (some (0, q2.2)))) none) none) none) none) none)) none) none) none) none) none :=
  blkE (cs := pgA_286) rfl [8, 18, 244, 307, 330, 353, 376, 399, 432, 465, 498, 531, 574, 607, 640, 673, 696, 729, 772, 815, 858, 891, 924, 967, 990, 1033, 1056, 1079, 1102, 1135, 1178, 1241, 1264, 1307, 1341, 1394, 1437, 1480, 1503, 1546, 1569, 1602, 1645, 1668, 1701, 1734, 1767, 1800, 1823, 1836, 1869] 49 _ _ _ _
set_option maxRecDepth 100000 in
theorem sg_286_1394 (d : Nat) (σ : HP) (x0 x1 x2 x3 : Int) : rsP PG0 MX d 286 1394 [vR x0, vR x1, vR x2, vI x3] [] σ =
    cnd (0 < x0 ∧ x0 < σ (-1) 0 ∧ σ x0 (-1) = 40 ∧ 0 ≤ wr (x3 + 1) ∧ wr (x3 + 1) < σ x0 (-2)) (cnd (0 < x0 ∧ x0 < σ (-1) 0 ∧ σ x0 (-1) = 40 ∧ 0 ≤ wr (x3 + 2) ∧ wr (x3 + 2) < σ x0 (-2)) (cnd (0 < x0 ∧ x0 < σ (-1) 0 ∧ σ x0 (-1) = 40 ∧ 0 ≤ wr (x3 + 3) ∧ wr (x3 + 3) < σ x0 (-2)) (cnd (0 < x1 ∧ x1 < σ (-1) 0 ∧ σ x1 (-1) = 8) (bnd (clR PG0 MX d 143 [vR x1, vI (σ x0 (wr (x3 + 1))), vI (σ x0 (wr (x3 + 2))), vI (σ x0 (wr (x3 + 3)))] σ) (fun q1 => 
    cnd (0 < x0 ∧ x0 < q1.2 (-1) 0 ∧ q1.2 x0 (-1) = 40 ∧ 0 ≤ wr (x3 + 1) ∧ wr (x3 + 1) < q1.2 x0 (-2)) (cnd (0 < x0 ∧ x0 < q1.2 (-1) 0 ∧ q1.2 x0 (-1) = 40 ∧ 0 ≤ wr (x3 + 2) ∧ wr (x3 + 2) < q1.2 x0 (-2)) (cnd (0 < x0 ∧ x0 < q1.2 (-1) 0 ∧ q1.2 x0 (-1) = 40 ∧ 0 ≤ wr (x3 + 3) ∧ wr (x3 + 3) < q1.2 x0 (-2)) (cnd (0 < x2 ∧ x2 < q1.2 (-1) 0 ∧ q1.2 x2 (-1) = 9) (bnd (clR PG0 MX d 266 [vR x2, vI (q1.2 x0 (wr (x3 + 1))), vI (q1.2 x0 (wr (x3 + 2))), vI (q1.2 x0 (wr (x3 + 3)))] q1.2) (fun q2 => 
      cnd (wr q1.1 = wr q2.1)
          (rsP PG0 MX d 286 18 [vR x0, vR x1, vR x2, vI (x3 + 6)] [] q2.2)
          (some (0, q2.2)))) none) none) none) none)) none) none) none) none :=
  blkE (cs := pgA_286) rfl [8, 18, 244, 307, 330, 353, 376, 399, 432, 465, 498, 531, 574, 607, 640, 673, 696, 729, 772, 815, 858, 891, 924, 967, 990, 1033, 1056, 1079, 1102, 1135, 1178, 1241, 1264, 1307, 1341, 1394, 1437, 1480, 1503, 1546, 1569, 1602, 1645, 1668, 1701, 1734, 1767, 1800, 1823, 1836, 1869] 39 _ _ _ _
set_option maxRecDepth 100000 in
theorem sg_286_1437 (d : Nat) (σ : HP) (x0 x1 x2 x3 : Int) : rsP PG0 MX d 286 1437 [vR x0, vR x1, vR x2, vI x3] [] σ =
    cnd (0 < x0 ∧ x0 < σ (-1) 0 ∧ σ x0 (-1) = 40 ∧ 0 ≤ wr (x3 + 1) ∧ wr (x3 + 1) < σ x0 (-2)) (cnd (0 < x0 ∧ x0 < σ (-1) 0 ∧ σ x0 (-1) = 40 ∧ 0 ≤ wr (x3 + 2) ∧ wr (x3 + 2) < σ x0 (-2)) (cnd (0 < x0 ∧ x0 < σ (-1) 0 ∧ σ x0 (-1) = 40 ∧ 0 ≤ wr (x3 + 3) ∧ wr (x3 + 3) < σ x0 (-2)) (cnd (0 < x1 ∧ x1 < σ (-1) 0 ∧ σ x1 (-1) = 8) (bnd (clR PG0 MX d 145 [vR x1, vI (σ x0 (wr (x3 + 1))), vI (σ x0 (wr (x3 + 2))), vI (σ x0 (wr (x3 + 3)))] σ) (fun q1 => 
    cnd (0 < x0 ∧ x0 < q1.2 (-1) 0 ∧ q1.2 x0 (-1) = 40 ∧ 0 ≤ wr (x3 + 1) ∧ wr (x3 + 1) < q1.2 x0 (-2)) (cnd (0 < x0 ∧ x0 < q1.2 (-1) 0 ∧ q1.2 x0 (-1) = 40 ∧ 0 ≤ wr (x3 + 2) ∧ wr (x3 + 2) < q1.2 x0 (-2)) (cnd (0 < x0 ∧ x0 < q1.2 (-1) 0 ∧ q1.2 x0 (-1) = 40 ∧ 0 ≤ wr (x3 + 3) ∧ wr (x3 + 3) < q1.2 x0 (-2)) (cnd (0 < x2 ∧ x2 < q1.2 (-1) 0 ∧ q1.2 x2 (-1) = 9) (bnd (clR PG0 MX d 267 [vR x2, vI (q1.2 x0 (wr (x3 + 1))), vI (q1.2 x0 (wr (x3 + 2))), vI (q1.2 x0 (wr (x3 + 3)))] q1.2) (fun q2 => 
      cnd (wr q1.1 = wr q2.1)
          (rsP PG0 MX d 286 18 [vR x0, vR x1, vR x2, vI (x3 + 6)] [] q2.2)
          (some (0, q2.2)))) none) none) none) none)) none) none) none) none :=
  blkE (cs := pgA_286) rfl [8, 18, 244, 307, 330, 353, 376, 399, 432, 465, 498, 531, 574, 607, 640, 673, 696, 729, 772, 815, 858, 891, 924, 967, 990, 1033, 1056, 1079, 1102, 1135, 1178, 1241, 1264, 1307, 1341, 1394, 1437, 1480, 1503, 1546, 1569, 1602, 1645, 1668, 1701, 1734, 1767, 1800, 1823, 1836, 1869] 39 _ _ _ _
set_option maxRecDepth 100000 in
theorem sg_286_1480 (d : Nat) (σ : HP) (x0 x1 x2 x3 : Int) : rsP PG0 MX d 286 1480 [vR x0, vR x1, vR x2, vI x3] [] σ =
    cnd (0 < x0 ∧ x0 < σ (-1) 0 ∧ σ x0 (-1) = 40 ∧ 0 ≤ wr (x3 + 1) ∧ wr (x3 + 1) < σ x0 (-2)) (cnd (0 < x1 ∧ x1 < σ (-1) 0 ∧ σ x1 (-1) = 8) (bnd (clR PG0 MX d 148 [vR x1, vI (σ x0 (wr (x3 + 1)))] σ) (fun q1 => 
    cnd (0 < x0 ∧ x0 < q1.2 (-1) 0 ∧ q1.2 x0 (-1) = 40 ∧ 0 ≤ wr (x3 + 1) ∧ wr (x3 + 1) < q1.2 x0 (-2)) (cnd (0 < x2 ∧ x2 < q1.2 (-1) 0 ∧ q1.2 x2 (-1) = 9) (bnd (clR PG0 MX d 269 [vR x2, vI (q1.2 x0 (wr (x3 + 1)))] q1.2) (fun q2 => 
      cnd (wr q1.1 = wr q2.1)
          (rsP PG0 MX d 286 18 [vR x0, vR x1, vR x2, vI (x3 + 6)] [] q2.2)
          (some (0, q2.2)))) none) none)) none) none :=
  blkE (cs := pgA_286) rfl [8, 18, 244, 307, 330, 353, 376, 399, 432, 465, 498, 531, 574, 607, 640, 673, 696, 729, 772, 815, 858, 891, 924, 967, 990, 1033, 1056, 1079, 1102, 1135, 1178, 1241, 1264, 1307, 1341, 1394, 1437, 1480, 1503, 1546, 1569, 1602, 1645, 1668, 1701, 1734, 1767, 1800, 1823, 1836, 1869] 19 _ _ _ _
set_option maxRecDepth 100000 in
theorem sg_286_1503 (d : Nat) (σ : HP) (x0 x1 x2 x3 : Int) : rsP PG0 MX d 286 1503 [vR x0, vR x1, vR x2, vI x3] [] σ =
    cnd (0 < x0 ∧ x0 < σ (-1) 0 ∧ σ x0 (-1) = 40 ∧ 0 ≤ wr (x3 + 1) ∧ wr (x3 + 1) < σ x0 (-2)) (cnd (0 < x0 ∧ x0 < σ (-1) 0 ∧ σ x0 (-1) = 40 ∧ 0 ≤ wr (x3 + 2) ∧ wr (x3 + 2) < σ x0 (-2)) (cnd (0 < x0 ∧ x0 < σ (-1) 0 ∧ σ x0 (-1) = 40 ∧ 0 ≤ wr (x3 + 3) ∧ wr (x3 + 3) < σ x0 (-2)) (cnd (0 < x1 ∧ x1 < σ (-1) 0 ∧ σ x1 (-1) = 8) (bnd (clR PG0 MX d 150 [vR x1, vI (σ x0 (wr (x3 + 1))), vI (σ x0 (wr (x3 + 2))), vI (σ x0 (wr (x3 + 3)))] σ) (fun q1 => 
    cnd (0 < x0 ∧ x0 < q1.2 (-1) 0 ∧ q1.2 x0 (-1) = 40 ∧ 0 ≤ wr (x3 + 1) ∧ wr (x3 + 1) < q1.2 x0 (-2)) (cnd (0 < x0 ∧ x0 < q1.2 (-1) 0 ∧ q1.2 x0 (-1) = 40 ∧ 0 ≤ wr (x3 + 2) ∧ wr (x3 + 2) < q1.2 x0 (-2)) (cnd (0 < x0 ∧ x0 < q1.2 (-1) 0 ∧ q1.2 x0 (-1) = 40 ∧ 0 ≤ wr (x3 + 3) ∧ wr (x3 + 3) < q1.2 x0 (-2)) (cnd (0 < x2 ∧ x2 < q1.2 (-1) 0 ∧ q1.2 x2 (-1) = 9) (bnd (clR PG0 MX d 270 [vR x2, vI (q1.2 x0 (wr (x3 + 1))), vI (q1.2 x0 (wr (x3 + 2))), vI (q1.2 x0 (wr (x3 + 3)))] q1.2) (fun q2 => 
      cnd (wr q1.1 = wr q2.1)
          (rsP PG0 MX d 286 18 [vR x0, vR x1, vR x2, vI (x3 + 6)] [] q2.2)
          (some (0, q2.2)))) none) none) none) none)) none) none) none) none :=
  blkE (cs := pgA_286) rfl [8, 18, 244, 307, 330, 353, 376, 399, 432, 465, 498, 531, 574, 607, 640, 673, 696, 729, 772, 815, 858, 891, 924, 967, 990, 1033, 1056, 1079, 1102, 1135, 1178, 1241, 1264, 1307, 1341, 1394, 1437, 1480, 1503, 1546, 1569, 1602, 1645, 1668, 1701, 1734, 1767, 1800, 1823, 1836, 1869] 39 _ _ _ _
set_option maxRecDepth 100000 in
theorem sg_286_1546 (d : Nat) (σ : HP) (x0 x1 x2 x3 : Int) : rsP PG0 MX d 286 1546 [vR x0, vR x1, vR x2, vI x3] [] σ =
    cnd (0 < x0 ∧ x0 < σ (-1) 0 ∧ σ x0 (-1) = 40 ∧ 0 ≤ wr (x3 + 1) ∧ wr (x3 + 1) < σ x0 (-2)) (cnd (0 < x1 ∧ x1 < σ (-1) 0 ∧ σ x1 (-1) = 8) (bnd (clR PG0 MX d 152 [vR x1, vI (σ x0 (wr (x3 + 1)))] σ) (fun q1 => 
    cnd (0 < x0 ∧ x0 < q1.2 (-1) 0 ∧ q1.2 x0 (-1) = 40 ∧ 0 ≤ wr (x3 + 1) ∧ wr (x3 + 1) < q1.2 x0 (-2)) (cnd (0 < x2 ∧ x2 < q1.2 (-1) 0 ∧ q1.2 x2 (-1) = 9) (bnd (clR PG0 MX d 271 [vR x2, vI (q1.2 x0 (wr (x3 + 1)))] q1.2) (fun q2 => 
      cnd (wr q1.1 = wr q2.1)
          (rsP PG0 MX d 286 18 [vR x0, vR x1, vR x2, vI (x3 + 6)] [] q2.2)
          (some (0, q2.2)))) none) none)) none) none :=
  blkE (cs := pgA_286) rfl [8, 18, 244, 307, 330, 353, 376, 399, 432, 465, 498, 531, 574, 607, 640, 673, 696, 729, 772, 815, 858, 891, 924, 967, 990, 1033, 1056, 1079, 1102, 1135, 1178, 1241, 1264, 1307, 1341, 1394, 1437, 1480, 1503, 1546, 1569, 1602, 1645, 1668, 1701, 1734, 1767, 1800, 1823, 1836, 1869] 19 _ _ _ _
set_option maxRecDepth 100000 in
theorem sg_286_1569 (d : Nat) (σ : HP) (x0 x1 x2 x3 : Int) : rsP PG0 MX d 286 1569 [vR x0, vR x1, vR x2, vI x3] [] σ =
    cnd (0 < x0 ∧ x0 < σ (-1) 0 ∧ σ x0 (-1) = 40 ∧ 0 ≤ wr (x3 + 1) ∧ wr (x3 + 1) < σ x0 (-2)) (cnd (0 < x0 ∧ x0 < σ (-1) 0 ∧ σ x0 (-1) = 40 ∧ 0 ≤ wr (x3 + 2) ∧ wr (x3 + 2) < σ x0 (-2)) (cnd (0 < x1 ∧ x1 < σ (-1) 0 ∧ σ x1 (-1) = 8) (bnd (clR PG0 MX d 154 [vR x1, vI (σ x0 (wr (x3 + 1))), vI (σ x0 (wr (x3 + 2)))] σ) (fun q1 => 
    cnd (0 < x0 ∧ x0 < q1.2 (-1) 0 ∧ q1.2 x0 (-1) = 40 ∧ 0 ≤ wr (x3 + 1) ∧ wr (x3 + 1) < q1.2 x0 (-2)) (cnd (0 < x0 ∧ x0 < q1.2 (-1) 0 ∧ q1.2 x0 (-1) = 40 ∧ 0 ≤ wr (x3 + 2) ∧ wr (x3 + 2) < q1.2 x0 (-2)) (cnd (0 < x2 ∧ x2 < q1.2 (-1) 0 ∧ q1.2 x2 (-1) = 9) (bnd (clR PG0 MX d 272 [vR x2, vI (q1.2 x0 (wr (x3 + 1))), vI (q1.2 x0 (wr (x3 + 2)))] q1.2) (fun q2 => 
      cnd (wr q1.1 = wr q2.1)
          (rsP PG0 MX d 286 18 [vR x0, vR x1, vR x2, vI (x3 + 6)] [] q2.2)
          (some (0, q2.2)))) none) none) none)) none) none) none :=
  blkE (cs := pgA_286) rfl [8, 18, 244, 307, 330, 353, 376, 399, 432, 465, 498, 531, 574, 607, 640, 673, 696, 729, 772, 815, 858, 891, 924, 967, 990, 1033, 1056, 1079, 1102, 1135, 1178, 1241, 1264, 1307, 1341, 1394, 1437, 1480, 1503, 1546, 1569, 1602, 1645, 1668, 1701, 1734, 1767, 1800, 1823, 1836, 1869] 29 _ _ _ _
set_option maxRecDepth 100000 in
theorem sg_286_1602 (d : Nat) (σ : HP) (x0 x1 x2 x3 : Int) : rsP PG0 MX d 286 1602 [vR x0, vR x1, vR x2, vI x3] [] σ =
    cnd (0 < x0 ∧ x0 < σ (-1) 0 ∧ σ x0 (-1) = 40 ∧ 0 ≤ wr (x3 + 1) ∧ wr (x3 + 1) < σ x0 (-2)) (cnd (0 < x0 ∧ x0 < σ (-1) 0 ∧ σ x0 (-1) = 40 ∧ 0 ≤ wr (x3 + 2) ∧ wr (x3 + 2) < σ x0 (-2)) (cnd (0 < x0 ∧ x0 < σ (-1) 0 ∧ σ x0 (-1) = 40 ∧ 0 ≤ wr (x3 + 3) ∧ wr (x3 + 3) < σ x0 (-2)) (cnd (0 < x1 ∧ x1 < σ (-1) 0 ∧ σ x1 (-1) = 8) (bnd (clR PG0 MX d 155 [vR x1, vI (σ x0 (wr (x3 + 1))), vI (σ x0 (wr (x3 + 2))), vI (σ x0 (wr (x3 + 3)))] σ) (fun q1 => 
    cnd (0 < x0 ∧ x0 < q1.2 (-1) 0 ∧ q1.2 x0 (-1) = 40 ∧ 0 ≤ wr (x3 + 1) ∧ wr (x3 + 1) < q1.2 x0 (-2)) (cnd (0 < x0 ∧ x0 < q1.2 (-1) 0 ∧ q1.2 x0 (-1) = 40 ∧ 0 ≤ wr (x3 + 2) ∧ wr (x3 + 2) < q1.2 x0 (-2)) (cnd (0 < x0 ∧ x0 < q1.2 (-1) 0 ∧ q1.2 x0 (-1) = 40 ∧ 0 ≤ wr (x3 + 3) ∧ wr (x3 + 3) < q1.2 x0 (-2)) (cnd (0 < x2 ∧ x2 < q1.2 (-1) 0 ∧ q1.2 x2 (-1) = 9) (bnd (clR PG0 MX d 274 [vR x2, vI (q1.2 x0 (wr (x3 + 1))), vI (q1.2 x0 (wr (x3 + 2))), vI (q1.2 x0 (wr (x3 + 3)))] q1.2) (fun q2 => 
      cnd (wr q1.1 = wr q2.1)
          (rsP PG0 MX d 286 18 [vR x0, vR x1, vR x2, vI (x3 + 6)] [] q2.2)
          (some (0, q2.2)))) none) none) none) none)) none) none) none) none :=
  blkE (cs := pgA_286) rfl [8, 18, 244, 307, 330, 353, 376, 399, 432, 465, 498, 531, 574, 607, 640, 673, 696, 729, 772, 815, 858, 891, 924, 967, 990, 1033, 1056, 1079, 1102, 1135, 1178, 1241, 1264, 1307, 1341, 1394, 1437, 1480, 1503, 1546, 1569, 1602, 1645, 1668, 1701, 1734, 1767, 1800, 1823, 1836, 1869] 39 _ _ _ _
set_option maxRecDepth 100000 in
theorem sg_286_1645 (d : Nat) (σ : HP) (x0 x1 x2 x3 : Int) : rsP PG0 MX d 286 1645 [vR x0, vR x1, vR x2, vI x3] [] σ =
    cnd (0 < x0 ∧ x0 < σ (-1) 0 ∧ σ x0 (-1) = 40 ∧ 0 ≤ wr (x3 + 1) ∧ wr (x3 + 1) < σ x0 (-2)) (cnd (0 < x1 ∧ x1 < σ (-1) 0 ∧ σ x1 (-1) = 8) (bnd (clR PG0 MX d 157 [vR x1, vI (σ x0 (wr (x3 + 1)))] σ) (fun q1 => 
    cnd (0 < x0 ∧ x0 < q1.2 (-1) 0 ∧ q1.2 x0 (-1) = 40 ∧ 0 ≤ wr (x3 + 1) ∧ wr (x3 + 1) < q1.2 x0 (-2)) (cnd (0 < x2 ∧ x2 < q1.2 (-1) 0 ∧ q1.2 x2 (-1) = 9) (bnd (clR PG0 MX d 275 [vR x2, vI (q1.2 x0 (wr (x3 + 1)))] q1.2) (fun q2 => 
      cnd (wr q1.1 = wr q2.1)
          (rsP PG0 MX d 286 18 [vR x0, vR x1, vR x2, vI (x3 + 6)] [] q2.2)
          (some (0, q2.2)))) none) none)) none) none :=
  blkE (cs := pgA_286) rfl [8, 18, 244, 307, 330, 353, 376, 399, 432, 465, 498, 531, 574, 607, 640, 673, 696, 729, 772, 815, 858, 891, 924, 967, 990, 1033, 1056, 1079, 1102, 1135, 1178, 1241, 1264, 1307, 1341, 1394, 1437, 1480, 1503, 1546, 1569, 1602, 1645, 1668, 1701, 1734, 1767, 1800, 1823, 1836, 1869] 19 _ _ _ _
set_option maxRecDepth 100000 in
theorem sg_286_1668 (d : Nat) (σ : HP) (x0 x1 x2 x3 : Int) : rsP PG0 MX d 286 1668 [vR x0, vR x1, vR x2, vI x3] [] σ =
    cnd (0 < x0 ∧ x0 < σ (-1) 0 ∧ σ x0 (-1) = 40 ∧ 0 ≤ wr (x3 + 1) ∧ wr (x3 + 1) < σ x0 (-2)) (cnd (0 < x0 ∧ x0 < σ (-1) 0 ∧ σ x0 (-1) = 40 ∧ 0 ≤ wr (x3 + 2) ∧ wr (x3 + 2) < σ x0 (-2)) (cnd (0 < x1 ∧ x1 < σ (-1) 0 ∧ σ x1 (-1) = 8) (bnd (clR PG0 MX d 158 [vR x1, vI (σ x0 (wr (x3 + 1))), vI (σ x0 (wr (x3 + 2)))] σ) (fun q1 => 
    cnd (0 < x0 ∧ x0 < q1.2 (-1) 0 ∧ q1.2 x0 (-1) = 40 ∧ 0 ≤ wr (x3 + 1) ∧ wr (x3 + 1) < q1.2 x0 (-2)) (cnd (0 < x0 ∧ x0 < q1.2 (-1) 0 ∧ q1.2 x0 (-1) = 40 ∧ 0 ≤ wr (x3 + 2) ∧ wr (x3 + 2) < q1.2 x0 (-2)) (cnd (0 < x2 ∧ x2 < q1.2 (-1) 0 ∧ q1.2 x2 (-1) = 9) (bnd (clR PG0 MX d 276 [vR x2, vI (q1.2 x0 (wr (x3 + 1))), vI (q1.2 x0 (wr (x3 + 2)))] q1.2) (fun q2 => 
      cnd (wr q1.1 = wr q2.1)
          (rsP PG0 MX d 286 18 [vR x0, vR x1, vR x2, vI (x3 + 6)] [] q2.2)
          (some (0, q2.2)))) none) none) none)) none) none) none :=
  blkE (cs := pgA_286) rfl [8, 18, 244, 307, 330, 353, 376, 399, 432, 465, 498, 531, 574, 607, 640, 673, 696, 729, 772, 815, 858, 891, 924, 967, 990, 1033, 1056, 1079, 1102, 1135, 1178, 1241, 1264, 1307, 1341, 1394, 1437, 1480, 1503, 1546, 1569, 1602, 1645, 1668, 1701, 1734, 1767, 1800, 1823, 1836, 1869] 29 _ _ _ _
set_option maxRecDepth 100000 in
theorem sg_286_1701 (d : Nat) (σ : HP) (x0 x1 x2 x3 : Int) : rsP PG0 MX d 286 1701 [vR x0, vR x1, vR x2, vI x3] [] σ =
    cnd (0 < x0 ∧ x0 < σ (-1) 0 ∧ σ x0 (-1) = 40 ∧ 0 ≤ wr (x3 + 1) ∧ wr (x3 + 1) < σ x0 (-2)) (cnd (0 < x0 ∧ x0 < σ (-1) 0 ∧ σ x0 (-1) = 40 ∧ 0 ≤ wr (x3 + 2) ∧ wr (x3 + 2) < σ x0 (-2)) (cnd (0 < x1 ∧ x1 < σ (-1) 0 ∧ σ x1 (-1) = 8) (bnd (clR PG0 MX d 159 [vR x1, vI (σ x0 (wr (x3 + 1))), vI (σ x0 (wr (x3 + 2)))] σ) (fun q1 => 
    cnd (0 < x0 ∧ x0 < q1.2 (-1) 0 ∧ q1.2 x0 (-1) = 40 ∧ 0 ≤ wr (x3 + 1) ∧ wr (x3 + 1) < q1.2 x0 (-2)) (cnd (0 < x0 ∧ x0 < q1.2 (-1) 0 ∧ q1.2 x0 (-1) = 40 ∧ 0 ≤ wr (x3 + 2) ∧ wr (x3 + 2) < q1.2 x0 (-2)) (cnd (0 < x2 ∧ x2 < q1.2 (-1) 0 ∧ q1.2 x2 (-1) = 9) (bnd (clR PG0 MX d 277 [vR x2, vI (q1.2 x0 (wr (x3 + 1))), vI (q1.2 x0 (wr (x3 + 2)))] q1.2) (fun q2 => 
      cnd (wr q1.1 = wr q2.1)
          (rsP PG0 MX d 286 18 [vR x0, vR x1, vR x2, vI (x3 + 6)] [] q2.2)
          (some (0, q2.2)))) none) none) none)) none) none) none :=
  blkE (cs := pgA_286) rfl [8, 18, 244, 307, 330, 353, 376, 399, 432, 465, 498, 531, 574, 607, 640, 673, 696, 729, 772, 815, 858, 891, 924, 967, 990, 1033, 1056, 1079, 1102, 1135, 1178, 1241, 1264, 1307, 1341, 1394, 1437, 1480, 1503, 1546, 1569, 1602, 1645, 1668, 1701, 1734, 1767, 1800, 1823, 1836, 1869] 29 _ _ _ _
set_option maxRecDepth 100000 in
theorem sg_286_1734 (d : Nat) (σ : HP) (x0 x1 x2 x3 : Int) : rsP PG0 MX d 286 1734 [vR x0, vR x1, vR x2, vI x3] [] σ =
    cnd (0 < x0 ∧ x0 < σ (-1) 0 ∧ σ x0 (-1) = 40 ∧ 0 ≤ wr (x3 + 1) ∧ wr (x3 + 1) < σ x0 (-2)) (cnd (0 < x0 ∧ x0 < σ (-1) 0 ∧ σ x0 (-1) = 40 ∧ 0 ≤ wr (x3 + 2) ∧ wr (x3 + 2) < σ x0 (-2)) (cnd (0 < x1 ∧ x1 < σ (-1) 0 ∧ σ x1 (-1) = 8) (bnd (clR PG0 MX d 160 [vR x1, vI (σ x0 (wr (x3 + 1))), vI (σ x0 (wr (x3 + 2)))] σ) (fun q1 => 
    cnd (0 < x0 ∧ x0 < q1.2 (-1) 0 ∧ q1.2 x0 (-1) = 40 ∧ 0 ≤ wr (x3 + 1) ∧ wr (x3 + 1) < q1.2 x0 (-2)) (cnd (0 < x0 ∧ x0 < q1.2 (-1) 0 ∧ q1.2 x0 (-1) = 40 ∧ 0 ≤ wr (x3 + 2) ∧ wr (x3 + 2) < q1.2 x0 (-2)) (cnd (0 < x2 ∧ x2 < q1.2 (-1) 0 ∧ q1.2 x2 (-1) = 9) (bnd (clR PG0 MX d 278 [vR x2, vI (q1.2 x0 (wr (x3 + 1))), vI (q1.2 x0 (wr (x3 + 2)))] q1.2) (fun q2 => 
      cnd (wr q1.1 = wr q2.1)
          (rsP PG0 MX d 286 18 [vR x0, vR x1, vR x2, vI (x3 + 6)] [] q2.2)
          (some (0, q2.2)))) none) none) none)) none) none) none :=
  blkE (cs := pgA_286) rfl [8, 18, 244, 307, 330, 353, 376, 399, 432, 465, 498, 531, 574, 607, 640, 673, 696, 729, 772, 815, 858, 891, 924, 967, 990, 1033, 1056, 1079, 1102, 1135, 1178, 1241, 1264, 1307, 1341, 1394, 1437, 1480, 1503, 1546, 1569, 1602, 1645, 1668, 1701, 1734, 1767, 1800, 1823, 1836, 1869] 29 _ _ _ _
set_option maxRecDepth 100000 in
theorem sg_286_1767 (d : Nat) (σ : HP) (x0 x1 x2 x3 : Int) : rsP PG0 MX d 286 1767 [vR x0, vR x1, vR x2, vI x3] [] σ =
    cnd (0 < x0 ∧ x0 < σ (-1) 0 ∧ σ x0 (-1) = 40 ∧ 0 ≤ wr (x3 + 1) ∧ wr (x3 + 1) < σ x0 (-2)) (cnd (0 < x0 ∧ x0 < σ (-1) 0 ∧ σ x0 (-1) = 40 ∧ 0 ≤ wr (x3 + 2) ∧ wr (x3 + 2) < σ x0 (-2)) (cnd (0 < x1 ∧ x1 < σ (-1) 0 ∧ σ x1 (-1) = 8) (bnd (clR PG0 MX d 161 [vR x1, vI (σ x0 (wr (x3 + 1))), vI (σ x0 (wr (x3 + 2)))] σ) (fun q1 => 
    cnd (0 < x0 ∧ x0 < q1.2 (-1) 0 ∧ q1.2 x0 (-1) = 40 ∧ 0 ≤ wr (x3 + 1) ∧ wr (x3 + 1) < q1.2 x0 (-2)) (cnd (0 < x0 ∧ x0 < q1.2 (-1) 0 ∧ q1.2 x0 (-1) = 40 ∧ 0 ≤ wr (x3 + 2) ∧ wr (x3 + 2) < q1.2 x0 (-2)) (cnd (0 < x2 ∧ x2 < q1.2 (-1) 0 ∧ q1.2 x2 (-1) = 9) (bnd (clR PG0 MX d 279 [vR x2, vI (q1.2 x0 (wr (x3 + 1))), vI (q1.2 x0 (wr (x3 + 2)))] q1.2) (fun q2 => 
      cnd (wr q1.1 = wr q2.1)
          (rsP PG0 MX d 286 18 [vR x0, vR x1, vR x2, vI (x3 + 6)] [] q2.2)
          (some (0, q2.2)))) none) none) none)) none) none) none :=
  blkE (cs := pgA_286) rfl [8, 18, 244, 307, 330, 353, 376, 399, 432, 465, 498, 531, 574, 607, 640, 673, 696, 729, 772, 815, 858, 891, 924, 967, 990, 1033, 1056, 1079, 1102, 1135, 1178, 1241, 1264, 1307, 1341, 1394, 1437, 1480, 1503, 1546, 1569, 1602, 1645, 1668, 1701, 1734, 1767, 1800, 1823, 1836, 1869] 29 _ _ _ _
set_option maxRecDepth 100000 in
theorem sg_286_1800 (d : Nat) (σ : HP) (x0 x1 x2 x3 : Int) : rsP PG0 MX d 286 1800 [vR x0, vR x1, vR x2, vI x3] [] σ =
    cnd (0 < x0 ∧ x0 < σ (-1) 0 ∧ σ x0 (-1) = 40 ∧ 0 ≤ wr (x3 + 1) ∧ wr (x3 + 1) < σ x0 (-2)) (cnd (0 < x1 ∧ x1 < σ (-1) 0 ∧ σ x1 (-1) = 8) (bnd (clR PG0 MX d 164 [vR x1, vI (σ x0 (wr (x3 + 1)))] σ) (fun q1 => 
    cnd (0 < x0 ∧ x0 < q1.2 (-1) 0 ∧ q1.2 x0 (-1) = 40 ∧ 0 ≤ wr (x3 + 1) ∧ wr (x3 + 1) < q1.2 x0 (-2)) (cnd (0 < x2 ∧ x2 < q1.2 (-1) 0 ∧ q1.2 x2 (-1) = 9) (bnd (clR PG0 MX d 177 [vR x2, vI (q1.2 x0 (wr (x3 + 1)))] q1.2) (fun q2 => 
      cnd (wr q1.1 = wr q2.1)
          (rsP PG0 MX d 286 18 [vR x0, vR x1, vR x2, vI (x3 + 6)] [] q2.2)
          (some (0, q2.2)))) none) none)) none) none :=
  blkE (cs := pgA_286) rfl [8, 18, 244, 307, 330, 353, 376, 399, 432, 465, 498, 531, 574, 607, 640, 673, 696, 729, 772, 815, 858, 891, 924, 967, 990, 1033, 1056, 1079, 1102, 1135, 1178, 1241, 1264, 1307, 1341, 1394, 1437, 1480, 1503, 1546, 1569, 1602, 1645, 1668, 1701, 1734, 1767, 1800, 1823, 1836, 1869] 19 _ _ _ _
set_option maxRecDepth 100000 in
theorem sg_286_1823 (d : Nat) (σ : HP) (x0 x1 x2 x3 : Int) : rsP PG0 MX d 286 1823 [vR x0, vR x1, vR x2, vI x3] [] σ =
    cnd (0 < x1 ∧ x1 < σ (-1) 0 ∧ σ x1 (-1) = 8) (bnd (clR PG0 MX d 165 [vR x1] σ) (fun q1 => 
    cnd (0 < x2 ∧ x2 < q1.2 (-1) 0 ∧ q1.2 x2 (-1) = 9) (bnd (clR PG0 MX d 176 [vR x2] q1.2) (fun q2 => 
      cnd (wr q1.1 = wr q2.1)
          (rsP PG0 MX d 286 18 [vR x0, vR x1, vR x2, vI (x3 + 6)] [] q2.2)
          (some (0, q2.2)))) none)) none :=
  blkE (cs := pgA_286) rfl [8, 18, 244, 307, 330, 353, 376, 399, 432, 465, 498, 531, 574, 607, 640, 673, 696, 729, 772, 815, 858, 891, 924, 967, 990, 1033, 1056, 1079, 1102, 1135, 1178, 1241, 1264, 1307, 1341, 1394, 1437, 1480, 1503, 1546, 1569, 1602, 1645, 1668, 1701, 1734, 1767, 1800, 1823, 1836, 1869] 9 _ _ _ _
set_option maxRecDepth 100000 in
theorem sg_286_1836 (d : Nat) (σ : HP) (x0 x1 x2 x3 : Int) : rsP PG0 MX d 286 1836 [vR x0, vR x1, vR x2, vI x3] [] σ =
    cnd (0 < x0 ∧ x0 < σ (-1) 0 ∧ σ x0 (-1) = 40 ∧ 0 ≤ wr (x3 + 1) ∧ wr (x3 + 1) < σ x0 (-2)) (cnd (0 < x0 ∧ x0 < σ (-1) 0 ∧ σ x0 (-1) = 40 ∧ 0 ≤ wr (x3 + 2) ∧ wr (x3 + 2) < σ x0 (-2)) (cnd (0 < x1 ∧ x1 < σ (-1) 0 ∧ σ x1 (-1) = 8) (bnd (clR PG0 MX d 169 [vR x1, vI (σ x0 (wr (x3 + 1))), vI (σ x0 (wr (x3 + 2)))] σ) (fun q1 => 
    cnd (0 < x0 ∧ x0 < q1.2 (-1) 0 ∧ q1.2 x0 (-1) = 40 ∧ 0 ≤ wr (x3 + 1) ∧ wr (x3 + 1) < q1.2 x0 (-2)) (cnd (0 < x0 ∧ x0 < q1.2 (-1) 0 ∧ q1.2 x0 (-1) = 40 ∧ 0 ≤ wr (x3 + 2) ∧ wr (x3 + 2) < q1.2 x0 (-2)) (cnd (0 < x2 ∧ x2 < q1.2 (-1) 0 ∧ q1.2 x2 (-1) = 9) (bnd (clR PG0 MX d 282 [vR x2, vI (q1.2 x0 (wr (x3 + 1))), vI (q1.2 x0 (wr (x3 + 2)))] q1.2) (fun q2 => 
      cnd (wr q1.1 = wr q2.1)
          (rsP PG0 MX d 286 18 [vR x0, vR x1, vR x2, vI (x3 + 6)] [] q2.2)
          (some (0, q2.2)))) none) none) none)) none) none) none :=
  blkE (cs := pgA_286) rfl [8, 18, 244, 307, 330, 353, 376, 399, 432, 465, 498, 531, 574, 607, 640, 673, 696, 729, 772, 815, 858, 891, 924, 967, 990, 1033, 1056, 1079, 1102, 1135, 1178, 1241, 1264, 1307, 1341, 1394, 1437, 1480, 1503, 1546, 1569, 1602, 1645, 1668, 1701, 1734, 1767, 1800, 1823, 1836, 1869] 29 _ _ _ _
set_option maxRecDepth 100000 in
theorem sg_286_1869 (d : Nat) (σ : HP) (x0 x1 x2 x3 : Int) : rsP PG0 MX d 286 1869 [vR x0, vR x1, vR x2, vI x3] [] σ =
    cnd (0 < x0 ∧ x0 < σ (-1) 0 ∧ σ x0 (-1) = 40 ∧ 0 ≤ wr (x3 + 1) ∧ wr (x3 + 1) < σ x0 (-2)) (cnd (0 < x1 ∧ x1 < σ (-1) 0 ∧ σ x1 (-1) = 8) (bnd (clR PG0 MX d 174 [vR x1, vI (σ x0 (wr (x3 + 1)))] σ) (fun q1 => 
    cnd (0 < x0 ∧ x0 < q1.2 (-1) 0 ∧ q1.2 x0 (-1) = 40 ∧ 0 ≤ wr (x3 + 1) ∧ wr (x3 + 1) < q1.2 x0 (-2)) (cnd (0 < x2 ∧ x2 < q1.2 (-1) 0 ∧ q1.2 x2 (-1) = 9) (bnd (clR PG0 MX d 285 [vR x2, vI (q1.2 x0 (wr (x3 + 1)))] q1.2) (fun q2 => 
      cnd (wr q1.1 = wr q2.1)
          (rsP PG0 MX d 286 18 [vR x0, vR x1, vR x2, vI (x3 + 6)] [] q2.2)
          (some (0, q2.2)))) none) none)) none) none :=
  blkE (cs := pgA_286) rfl [8, 18, 244, 307, 330, 353, 376, 399, 432, 465, 498, 531, 574, 607, 640, 673, 696, 729, 772, 815, 858, 891, 924, 967, 990, 1033, 1056, 1079, 1102, 1135, 1178, 1241, 1264, 1307, 1341, 1394, 1437, 1480, 1503, 1546, 1569, 1602, 1645, 1668, 1701, 1734, 1767, 1800, 1823, 1836, 1869] 19 _ _ _ _
