/-! LONG NUMBERS: Long.bitCount, onesOf -/
def lu (x : Int) : Nat := (Int64.ofInt x).toBitVec.toNat
theorem lu_lt (x : Int) : lu x < 18446744073709551616 := (Int64.ofInt x).toBitVec.isLt
theorem lu_e (x : Int) : lu x = (x % 18446744073709551616).toNat := by
  unfold lu
  show (BitVec.ofInt 64 x).toNat = _
  rw [BitVec.toNat_ofInt]
  rfl
theorem lu_z (z : Int64) : lu z.toInt = z.toBitVec.toNat := by
  unfold lu
  rw [Int64.ofInt_toInt]
theorem lu_and (x y : Int) : lu (l_and x y) = lu x &&& lu y := by
  unfold l_and
  rw [lu_z]
  show ((Int64.ofInt x).toBitVec &&& (Int64.ofInt y).toBitVec).toNat = _
  rw [BitVec.toNat_and]
  rfl
theorem sh_l64 : ∀ k : Nat, k < 64 → (((Int32.ofInt (k : Int)).toInt64.toUInt64 &&& Int64.toUInt64 63).toBitVec % 64).toNat = k := by decide +kernel
theorem lu_ushr {x : Int} {k : Nat} (hk : k < 64) : lu (l_ushr x k) = lu x / 2 ^ k := by
  unfold l_ushr
  rw [lu_z]
  show ((Int64.ofInt x).toBitVec >>> (((Int32.ofInt (k : Int)).toInt64.toUInt64 &&& Int64.toUInt64 63).toBitVec % 64)).toNat = _
  rw [BitVec.ushiftRight_eq', BitVec.toNat_ushiftRight, sh_l64 k hk, Nat.shiftRight_eq_div_pow]
  rfl
theorem lu_sub (x y : Int) : lu (x - y) = (lu x + 18446744073709551616 - lu y) % 18446744073709551616 := by
  rw [lu_e, lu_e, lu_e]
  omega
theorem lu_add (x y : Int) : lu (x + y) = (lu x + lu y) % 18446744073709551616 := by
  rw [lu_e, lu_e, lu_e]
  omega
theorem lu_n {n : Nat} (h : n < 18446744073709551616) : lu (n : Int) = n := by
  rw [lu_e]
  omega
theorem l_cmp0 (x : Int) : (l_cmp x 0 = 0 ↔ lu x = 0) ∧ i32 (l_cmp x 0) := by
  unfold l_cmp lg_cmp
  have z0 : Int64.ofInt x = Int64.ofInt 0 ↔ lu x = 0 := by
    unfold lu
    constructor
    · intro h; rw [h]; rfl
    · intro h
      apply Int64.toBitVec_inj.mp
      apply BitVec.eq_of_toNat_eq
      rw [h]; rfl
  by_cases h : Int64.ofInt x > Int64.ofInt 0
  · rw [if_pos h]
    refine ⟨⟨fun q => (by cases q), fun q => ?_⟩, ⟨by decide, by decide⟩⟩
    rw [z0.mpr q] at h
    exact (Int64.lt_irrefl h).elim
  · rw [if_neg h]
    by_cases e : Int64.ofInt x = Int64.ofInt 0
    · rw [if_pos e]
      exact ⟨⟨fun _ => z0.mp e, fun _ => rfl⟩, ⟨by decide, by decide⟩⟩
    · rw [if_neg e]
      exact ⟨⟨fun q => (by cases q), fun q => absurd (z0.mpr q) e⟩, ⟨by decide, by decide⟩⟩
theorem i_and127 (x : Int) : i_and x 127 = ((lu x % 128 : Nat) : Int) := by
  have e : (BitVec.ofInt 32 x).toNat % 128 = lu x % 128 := by
    rw [BitVec.toNat_ofInt, lu_e]
    show (x % 4294967296).toNat % 128 = _
    omega
  unfold i_and
  refine bv_int ?_ (by omega)
  show ((BitVec.ofInt 32 x) &&& (Int32.ofInt 127).toBitVec).toNat = _
  rw [BitVec.toNat_and, ← e]
  show (BitVec.ofInt 32 x).toNat &&& (2 ^ 7 - 1) = _
  rw [Nat.and_two_pow_sub_one_eq_mod]
theorem lu_u1 (x : Int) : lu (l_ushr x 1) = lu x / 2 := lu_ushr (x := x) (k := 1) (by omega)
theorem lu_u2 (x : Int) : lu (l_ushr x 2) = lu x / 4 := lu_ushr (x := x) (k := 2) (by omega)
theorem lu_u4 (x : Int) : lu (l_ushr x 4) = lu x / 16 := lu_ushr (x := x) (k := 4) (by omega)
theorem lu_u8 (x : Int) : lu (l_ushr x 8) = lu x / 256 := lu_ushr (x := x) (k := 8) (by omega)
theorem lu_u16 (x : Int) : lu (l_ushr x 16) = lu x / 65536 := lu_ushr (x := x) (k := 16) (by omega)
theorem lu_u32 (x : Int) : lu (l_ushr x 32) = lu x / 4294967296 := lu_ushr (x := x) (k := 32) (by omega)
def lb1 (x : Int) : Int := x - l_and (l_ushr x 1) 6148914691236517205
def lb2 (x : Int) : Int := l_and x 3689348814741910323 + l_and (l_ushr x 2) 3689348814741910323
def lb3 (x : Int) : Int := l_and (x + l_ushr x 4) 1085102592571150095
def lb4 (x : Int) : Int := x + l_ushr x 8
def lb5 (x : Int) : Int := x + l_ushr x 16
def lb6 (x : Int) : Int := x + l_ushr x 32
theorem lu_lb1 (x : Int) : lu (lb1 x) = S1 8 (lu x) := by
  unfold lb1 S1
  have h := lu_lt x
  rw [lu_sub, lu_and, lu_u1, show lu 6148914691236517205 = rep 85 8 by decide]
  have h1 : lu x / 2 &&& rep 85 8 ≤ lu x / 2 := Nat.and_le_left
  show (lu x + 18446744073709551616 - (lu x / 2 &&& rep 85 8)) % 18446744073709551616 = _
  omega
theorem lu_lb2 {x : Int} : lu (lb2 x) = S2 8 (lu x) := by
  unfold lb2 S2
  have h := lu_lt x
  rw [lu_add, lu_and, lu_and, lu_u2, show lu 3689348814741910323 = rep 51 8 by decide]
  have h1 : lu x &&& rep 51 8 ≤ rep 51 8 := Nat.and_le_right
  have h2 : lu x / 4 &&& rep 51 8 ≤ rep 51 8 := Nat.and_le_right
  have h3 : rep 51 8 = 3689348814741910323 := by decide
  show ((lu x &&& rep 51 8) + (lu x / 4 &&& rep 51 8)) % 18446744073709551616 = _
  omega
theorem lu_lb3 {x : Int} (h : lu x < 9223372036854775808) : lu (lb3 x) = S3 8 (lu x) := by
  unfold lb3 S3
  rw [lu_and, lu_add, lu_u4, show lu 1085102592571150095 = rep 15 8 by decide]
  show ((lu x + lu x / 16) % 18446744073709551616) &&& rep 15 8 = _
  rw [Nat.mod_eq_of_lt (by omega)]
theorem s119 {d : Nat} (h : 1 ≤ d) (σ : HP) (x : Int) : clR PG0 MX d 119 [vL x] σ = some (((pcN 64 (lu x) : Nat) : Int), σ) := by
  obtain ⟨d, rfl⟩ := ob1 (show 1 ≤ d by omega)
  have hx := lu_lt x
  have e1 := lu_lb1 x
  have e2 := lu_lb2 (x := lb1 x)
  have b2 : S2 8 (S1 8 (lu x)) < 9223372036854775808 := by
    unfold S2
    have h1 : S1 8 (lu x) &&& rep 51 8 ≤ rep 51 8 := Nat.and_le_right
    have h2 : S1 8 (lu x) / 4 &&& rep 51 8 ≤ rep 51 8 := Nat.and_le_right
    have h3 : rep 51 8 = 3689348814741910323 := by decide
    omega
  rw [e1] at e2
  have e3 := lu_lb3 (x := lb2 (lb1 x)) (by rw [e2]; exact b2)
  rw [e2, S123 8 (lu x) (show lu x < 18446744073709551616 from hx)] at e3
  have bs := by_sum (u := lu x) (show lu x < 18446744073709551616 from hx)
  have q1 : byC 8 (lu x) + byC 8 (lu x) / 256 < 1152921504606846976 := bs.1
  have e4 : lu (lb4 (lb3 (lb2 (lb1 x)))) = byC 8 (lu x) + byC 8 (lu x) / 256 := by
    unfold lb4
    rw [lu_add, lu_u8, e3]
    show (byC 8 (lu x) + byC 8 (lu x) / 256) % 18446744073709551616 = _
    omega
  have e5 : lu (lb5 (lb4 (lb3 (lb2 (lb1 x))))) = byC 8 (lu x) + byC 8 (lu x) / 256 + (byC 8 (lu x) + byC 8 (lu x) / 256) / 65536 := by
    unfold lb5
    rw [lu_add, lu_u16, e4]
    generalize byC 8 (lu x) + byC 8 (lu x) / 256 = y at *
    show (y + y / 65536) % 18446744073709551616 = _
    omega
  have e6 : lu (lb6 (lb5 (lb4 (lb3 (lb2 (lb1 x)))))) % 128 = pcN 64 (lu x) := by
    have q2 := bs.2
    unfold lb6
    rw [lu_add, lu_u32, e5]
    generalize byC 8 (lu x) + byC 8 (lu x) / 256 = y at *
    show ((y + y / 65536 + (y + y / 65536) / 4294967296) % 18446744073709551616) % 128 = _
    rw [← q2, Nat.mod_eq_of_lt (b := 18446744073709551616) (by omega)]
  rw [ce_119, sg_119_0]
  show some (i_and (lb6 (lb5 (lb4 (lb3 (lb2 (lb1 x)))))) 127, σ) = _
  rw [i_and127, e6]
