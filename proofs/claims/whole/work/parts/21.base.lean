/-! NUMBERS -/
theorem wr_id {x : Int} (h1 : -2147483648 ≤ x) (h2 : x ≤ 2147483647) : wr x = x := Int32.toInt_ofInt_of_le (by omega) (by omega)
theorem wr_b (x : Int) : -2147483648 ≤ wr x ∧ wr x ≤ 2147483647 := by
  have h1 := Int32.le_toInt (Int32.ofInt x)
  have h2 := Int32.toInt_lt (Int32.ofInt x)
  unfold wr
  omega
theorem wr_wr (x : Int) : wr (wr x) = wr x := wr_id (wr_b x).1 (wr_b x).2
theorem wrn {n : Nat} (h : n < 2147483648) : wr (n : Int) = (n : Int) := wr_id (by omega) (by omega)
theorem o_nat (n : Nat) : Int32.ofInt (n : Int) = Int32.ofNat n := rfl
theorem tn_nat {n : Nat} (h : n < 4294967296) : (Int32.ofNat n).toBitVec.toNat = n := by
  show (BitVec.ofNat 32 n).toNat = n
  rw [BitVec.toNat_ofNat]
  exact Nat.mod_eq_of_lt h
theorem bv_int {z : Int32} {n : Nat} (h : z.toBitVec.toNat = n) (hn : n < 2147483648) : z.toInt = (n : Int) := by
  show z.toBitVec.toInt = _
  rw [BitVec.toInt_eq_toNat_of_lt (by omega), h]
theorem i_xor_n {a b : Nat} (ha : a < 2147483648) (hb : b < 2147483648) : i_xor a b = ((a ^^^ b : Nat) : Int) := by
  unfold i_xor
  rw [o_nat, o_nat]
  refine bv_int ?_ (Nat.xor_lt_two_pow (n := 31) ha hb)
  show ((Int32.ofNat a).toBitVec ^^^ (Int32.ofNat b).toBitVec).toNat = _
  rw [BitVec.toNat_xor, tn_nat (by omega), tn_nat (by omega)]
theorem i_and_n {a b : Nat} (ha : a < 2147483648) (hb : b < 2147483648) : i_and a b = ((a &&& b : Nat) : Int) := by
  unfold i_and
  rw [o_nat, o_nat]
  refine bv_int ?_ (Nat.and_lt_two_pow (n := 31) a hb)
  show ((Int32.ofNat a).toBitVec &&& (Int32.ofNat b).toBitVec).toNat = _
  rw [BitVec.toNat_and, tn_nat (by omega), tn_nat (by omega)]
theorem i_or_n {a b : Nat} (ha : a < 2147483648) (hb : b < 2147483648) : i_or a b = ((a ||| b : Nat) : Int) := by
  unfold i_or
  rw [o_nat, o_nat]
  refine bv_int ?_ (Nat.or_lt_two_pow (n := 31) ha hb)
  show ((Int32.ofNat a).toBitVec ||| (Int32.ofNat b).toBitVec).toNat = _
  rw [BitVec.toNat_or, tn_nat (by omega), tn_nat (by omega)]
theorem sh_l : ∀ k : Nat, k < 32 → ((Int32.ofNat k &&& 31).toBitVec.smod 32).toNat = k := by decide
theorem sh_u : ∀ k : Nat, k < 32 → (((Int32.ofNat k).toUInt32 &&& Int32.toUInt32 31).toBitVec % 32).toNat = k := by decide
theorem i_shl_n {a k : Nat} (hk : k < 32) (h : a * 2 ^ k < 2147483648) : i_shl a k = ((a * 2 ^ k : Nat) : Int) := by
  unfold i_shl
  rw [o_nat, o_nat]
  refine bv_int ?_ h
  have ha : a < 4294967296 := by
    have : 1 ≤ 2 ^ k := Nat.one_le_two_pow
    have := Nat.le_mul_of_pos_right a (show 0 < 2 ^ k by omega)
    omega
  have e := pk_shl (Int32.ofNat a) (Int32.ofNat k &&& 31) k (sh_l k hk)
  rw [e, tn_nat ha]
  exact Nat.mod_eq_of_lt (by omega)
theorem i_shr_n {a k : Nat} (hk : k < 32) (ha : a < 2147483648) : i_shr a k = ((a / 2 ^ k : Nat) : Int) := by
  unfold i_shr
  rw [o_nat, o_nat]
  have e := pk_shr (Int32.ofNat a) (Int32.ofNat k &&& 31) k (sh_l k hk)
  rw [e]
  have e2 : (Int32.ofNat a).toInt = (a : Int) := bv_int (tn_nat (by omega)) ha
  rw [e2]
  show ((a : Int) >>> k) = _
  rw [Int.shiftRight_eq_div_pow]
  norm_cast
theorem i_div_n {a b : Nat} (ha : a < 2147483648) (hb : 0 < b) (hb2 : b < 2147483648) : i_div a b = ((a / b : Nat) : Int) := by
  unfold i_div
  rw [o_nat, o_nat]
  have e : Int32.ofNat a / Int32.ofNat b = Int32.ofNat (a / b) := pk_div (by omega) hb (by omega)
  rw [e]
  have hd : a / b ≤ a := Nat.div_le_self a b
  exact bv_int (tn_nat (by omega)) (by omega)
theorem i_rem_n {a b : Nat} (ha : a < 2147483648) (hb : 0 < b) (hb2 : b < 2147483648) : i_rem a b = ((a % b : Nat) : Int) := by
  unfold i_rem
  rw [o_nat, o_nat]
  have e : Int32.ofNat a - Int32.ofNat a / Int32.ofNat b * Int32.ofNat b = Int32.ofNat (a % b) := pk_rem (by omega) hb (by omega)
  rw [e]
  have hd : a % b ≤ a := Nat.mod_le a b
  exact bv_int (tn_nat (by omega)) (by omega)
/-! library calls -/
theorem p_max {d : Nat} (h : 6 ≤ d) (σ : HP) (x y : Int) : clR PG0 MX d 1004 [vI x, vI y] σ = some (if wr x < wr y then y else x, σ) := by
  unfold clR
  rw [show Nat.ble 1000 1004 = true from rfl, Nat.ble_eq_true_of_le h]
  rfl
theorem p_min {d : Nat} (h : 6 ≤ d) (σ : HP) (x y : Int) : clR PG0 MX d 1005 [vI x, vI y] σ = some (if wr y < wr x then y else x, σ) := by
  unfold clR
  rw [show Nat.ble 1000 1005 = true from rfl, Nat.ble_eq_true_of_le h]
  rfl
theorem p_abs {d : Nat} (h : 6 ≤ d) (σ : HP) (x : Int) : clR PG0 MX d 1006 [vI x] σ = some (if 0 ≤ wr x then x else 0 - x, σ) := by
  unfold clR
  rw [show Nat.ble 1000 1006 = true from rfl, Nat.ble_eq_true_of_le h]
  rfl
theorem p_minl {d : Nat} (h : 6 ≤ d) (σ : HP) (x y : Int) : clR PG0 MX d 1007 [vL x, vL y] σ = some (if wl y < wl x then y else x, σ) := by
  unfold clR
  rw [show Nat.ble 1000 1007 = true from rfl, Nat.ble_eq_true_of_le h]
  rfl
theorem p_obj {d : Nat} (h : 6 ≤ d) (σ : HP) (x : Int) : clR PG0 MX d 1003 [vR x] σ = some (0, σ) := by
  unfold clR
  rw [show Nat.ble 1000 1003 = true from rfl, Nat.ble_eq_true_of_le h]
  rfl
theorem p_len {d : Nat} (h : 6 ≤ d) (σ : HP) {a : Int} (h1 : 0 < a ∧ a < 32 ∧ σ a (-1) = 30) : clR PG0 MX d 1000 [vR a] σ = some (σ a (-2), σ) := by
  unfold clR
  rw [show Nat.ble 1000 1000 = true from rfl, Nat.ble_eq_true_of_le h]
  show (bif decide (0 < a ∧ a < 32 ∧ σ a (-1) = 30) then some (σ a (-2), σ) else none) = _
  rw [decide_eq_true h1]
  rfl
theorem p_chr {d : Nat} (h : 6 ≤ d) (σ : HP) {a i : Int} (h1 : 0 < a ∧ a < 32 ∧ σ a (-1) = 30 ∧ 0 ≤ wr i ∧ wr i < σ a (-2)) : clR PG0 MX d 1001 [vR a, vI i] σ = some (σ a (wr i), σ) := by
  unfold clR
  rw [show Nat.ble 1000 1001 = true from rfl, Nat.ble_eq_true_of_le h]
  show (bif decide (0 < a ∧ a < 32 ∧ σ a (-1) = 30 ∧ 0 ≤ wr i ∧ wr i < σ a (-2)) then some (σ a (wr i), σ) else none) = _
  rw [decide_eq_true h1]
  rfl
def cpH (σ : HP) (a i b j n : Int) : HP := fun c k => if c = b ∧ j ≤ k ∧ k < j + n then σ a (i + (k - j)) else σ c k
theorem p_copy {d : Nat} (h : 6 ≤ d) (σ : HP) {a i b j n : Int} (h1 : 32 ≤ a ∧ a < σ (-1) 0 ∧ 32 ≤ b ∧ b < σ (-1) 0 ∧ σ a (-1) = 20 ∧ σ b (-1) = 20 ∧ a ≠ b ∧ 0 ≤ wr i ∧ 0 ≤ wr j ∧ 0 ≤ wr n ∧ wr i + wr n ≤ σ a (-2) ∧ wr j + wr n ≤ σ b (-2)) : clR PG0 MX d 1002 [vR a, vI i, vR b, vI j, vI n] σ = some (0, cpH σ a (wr i) b (wr j) (wr n)) := by
  unfold clR
  rw [show Nat.ble 1000 1002 = true from rfl, Nat.ble_eq_true_of_le h]
  show (bif decide (32 ≤ a ∧ a < σ (-1) 0 ∧ 32 ≤ b ∧ b < σ (-1) 0 ∧ σ a (-1) = 20 ∧ σ b (-1) = 20 ∧ a ≠ b ∧ 0 ≤ wr i ∧ 0 ≤ wr j ∧ 0 ≤ wr n ∧ wr i + wr n ≤ σ a (-2) ∧ wr j + wr n ≤ σ b (-2)) then some (0, fun c k => if c = b ∧ wr j ≤ k ∧ k < wr j + wr n then σ a (wr i + (k - wr j)) else σ c k) else none) = _
  rw [decide_eq_true h1]
  rfl
/-! loops: G i s stands at a loop's head with the counter i -/
theorem loopN {St : Type} (G : Nat → St → RS) (P : Nat → St → Prop) (f : Nat → St → St) (n : Nat) (hs : ∀ i s, i < n → P i s → G i s = G (i + 1) (f i s) ∧ P (i + 1) (f i s)) : ∀ (m i : Nat) (s : St), i + m = n → P i s → ∃ t, G i s = G n t ∧ P n t := by
  intro m
  induction m with
  | zero => intro i s h hp; have : i = n := by omega
            subst this; exact ⟨s, rfl, hp⟩
  | succ m ih =>
    intro i s h hp
    obtain ⟨h1, h2⟩ := hs i s (by omega) hp
    obtain ⟨t, h3, h4⟩ := ih (i + 1) (f i s) (by omega) h2
    exact ⟨t, h1.trans h3, h4⟩
/-- a loop with an invariant that may end early in X -/
theorem loopE {St : Type} (G : Nat → St → RS) (P : Nat → St → Prop) (X : RS) (n : Nat) (hs : ∀ i s, i < n → P i s → G i s = X ∨ ∃ s', G i s = G (i + 1) s' ∧ P (i + 1) s') (he : ∀ s, P n s → G n s = X) : ∀ (m i : Nat) (s : St), i + m = n → P i s → G i s = X := by
  intro m
  induction m with
  | zero => intro i s h hp; have : i = n := by omega
            subst this; exact he s hp
  | succ m ih =>
    intro i s h hp
    rcases hs i s (by omega) hp with h1 | ⟨s', h1, h2⟩
    · exact h1
    · exact h1.trans (ih (i + 1) s' (by omega) h2)
