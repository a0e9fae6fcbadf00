/-! A SMALL MACHINE over whole numbers: its values, its heap (a function), one instruction, its runs -/
abbrev MV : Type := Int ⊕ (Int ⊕ (Int ⊕ Unit))
abbrev HP : Type := Int → Int → Int
abbrev vI (x : Int) : MV := Sum.inl x
abbrev vR (x : Int) : MV := Sum.inr (Sum.inl x)
abbrev vL (x : Int) : MV := Sum.inr (Sum.inr (Sum.inl x))
abbrev vU : MV := Sum.inr (Sum.inr (Sum.inr ()))
def up (σ : HP) (a i v : Int) : HP := fun b j => if b = a ∧ j = i then v else σ b j
def wr (x : Int) : Int := (Int32.ofInt x).toInt
def wl (x : Int) : Int := (Int64.ofInt x).toInt
def i_div (x y : Int) : Int := (Int32.ofInt x / Int32.ofInt y).toInt
def i_rem (x y : Int) : Int := (Int32.ofInt x - Int32.ofInt x / Int32.ofInt y * Int32.ofInt y).toInt
def i_and (x y : Int) : Int := (Int32.ofInt x &&& Int32.ofInt y).toInt
def i_or (x y : Int) : Int := (Int32.ofInt x ||| Int32.ofInt y).toInt
def i_xor (x y : Int) : Int := (Int32.ofInt x ^^^ Int32.ofInt y).toInt
def i_shl (x y : Int) : Int := (Int32.ofInt x <<< (Int32.ofInt y &&& 31)).toInt
def i_shr (x y : Int) : Int := (Int32.ofInt x >>> (Int32.ofInt y &&& 31)).toInt
def i_ushr (x y : Int) : Int := (((Int32.ofInt x).toUInt32 >>> ((Int32.ofInt y).toUInt32 &&& Int32.toUInt32 31)).toInt32).toInt
def i_byte (x : Int) : Int := ((Int32.ofInt x).toInt8.toInt32).toInt
def l_and (x y : Int) : Int := (Int64.ofInt x &&& Int64.ofInt y).toInt
def l_or (x y : Int) : Int := (Int64.ofInt x ||| Int64.ofInt y).toInt
def l_shl (x y : Int) : Int := (Int64.ofInt x <<< ((Int32.ofInt y).toInt64 &&& 63)).toInt
def l_shr (x y : Int) : Int := (Int64.ofInt x >>> ((Int32.ofInt y).toInt64 &&& 63)).toInt
def l_ushr (x y : Int) : Int := (((Int64.ofInt x).toUInt64 >>> ((Int32.ofInt y).toInt64.toUInt64 &&& Int64.toUInt64 63)).toInt64).toInt
def l_cmp (x y : Int) : Int := (lg_cmp (Int64.ofInt x) (Int64.ofInt y)).toInt
/-- go on (guard, branches, else, locals, stack, heap); call (guard, callee, args, rest, kind of answer); answer (guard, it) -/
abbrev ACT : Type := (Bool × List (Bool × Nat) × Nat × List MV × List MV × HP) ⊕ ((Bool × Nat × List MV × List MV × Nat) ⊕ (Bool × Int))
def tkA : Nat → List MV → List MV → Option (List MV × List MV)
  | 0, st, acc => some (acc, st)
  | _ + 1, [], _ => none
  | n + 1, v :: st, acc => tkA n st (v :: acc)
/-- how many words a stack has -/
def wds : List MV → Nat
  | [] => 0
  | .inr (.inr (.inl _)) :: l => 2 + wds l
  | _ :: l => 1 + wds l
/-- a place that holds the first half of a long loses it when its second half is written -/
def clob (ls : List MV) (k : Nat) : List MV := match k with
  | 0 => ls
  | j + 1 => match ls[j]? with
    | some (.inr (.inr (.inl _))) => ls.set j vU
    | _ => ls
def sto1 (ls : List MV) (k : Nat) (v : MV) : Option (List MV) := match ls[k]? with
  | some _ => some ((clob ls k).set k v)
  | none => none
def sto2 (ls : List MV) (k : Nat) (v : MV) : Option (List MV) := match ls[k + 1]? with
  | some _ => some (((clob ls k).set (k + 1) vU).set k v)
  | none => none
def cmpB (c : Jvm.ClassFile.Cond) (x y : Int) : Bool := match c with
  | .eq => decide (x = y)
  | .ne => decide (x ≠ y)
  | .lt => decide (x < y)
  | .ge => decide (y ≤ x)
  | .gt => decide (y < x)
  | .le => decide (x ≤ y)
def fixB (kind : Nat) (x : Int) : Bool := match kind with
  | 1 => decide (x = 0 ∨ x = 1)
  | _ => true
def tagV (kind : Nat) (x : Int) : MV := match kind with
  | 2 => vR x
  | 3 => vL x
  | _ => vI x
def swB (x : Int) : List (Int × Nat) → List (Bool × Nat)
  | [] => []
  | (v, t) :: l => (decide (x = v), t) :: swB x l
def pshR (kind : Nat) (x : Int) (st : List MV) : List MV := match kind with
  | 0 => st
  | 2 => vR x :: st
  | 3 => vL x :: st
  | _ => vI x :: st
def newO (σ : HP) (ci n : Int) : HP := fun b j => if b = σ (-1) 0 then (if j = -1 then ci else 0) else if b = -1 then (if j = 0 then σ (-1) 0 + 1 else if j = 1 then σ (-1) 1 + n else σ b j) else σ b j
def newA (σ : HP) (kd n : Int) : HP := fun b j => if b = σ (-1) 0 then (if j = -1 then kd else if j = -2 then n else 0) else if b = -1 then (if j = 0 then σ (-1) 0 + 1 else if j = 1 then σ (-1) 1 + n else σ b j) else σ b j
def gA (g : Bool) (pc : Nat) (ls st : List MV) (σ : HP) : Option ACT := some (.inl (g, [], pc, ls, st, σ))
def gB (b : Bool) (t f : Nat) (ls st : List MV) (σ : HP) : Option ACT := some (.inl (true, [(b, t)], f, ls, st, σ))
def act0 (pc : Nat) (e : EN) (ls st : List MV) (σ : HP) : Option ACT :=
  match e with
  | (i, len, r1, r2, r3, r4, sw) => match i with
    | .iconst v => gA true (pc + len) ls (vI v :: st) σ
    | .bipush v => gA true (pc + len) ls (vI v :: st) σ
    | .sipush v => gA true (pc + len) ls (vI v :: st) σ
    | .lconst v => gA true (pc + len) ls (vL ((v.val : Nat) : Int) :: st) σ
    | .aconst_null => gA true (pc + len) ls (vR 0 :: st) σ
    | .ldc _ => gA true (pc + len) ls ((bif Nat.beq r2 2 then vR (r1 : Int) else vI (r1 : Int)) :: st) σ
    | .ldc_w _ => gA true (pc + len) ls ((bif Nat.beq r2 2 then vR (r1 : Int) else vI (r1 : Int)) :: st) σ
    | .ldc2_w _ => gA true (pc + len) ls (vL (bif Nat.beq r2 1 then -(r1 : Int) else (r1 : Int)) :: st) σ
    | .iload_n k => match ls[k.val]? with
      | some (.inl x) => gA true (pc + len) ls (vI x :: st) σ
      | _ => none
    | .iload k => match ls[k]? with
      | some (.inl x) => gA true (pc + len) ls (vI x :: st) σ
      | _ => none
    | .aload_n k => match ls[k.val]? with
      | some (.inr (.inl x)) => gA true (pc + len) ls (vR x :: st) σ
      | _ => none
    | .aload k => match ls[k]? with
      | some (.inr (.inl x)) => gA true (pc + len) ls (vR x :: st) σ
      | _ => none
    | .lload_n k => match ls[k.val]? with
      | some (.inr (.inr (.inl x))) => gA true (pc + len) ls (vL x :: st) σ
      | _ => none
    | .lload k => match ls[k]? with
      | some (.inr (.inr (.inl x))) => gA true (pc + len) ls (vL x :: st) σ
      | _ => none
    | .istore_n k => match st with
      | .inl x :: t => match sto1 ls k.val (vI x) with
        | some l => gA true (pc + len) l t σ
        | none => none
      | _ => none
    | .istore k => match st with
      | .inl x :: t => match sto1 ls k (vI x) with
        | some l => gA true (pc + len) l t σ
        | none => none
      | _ => none
    | .astore_n k => match st with
      | .inr (.inl x) :: t => match sto1 ls k.val (vR x) with
        | some l => gA true (pc + len) l t σ
        | none => none
      | _ => none
    | .astore k => match st with
      | .inr (.inl x) :: t => match sto1 ls k (vR x) with
        | some l => gA true (pc + len) l t σ
        | none => none
      | _ => none
    | .lstore_n k => match st with
      | .inr (.inr (.inl x)) :: t => match sto2 ls k.val (vL x) with
        | some l => gA true (pc + len) l t σ
        | none => none
      | _ => none
    | .lstore k => match st with
      | .inr (.inr (.inl x)) :: t => match sto2 ls k (vL x) with
        | some l => gA true (pc + len) l t σ
        | none => none
      | _ => none
    | .iinc k n => match ls[k]? with
      | some (.inl x) => match sto1 ls k (vI (x + n)) with
        | some l => gA true (pc + len) l st σ
        | none => none
      | _ => none
    | .iadd => match st with
      | .inl y :: .inl x :: t => gA true (pc + len) ls (vI (x + y) :: t) σ
      | _ => none
    | .isub => match st with
      | .inl y :: .inl x :: t => gA true (pc + len) ls (vI (x - y) :: t) σ
      | _ => none
    | .imul => match st with
      | .inl y :: .inl x :: t => gA true (pc + len) ls (vI (x * y) :: t) σ
      | _ => none
    | .ineg => match st with
      | .inl x :: t => gA true (pc + len) ls (vI (-x) :: t) σ
      | _ => none
    | .idiv => match st with
      | .inl y :: .inl x :: t => gA (decide (wr y ≠ 0)) (pc + len) ls (vI (i_div x y) :: t) σ
      | _ => none
    | .irem => match st with
      | .inl y :: .inl x :: t => gA (decide (wr y ≠ 0)) (pc + len) ls (vI (i_rem x y) :: t) σ
      | _ => none
    | .iand => match st with
      | .inl y :: .inl x :: t => gA true (pc + len) ls (vI (i_and x y) :: t) σ
      | _ => none
    | .ior => match st with
      | .inl y :: .inl x :: t => gA true (pc + len) ls (vI (i_or x y) :: t) σ
      | _ => none
    | .ixor => match st with
      | .inl y :: .inl x :: t => gA true (pc + len) ls (vI (i_xor x y) :: t) σ
      | _ => none
    | .ishl => match st with
      | .inl y :: .inl x :: t => gA true (pc + len) ls (vI (i_shl x y) :: t) σ
      | _ => none
    | .ishr => match st with
      | .inl y :: .inl x :: t => gA true (pc + len) ls (vI (i_shr x y) :: t) σ
      | _ => none
    | .iushr => match st with
      | .inl y :: .inl x :: t => gA true (pc + len) ls (vI (i_ushr x y) :: t) σ
      | _ => none
    | .i2l => match st with
      | .inl x :: t => gA true (pc + len) ls (vL (wr x) :: t) σ
      | _ => none
    | .i2b => match st with
      | .inl x :: t => gA true (pc + len) ls (vI (i_byte x) :: t) σ
      | _ => none
    | .l2i => match st with
      | .inr (.inr (.inl x)) :: t => gA true (pc + len) ls (vI x :: t) σ
      | _ => none
    | .ladd => match st with
      | .inr (.inr (.inl y)) :: .inr (.inr (.inl x)) :: t => gA true (pc + len) ls (vL (x + y) :: t) σ
      | _ => none
    | .lsub => match st with
      | .inr (.inr (.inl y)) :: .inr (.inr (.inl x)) :: t => gA true (pc + len) ls (vL (x - y) :: t) σ
      | _ => none
    | .land => match st with
      | .inr (.inr (.inl y)) :: .inr (.inr (.inl x)) :: t => gA true (pc + len) ls (vL (l_and x y) :: t) σ
      | _ => none
    | .lor => match st with
      | .inr (.inr (.inl y)) :: .inr (.inr (.inl x)) :: t => gA true (pc + len) ls (vL (l_or x y) :: t) σ
      | _ => none
    | .lshl => match st with
      | .inl y :: .inr (.inr (.inl x)) :: t => gA true (pc + len) ls (vL (l_shl x y) :: t) σ
      | _ => none
    | .lshr => match st with
      | .inl y :: .inr (.inr (.inl x)) :: t => gA true (pc + len) ls (vL (l_shr x y) :: t) σ
      | _ => none
    | .lushr => match st with
      | .inl y :: .inr (.inr (.inl x)) :: t => gA true (pc + len) ls (vL (l_ushr x y) :: t) σ
      | _ => none
    | .lcmp => match st with
      | .inr (.inr (.inl y)) :: .inr (.inr (.inl x)) :: t => gA true (pc + len) ls (vI (l_cmp x y) :: t) σ
      | _ => none
    | .dup => match st with
      | .inl x :: t => gA true (pc + len) ls (vI x :: vI x :: t) σ
      | .inr (.inl x) :: t => gA true (pc + len) ls (vR x :: vR x :: t) σ
      | _ => none
    | .dup2 => match st with
      | .inl x :: .inr (.inl y) :: t => gA true (pc + len) ls (vI x :: vR y :: vI x :: vR y :: t) σ
      | _ => none
    | .pop => match st with
      | .inl _ :: t => gA true (pc + len) ls t σ
      | .inr (.inl _) :: t => gA true (pc + len) ls t σ
      | _ => none
    | .goto _ => gA true r1 ls st σ
    | .if_icmp c _ => match st with
      | .inl y :: .inl x :: t => gB (cmpB c (wr x) (wr y)) r1 (pc + len) ls t σ
      | _ => none
    | .ifCond c _ => match st with
      | .inl x :: t => gB (cmpB c (wr x) 0) r1 (pc + len) ls t σ
      | _ => none
    | .ifnull _ => match st with
      | .inr (.inl x) :: t => gB (decide (x ≤ 0)) r1 (pc + len) ls t σ
      | _ => none
    | .ifnonnull _ => match st with
      | .inr (.inl x) :: t => gB (decide (0 < x)) r1 (pc + len) ls t σ
      | _ => none
    | .tableswitch _ _ _ _ => match st with
      | .inl x :: t => some (.inl (true, swB (wr x) sw, r1, ls, t, σ))
      | _ => none
    | .lookupswitch _ _ => match st with
      | .inl x :: t => some (.inl (true, swB (wr x) sw, r1, ls, t, σ))
      | _ => none
    | .getfield _ => match st with
      | .inr (.inl a) :: t => gA (decide (32 ≤ a ∧ a < σ (-1) 0 ∧ σ a (-1) = r1)) (pc + len) ls (tagV r3 (σ a r2) :: t) σ
      | _ => none
    | .putfield _ => match st with
      | .inl x :: .inr (.inl a) :: t => gA (Nat.blt r3 2 && fixB r3 x && decide (32 ≤ a ∧ a < σ (-1) 0 ∧ σ a (-1) = r1)) (pc + len) ls t (up σ a r2 x)
      | .inr (.inl x) :: .inr (.inl a) :: t => gA (Nat.beq r3 2 && decide (32 ≤ a ∧ a < σ (-1) 0 ∧ σ a (-1) = r1)) (pc + len) ls t (up σ a r2 x)
      | .inr (.inr (.inl x)) :: .inr (.inl a) :: t => gA (Nat.beq r3 3 && decide (32 ≤ a ∧ a < σ (-1) 0 ∧ σ a (-1) = r1)) (pc + len) ls t (up σ a r2 x)
      | _ => none
    | .arraylength => match st with
      | .inr (.inl a) :: t => gA (decide (0 < a ∧ a < σ (-1) 0 ∧ σ a (-1) = r1 ∧ 0 ≤ σ a (-2))) (pc + len) ls (vI (σ a (-2)) :: t) σ
      | _ => none
    | .iaload => match st with
      | .inl i :: .inr (.inl a) :: t => gA (decide (0 < a ∧ a < σ (-1) 0 ∧ σ a (-1) = r1 ∧ 0 ≤ wr i ∧ wr i < σ a (-2))) (pc + len) ls (vI (σ a (wr i)) :: t) σ
      | _ => none
    | .baload => match st with
      | .inl i :: .inr (.inl a) :: t => gA (decide (32 ≤ a ∧ a < σ (-1) 0 ∧ σ a (-1) = r1 ∧ 0 ≤ wr i ∧ wr i < σ a (-2))) (pc + len) ls (vI (σ a (wr i)) :: t) σ
      | _ => none
    | .aaload => match st with
      | .inl i :: .inr (.inl a) :: t => gA (decide (32 ≤ a ∧ a < σ (-1) 0 ∧ σ a (-1) = r1 ∧ 0 ≤ wr i ∧ wr i < σ a (-2))) (pc + len) ls (vR (σ a (wr i)) :: t) σ
      | _ => none
    | .iastore => match st with
      | .inl x :: .inl i :: .inr (.inl a) :: t => gA (decide (32 ≤ a ∧ a < σ (-1) 0 ∧ σ a (-1) = r1 ∧ 0 ≤ wr i ∧ wr i < σ a (-2))) (pc + len) ls t (up σ a (wr i) x)
      | _ => none
    | .bastore => match st with
      | .inl x :: .inl i :: .inr (.inl a) :: t => gA ((Nat.beq r1 21 || fixB 1 x) && decide (32 ≤ a ∧ a < σ (-1) 0 ∧ σ a (-1) = r1 ∧ 0 ≤ wr i ∧ wr i < σ a (-2))) (pc + len) ls t (up σ a (wr i) (bif Nat.beq r1 21 then i_byte x else x))
      | _ => none
    | .aastore => match st with
      | .inr (.inl x) :: .inl i :: .inr (.inl a) :: t => gA (decide (32 ≤ a ∧ a < σ (-1) 0 ∧ σ a (-1) = r1 ∧ 0 ≤ wr i ∧ wr i < σ a (-2) ∧ 32 ≤ x ∧ x < σ (-1) 0 ∧ σ x (-1) = r2)) (pc + len) ls t (up σ a (wr i) x)
      | _ => none
    | .new _ => gA true (pc + len) ls (vR (σ (-1) 0) :: st) (newO σ r1 r2)
    | .newarray _ => match st with
      | .inl n :: t => gA (decide (0 ≤ wr n ∧ wr n ≤ 100000)) (pc + len) ls (vR (σ (-1) 0) :: t) (newA σ r1 (wr n))
      | _ => none
    | .anewarray _ => match st with
      | .inl n :: t => gA (decide (0 ≤ wr n ∧ wr n ≤ 100000)) (pc + len) ls (vR (σ (-1) 0) :: t) (newA σ r1 (wr n))
      | _ => none
    | .invokestatic _ => match tkA r2 st [] with
      | some (as, t) => some (.inr (.inl (Nat.ble (wds t) 8, r1, as, t, r3)))
      | none => none
    | .invokespecial _ => match tkA r2 st [] with
      | some (.inr (.inl a) :: as, t) => some (.inr (.inl (Nat.ble (wds t) 8 && decide (0 < a), r1, vR a :: as, t, r3)))
      | _ => none
    | .invokevirtual _ => match tkA r2 st [] with
      | some (.inr (.inl a) :: as, t) => some (.inr (.inl (Nat.ble (wds t) 8 && decide (0 < a ∧ a < σ (-1) 0 ∧ σ a (-1) = r4), r1, vR a :: as, t, r3)))
      | _ => none
    | .ireturn => match st with
      | [.inl x] => some (.inr (.inr (fixB r1 x, x)))
      | _ => none
    | .areturn => match st with
      | [.inr (.inl x)] => some (.inr (.inr (true, x)))
      | _ => none
    | .lreturn => match st with
      | [.inr (.inr (.inl x))] => some (.inr (.inr (true, x)))
      | _ => none
    | .return_ => match st with
      | [] => some (.inr (.inr (true, 0)))
      | _ => none
    | _ => none
/-- where ways come together, what is not read any more is forgotten -/
def kilL : List (Int × Nat) → List MV → List MV
  | [], ls => ls
  | (_, k) :: l, ls => kilL l (ls.set k vU)
def klS (e : EN) (ls : List MV) : List MV := match e with
  | (i, _, _, _, _, _, sw) => match i with
    | .getfield _ => ls
    | .putfield _ => ls
    | .invokestatic _ => ls
    | .invokevirtual _ => ls
    | .invokespecial _ => ls
    | .ldc _ => ls
    | .ldc_w _ => ls
    | .ldc2_w _ => ls
    | .new _ => ls
    | .anewarray _ => ls
    | .tableswitch _ _ _ _ => ls
    | .lookupswitch _ _ => ls
    | _ => kilL sw ls
def act (pc : Nat) (e : EN) (ls st : List MV) (σ : HP) : Option ACT := act0 pc e (klS e ls) st σ
abbrev RS : Type := Option (Int × HP)
abbrev KN : Type := Nat → List MV → List MV → HP → RS
abbrev CL : Type := Nat → List MV → HP → RS
def bnd (x : RS) (f : Int × HP → RS) : RS := match x with
  | none => none
  | some q => f q
def cnd (p : Prop) [Decidable p] (a b : RS) : RS := bif decide p then a else b
theorem cnd_t {p : Prop} [Decidable p] (h : p) (a b : RS) : cnd p a b = a := by unfold cnd; rw [decide_eq_true h]; rfl
theorem cnd_f {p : Prop} [Decidable p] (h : ¬ p) (a b : RS) : cnd p a b = b := by unfold cnd; rw [decide_eq_false h]; rfl
theorem cnd_if (p : Prop) [Decidable p] (a b : RS) : cnd p a b = if p then a else b := by
  by_cases h : p
  · rw [cnd_t h, if_pos h]
  · rw [cnd_f h, if_neg h]
theorem bnd_some (q : Int × HP) (f : Int × HP → RS) : bnd (some q) f = f q := rfl
theorem bnd_none (f : Int × HP → RS) : bnd none f = none := rfl
def brs (K : KN) (ls st : List MV) (σ : HP) (f : Nat) : List (Bool × Nat) → RS
  | [] => K f ls st σ
  | (b, t) :: l => bif b then K t ls st σ else brs K ls st σ f l
def stp (cl : CL) (K : KN) (pc : Nat) (ls : List MV) (σ : HP) (a : Option ACT) : RS := match a with
  | none => none
  | some (.inl (g, br, f, ls', st', σ')) => bif g then brs K ls' st' σ' f br else none
  | some (.inr (.inl (g, k, as, t, r))) => bif g then bnd (cl k as σ) (fun q => K (pc + 3) ls (pshR r q.1 t) q.2) else none
  | some (.inr (.inr (g, x))) => bif g then some (x, σ) else none
def lkE : List (Nat × EN) → Nat → Option EN
  | [], _ => none
  | (p, e) :: l, pc => bif Nat.beq p pc then some e else lkE l pc
def lkP (cs : List (List (Nat × EN))) (pc : Nat) : Option EN := match cs[pc / 32]? with
  | some l => lkE l pc
  | none => none
/-- locals at a method's entry: a long takes two places -/
def exA : List MV → List MV
  | [] => []
  | .inr (.inr (.inl x)) :: l => vL x :: vU :: exA l
  | v :: l => v :: exA l
def padA (n : Nat) (as : List MV) : List MV := exA as ++ List.replicate (n - (exA as).length) vU
/-- what is no method of ours: lengths and signs of texts, copies of rows -/
def prm (k : Nat) (as : List MV) (σ : HP) : RS := match k, as with
  | 1000, [.inr (.inl a)] => bif decide (0 < a ∧ a < 32 ∧ σ a (-1) = 30) then some (σ a (-2), σ) else none
  | 1001, [.inr (.inl a), .inl i] => bif decide (0 < a ∧ a < 32 ∧ σ a (-1) = 30 ∧ 0 ≤ wr i ∧ wr i < σ a (-2)) then some (σ a (wr i), σ) else none
  | 1002, [.inr (.inl a), .inl i, .inr (.inl b), .inl j, .inl n] => bif decide (32 ≤ a ∧ a < σ (-1) 0 ∧ 32 ≤ b ∧ b < σ (-1) 0 ∧ σ a (-1) = 20 ∧ σ b (-1) = 20 ∧ a ≠ b ∧ 0 ≤ wr i ∧ 0 ≤ wr j ∧ 0 ≤ wr n ∧ wr i + wr n ≤ σ a (-2) ∧ wr j + wr n ≤ σ b (-2)) then some (0, fun c k => if c = b ∧ wr j ≤ k ∧ k < wr j + wr n then σ a (wr i + (k - wr j)) else σ c k) else none
  | 1003, [.inr (.inl _)] => some (0, σ)
  | 1004, [.inl x, .inl y] => some (if wr x < wr y then y else x, σ)
  | 1005, [.inl x, .inl y] => some (if wr y < wr x then y else x, σ)
  | 1006, [.inl x] => some (if 0 ≤ wr x then x else 0 - x, σ)
  | 1007, [.inr (.inr (.inl x)), .inr (.inr (.inl y))] => some (if wl y < wl x then y else x, σ)
  | _, _ => none
section RUN
variable (pg : PG) (mx : Nat → Nat)
def evP : Nat → Nat → Nat → KN
  | 0, _, _, _, _, _, _ => none
  | n + 1, d, k, pc, ls, st, σ => match lkP (pg k) pc with
    | none => none
    | some e => stp (fun k' as σ' => bif Nat.ble 1000 k' then (bif Nat.ble 6 d then prm k' as σ' else none) else match d with
        | 0 => none
        | d' + 1 => bif Nat.ble (exA as).length (mx k') then evP n d' k' 0 (padA (mx k') as) [] σ' else none) (evP n d k) pc ls σ (act pc e ls st σ)
def clP (n : Nat) (d : Nat) : CL := fun k' as σ' => bif Nat.ble 1000 k' then (bif Nat.ble 6 d then prm k' as σ' else none) else match d with
  | 0 => none
  | d' + 1 => bif Nat.ble (exA as).length (mx k') then evP pg mx n d' k' 0 (padA (mx k') as) [] σ' else none
theorem evP_succ (n d k pc : Nat) (ls st : List MV) (σ : HP) : evP pg mx (n + 1) d k pc ls st σ = match lkP (pg k) pc with
    | none => none
    | some e => stp (clP pg mx n d) (evP pg mx n d k) pc ls σ (act pc e ls st σ) := rfl
end RUN
/-- more is known of one than of the other -/
def leR (a b : RS) : Prop := ∀ x, a = some x → b = some x
theorem leR_rf (a : RS) : leR a a := fun _ h => h
theorem brs_mono {K K' : KN} (h : ∀ pc ls st σ, leR (K pc ls st σ) (K' pc ls st σ)) (ls st : List MV) (σ : HP) (f : Nat) : ∀ br, leR (brs K ls st σ f br) (brs K' ls st σ f br) := by
  intro br
  induction br with
  | nil => exact h f ls st σ
  | cons q l ih =>
    obtain ⟨b, t⟩ := q
    cases b
    · exact ih
    · exact h t ls st σ
theorem stp_mono {cl cl' : CL} {K K' : KN} (hc : ∀ k as σ, leR (cl k as σ) (cl' k as σ)) (h : ∀ pc ls st σ, leR (K pc ls st σ) (K' pc ls st σ)) (pc : Nat) (ls : List MV) (σ : HP) (a : Option ACT) : leR (stp cl K pc ls σ a) (stp cl' K' pc ls σ a) := by
  match a with
  | none => exact leR_rf _
  | some (.inl (g, br, f, ls', st', σ')) =>
    cases g
    · exact leR_rf _
    · exact brs_mono h ls' st' σ' f br
  | some (.inr (.inl (g, k, as, t, r))) =>
    cases g
    · exact leR_rf _
    · intro x hx
      have hx' : (match cl k as σ with
        | none => none
        | some q => K (pc + 3) ls (pshR r q.1 t) q.2) = some x := hx
      cases hq : cl k as σ with
      | none => rw [hq] at hx'; cases hx'
      | some q =>
        rw [hq] at hx'
        show (match cl' k as σ with
          | none => none
          | some q => K' (pc + 3) ls (pshR r q.1 t) q.2) = some x
        rw [hc k as σ q hq]
        exact h _ _ _ _ x hx'
  | some (.inr (.inr (g, x))) => exact leR_rf _
theorem evP_mono1 (pg : PG) (mx : Nat → Nat) : ∀ (n d k pc : Nat) (ls st : List MV) (σ : HP), leR (evP pg mx n d k pc ls st σ) (evP pg mx (n + 1) d k pc ls st σ) := by
  intro n
  induction n with
  | zero => intro d k pc ls st σ x hx; cases hx
  | succ n ih =>
    intro d k pc ls st σ x hx
    rw [evP_succ] at hx ⊢
    cases he : lkP (pg k) pc with
    | none => rw [he] at hx; cases hx
    | some e =>
      rw [he] at hx
      refine stp_mono (cl := clP pg mx n d) (K := evP pg mx n d k) ?_ (fun pc ls st σ => ih d k pc ls st σ) pc ls σ _ x hx
      intro k' as σ'
      unfold clP
      cases Nat.ble 1000 k'
      · match d with
        | 0 => exact leR_rf _
        | d' + 1 =>
          show leR (bif Nat.ble (exA as).length (mx k') then _ else none) (bif Nat.ble (exA as).length (mx k') then _ else none)
          cases Nat.ble (exA as).length (mx k')
          · exact leR_rf _
          · exact ih d' k' 0 _ [] σ'
      · exact leR_rf _
theorem evP_mono (pg : PG) (mx : Nat → Nat) {n m : Nat} (h : n ≤ m) (d k pc : Nat) (ls st : List MV) (σ : HP) : leR (evP pg mx n d k pc ls st σ) (evP pg mx m d k pc ls st σ) := by
  induction h with
  | refl => exact leR_rf _
  | step _ ih => exact fun x hx => evP_mono1 pg mx _ d k pc ls st σ x (ih x hx)
/-- what a run comes to, if it comes to anything -/
noncomputable def rsP (pg : PG) (mx : Nat → Nat) (d k : Nat) : KN := fun pc ls st σ =>
  match Classical.propDecidable (∃ n x, evP pg mx n d k pc ls st σ = some x) with
  | .isTrue h => some (Classical.choose (Classical.choose_spec h))
  | .isFalse _ => none
theorem rsP_iff (pg : PG) (mx : Nat → Nat) (d k pc : Nat) (ls st : List MV) (σ : HP) (x : Int × HP) : rsP pg mx d k pc ls st σ = some x ↔ ∃ n, evP pg mx n d k pc ls st σ = some x := by
  unfold rsP
  cases hd : Classical.propDecidable (∃ n x, evP pg mx n d k pc ls st σ = some x) with
  | isFalse h =>
    constructor
    · intro q
      cases q
    · intro ⟨n, q⟩
      exact absurd ⟨n, x, q⟩ h
  | isTrue h =>
    have hs := Classical.choose_spec (Classical.choose_spec h)
    constructor
    · intro q
      have q2 : Classical.choose (Classical.choose_spec h) = x := Option.some.inj q
      rw [q2] at hs
      exact ⟨_, hs⟩
    · intro ⟨n, q⟩
      rcases Nat.le_total n (Classical.choose h) with z | z
      · have q2 := evP_mono pg mx z d k pc ls st σ x q
        rw [hs] at q2
        exact q2
      · have q2 := evP_mono pg mx z d k pc ls st σ _ hs
        rw [q] at q2
        exact q2.symm
noncomputable def clR (pg : PG) (mx : Nat → Nat) (d : Nat) : CL := fun k' as σ' => bif Nat.ble 1000 k' then (bif Nat.ble 6 d then prm k' as σ' else none) else match d with
  | 0 => none
  | d' + 1 => bif Nat.ble (exA as).length (mx k') then rsP pg mx d' k' 0 (padA (mx k') as) [] σ' else none
theorem brs_at (ls st : List MV) (σ : HP) (f : Nat) : ∀ br : List (Bool × Nat), ∃ t, ∀ K : KN, brs K ls st σ f br = K t ls st σ := by
  intro br
  induction br with
  | nil => exact ⟨f, fun K => rfl⟩
  | cons q l ih =>
    obtain ⟨b, t⟩ := q
    cases b
    · exact ih
    · exact ⟨t, fun K => rfl⟩
theorem clR_up {pg : PG} {mx : Nat → Nat} {n d : Nat} (k : Nat) (as : List MV) (σ : HP) : leR (clP pg mx n d k as σ) (clR pg mx d k as σ) := by
  unfold clP clR
  cases Nat.ble 1000 k
  · match d with
    | 0 => exact leR_rf _
    | d' + 1 =>
      show leR (bif Nat.ble (exA as).length (mx k) then _ else none) (bif Nat.ble (exA as).length (mx k) then _ else none)
      cases Nat.ble (exA as).length (mx k)
      · exact leR_rf _
      · exact fun x hx => (rsP_iff _ _ _ _ _ _ _ _ _).mpr ⟨n, hx⟩
  · exact leR_rf _
theorem clR_down {pg : PG} {mx : Nat → Nat} {d k : Nat} {as : List MV} {σ : HP} {x : Int × HP} (h : clR pg mx d k as σ = some x) : ∃ n, ∀ m, n ≤ m → clP pg mx m d k as σ = some x := by
  unfold clR at h
  unfold clP
  cases hb : Nat.ble 1000 k
  · rw [hb] at h
    match d with
    | 0 => cases h
    | d' + 1 =>
      cases hb2 : Nat.ble (exA as).length (mx k)
      · have h : (bif Nat.ble (exA as).length (mx k) then rsP pg mx d' k 0 (padA (mx k) as) [] σ else none) = some x := h
        rw [hb2] at h
        cases h
      · have h : (bif Nat.ble (exA as).length (mx k) then rsP pg mx d' k 0 (padA (mx k) as) [] σ else none) = some x := h
        rw [hb2] at h
        obtain ⟨n, hn⟩ := (rsP_iff _ _ _ _ _ _ _ _ _).mp h
        refine ⟨n, fun m hm => ?_⟩
        exact evP_mono pg mx hm _ _ _ _ _ _ _ hn
  · rw [hb] at h
    exact ⟨0, fun m _ => h⟩
theorem rsP_eq (pg : PG) (mx : Nat → Nat) (d k pc : Nat) (ls st : List MV) (σ : HP) : rsP pg mx d k pc ls st σ = match lkP (pg k) pc with
    | none => none
    | some e => stp (clR pg mx d) (rsP pg mx d k) pc ls σ (act pc e ls st σ) := by
  apply Option.ext
  intro x
  rw [rsP_iff]
  constructor
  · intro ⟨n, h⟩
    match n, h with
    | n + 1, h =>
      rw [evP_succ] at h
      cases he : lkP (pg k) pc with
      | none => rw [he] at h; cases h
      | some e =>
        rw [he] at h
        exact stp_mono (fun k as σ => clR_up k as σ) (fun pc ls st σ y hy => (rsP_iff _ _ _ _ _ _ _ _ _).mpr ⟨n, hy⟩) pc ls σ _ x h
  · intro h
    cases he : lkP (pg k) pc with
    | none => rw [he] at h; cases h
    | some e =>
      rw [he] at h
      have h : stp (clR pg mx d) (rsP pg mx d k) pc ls σ (act pc e ls st σ) = some x := h
      have key : ∃ n, stp (clP pg mx n d) (evP pg mx n d k) pc ls σ (act pc e ls st σ) = some x := by
        match ha : act pc e ls st σ with
        | none => rw [ha] at h; cases h
        | some (.inl (g, br, f, ls', st', σ')) =>
          rw [ha] at h
          cases g
          · cases h
          · obtain ⟨t, ht⟩ := brs_at ls' st' σ' f br
            have h1 : brs (rsP pg mx d k) ls' st' σ' f br = some x := h
            rw [ht] at h1
            obtain ⟨n, hn⟩ := (rsP_iff _ _ _ _ _ _ _ _ _).mp h1
            exact ⟨n, (ht (evP pg mx n d k)).trans hn⟩
        | some (.inr (.inl (g, k', as, t, r))) =>
          rw [ha] at h
          cases g
          · cases h
          · have h1 : (match clR pg mx d k' as σ with
              | none => none
              | some q => rsP pg mx d k (pc + 3) ls (pshR r q.1 t) q.2) = some x := h
            cases hq : clR pg mx d k' as σ with
            | none => rw [hq] at h1; cases h1
            | some q =>
              rw [hq] at h1
              obtain ⟨n1, hn1⟩ := clR_down hq
              obtain ⟨n2, hn2⟩ := (rsP_iff _ _ _ _ _ _ _ _ _).mp h1
              refine ⟨max n1 n2, ?_⟩
              show (match clP pg mx (max n1 n2) d k' as σ with
                | none => none
                | some q => evP pg mx (max n1 n2) d k (pc + 3) ls (pshR r q.1 t) q.2) = some x
              rw [hn1 _ (Nat.le_max_left n1 n2)]
              exact evP_mono pg mx (Nat.le_max_right n1 n2) _ _ _ _ _ _ _ hn2
        | some (.inr (.inr (g, y))) =>
          rw [ha] at h
          exact ⟨0, h⟩
      obtain ⟨n, hn⟩ := key
      exact ⟨n + 1, by rw [evP_succ, he]; exact hn⟩
/-- a list in its plain form, then what follows -/
def nrm : List MV → (List MV → RS) → RS
  | [], k => k []
  | a :: l, k => nrm l (fun l' => k (a :: l'))
theorem nrm_eq : ∀ (l : List MV) (k : List MV → RS), nrm l k = k l := by
  intro l
  induction l with
  | nil => intro k; rfl
  | cons a l ih => intro k; exact ih _
def lkE2 : List (Nat × EN) → Nat → Option (Nat × EN)
  | [], _ => none
  | (p, e) :: l, pc => bif Nat.beq p pc then some (p, e) else lkE2 l pc
def lkP2 (cs : List (List (Nat × EN))) (pc : Nat) : Option (Nat × EN) := match cs[pc / 32]? with
  | some l => lkE2 l pc
  | none => none
theorem lkE2_eq : ∀ (l : List (Nat × EN)) (pc : Nat), lkE2 l pc = (lkE l pc).map (fun e => (pc, e)) := by
  intro l
  induction l with
  | nil => intro pc; rfl
  | cons q l ih =>
    intro pc
    obtain ⟨p, e⟩ := q
    show (bif Nat.beq p pc then some (p, e) else lkE2 l pc) = (bif Nat.beq p pc then some e else lkE l pc).map (fun e => (pc, e))
    cases hb : Nat.beq p pc with
    | true => rw [Nat.eq_of_beq_eq_true hb]; rfl
    | false => exact ih pc
theorem lkP2_eq (cs : List (List (Nat × EN))) (pc : Nat) : lkP2 cs pc = (lkP cs pc).map (fun e => (pc, e)) := by
  unfold lkP2 lkP
  cases cs[pc / 32]? with
  | none => rfl
  | some l => exact lkE2_eq l pc
/-- n instructions at once; it stops at the pcs of a list -/
def blk (cl : CL) (K : KN) (cs : List (List (Nat × EN))) (stops : List Nat) : Nat → KN
  | 0, pc, ls, st, σ => K pc ls st σ
  | n + 1, pc, ls, st, σ => match lkP2 cs pc with
    | none => none
    | some (p, e) => stp cl (fun pc' ls' st' σ' => nrm ls' (fun l => nrm st' (fun s => bif stops.elem pc' then K pc' l s σ' else blk cl K cs stops n pc' l s σ'))) p ls σ (act p e ls st σ)
theorem stp_same {cl : CL} {K K' : KN} (h : ∀ pc ls st σ, K pc ls st σ = K' pc ls st σ) (pc : Nat) (ls : List MV) (σ : HP) (a : Option ACT) : stp cl K pc ls σ a = stp cl K' pc ls σ a := by
  have e : K = K' := by funext pc ls st σ; exact h pc ls st σ
  rw [e]
theorem blk_eq (pg : PG) (mx : Nat → Nat) (d k : Nat) (stops : List Nat) : ∀ (n pc : Nat) (ls st : List MV) (σ : HP), rsP pg mx d k pc ls st σ = blk (clR pg mx d) (rsP pg mx d k) (pg k) stops n pc ls st σ := by
  intro n
  induction n with
  | zero => intro pc ls st σ; rfl
  | succ n ih =>
    intro pc ls st σ
    rw [rsP_eq]
    unfold blk
    rw [lkP2_eq]
    cases he : lkP (pg k) pc with
    | none => rfl
    | some e =>
      refine stp_same (fun pc' ls' st' σ' => ?_) pc ls σ _
      rw [nrm_eq, nrm_eq]
      cases List.elem pc' stops
      · exact ih pc' ls' st' σ'
      · rfl
theorem blkE {pg : PG} {mx : Nat → Nat} {d k : Nat} {cs : List (List (Nat × EN))} (h : pg k = cs) (stops : List Nat) (n pc : Nat) (ls st : List MV) (σ : HP) : rsP pg mx d k pc ls st σ = blk (clR pg mx d) (rsP pg mx d k) cs stops n pc ls st σ := by
  subst h
  exact blk_eq pg mx d k stops n pc ls st σ
theorem step_t {p : Prop} [Decidable p] {a b X : RS} (h : p) (k : a = X) : cnd p a b = X := (cnd_t h a b).trans k
theorem step_f {p : Prop} [Decidable p] {a b X : RS} (h : ¬ p) (k : b = X) : cnd p a b = X := (cnd_f h a b).trans k
theorem step_i {p : Prop} [Decidable p] {a b X : RS} (h : p → a = X) (k : ¬ p → b = X) : cnd p a b = X := by
  by_cases z : p
  · exact step_t z (h z)
  · exact step_f z (k z)
theorem step_c {x : RS} {q : Int × HP} {f : Int × HP → RS} {X : RS} (h : x = some q) (k : f q = X) : bnd x f = X := by rw [h]; exact k
