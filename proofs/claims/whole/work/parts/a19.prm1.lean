theorem if_cv {a b : Int} {p : Prop} [Decidable p] {q : Prop} [Decidable q] (h : p ↔ q) : (if p then Int32.ofInt a else Int32.ofInt b) = Int32.ofInt (if q then a else b) := by
  by_cases z : p
  · rw [if_pos z, if_pos (h.mp z)]
  · rw [if_neg z, if_neg (fun y => z (h.mpr y))]
theorem if_cvl {a b : Int} {p : Prop} [Decidable p] {q : Prop} [Decidable q] (h : p ↔ q) : (if p then Int64.ofInt a else Int64.ofInt b) = Int64.ofInt (if q then a else b) := by
  by_cases z : p
  · rw [if_pos z, if_pos (h.mp z)]
  · rw [if_neg z, if_neg (fun y => z (h.mpr y))]
/-- a contract of the two calls on texts -/
def STR (w : WD) (l : Launch) : Prop := ∀ (q : MR) (p : Program) (e : Env) (R : Room) (s : State) (m : MethodId) (args : Array Value) (below : List Frame) (meth : Method) (c : Code), CX w q p s m args meth c → ∀ (pc x : Nat) (a : Int) (t : List MV) (σ : HP) (H : Heap) (locs : List Loc) (cells slots : Nat) (arr : Array Slot) (Q : State → Prop), wds t ≤ 8 → Rel w σ H → arr.size = q.2.2.2.1 → (∀ z ∈ locs, (wH w).size ≤ z.base) → 6 ≤ R.frames → 240 ≤ R.locals → cells ≤ R.cells → slots ≤ R.slots → 2 ≤ a → a < 12 →
  (decode q.2.2.1 pc = .ok (.invokevirtual x, 3) → Jvm.Cond.methodLink q.2.1.cls x ⟨"java/lang/String", "length", "()I"⟩ ∈ gtb → (∀ (H' : Heap) (locs' : List Loc), Rel w σ H' → (∀ z ∈ locs', (wH w).size ≤ z.base) → W p l e R s m args below meth c H' locs' cells slots Q (F0 m (pc + 3) arr ((vI (σ a (-2)) :: t).map (cv w)))) → W p l e R s m args below meth c H locs cells slots Q (F0 m pc arr ((vR a :: t).map (cv w)))) ∧
  (∀ i : Int, 0 ≤ wr i → wr i < σ a (-2) → decode q.2.2.1 pc = .ok (.invokevirtual x, 3) → Jvm.Cond.methodLink q.2.1.cls x ⟨"java/lang/String", "charAt", "(I)C"⟩ ∈ gtb → (∀ (H' : Heap) (locs' : List Loc), Rel w σ H' → (∀ z ∈ locs', (wH w).size ≤ z.base) → W p l e R s m args below meth c H' locs' cells slots Q (F0 m (pc + 3) arr ((vI (σ a (wr i)) :: t).map (cv w)))) → W p l e R s m args below meth c H locs cells slots Q (F0 m pc arr ((vI i :: vR a :: t).map (cv w))))
set_option maxHeartbeats 4000000 in
theorem prm_ok {w : WD} {l : Launch} (hStr : STR w l) : PRM w l := by
  intro q p e R s m args below meth c C k pc as t st rk σ σ1 r H locs cells slots arr Q hca hk1 hp hR hsz hlo hfr hlr hcc hss kk
  have C' := C
  obtain ⟨hx, hb, hml, hown, hts, hK, hin, how⟩ := C
  obtain ⟨hwd, x, r4, hcs⟩ := hca
  have hwd' := hwd
  rw [← wds_cat w] at hwd
  have hmls : c.maxLocals = arr.size := by rw [hml, hsz]
  have hnf : nativeFrameWords "java/lang/System" "arraycopy" 5 ≤ 100 := by decide
  unfold prm at hp
  split at hp
  · rename_i a
    rcases hcs with ⟨hd, hst, hm⟩ | ⟨a', as', has, ha0, hst, ⟨hd, hm⟩ | ⟨hd, hm, hn1, hn2⟩⟩
    · have := (mp_1000 hm).1; omega
    · have := (mp_1000 hm).1; omega
    · obtain ⟨-, e2, e3, e4, own, m1, m2⟩ := mp_1000 hm
      rw [how] at m1; cases m1
      cases has
      cases hdc : decide (0 < a ∧ a < 32 ∧ σ a (-1) = 30) with
      | false => rw [hdc] at hp; cases hp
      | true =>
        rw [hdc] at hp
        cases hp
        obtain ⟨g1, g2, g3⟩ := of_decide_eq_true hdc
        have h12 : 2 ≤ a ∧ a < 12 := by
          have hrow := hR.2.2.2.2 a (-1) g1 g2
          rw [g3] at hrow
          rcases (show a = 1 ∨ (2 ≤ a ∧ a < 12) ∨ (12 ≤ a ∧ a < 32) by omega) with z | z | z
          · subst z; have := hK.2.1.1.1; omega
          · exact z
          · have := hK.2.1.2.2.1 a z.1 z.2; omega
        subst hst
        subst e3
        exact ((hStr q p e R s m args below meth c C' pc x a t σ H locs cells slots arr Q hwd' hR hsz hlo hfr hlr hcc hss h12.1 h12.2).1 hd m2 kk)
  · rename_i a i
    rcases hcs with ⟨hd, hst, hm⟩ | ⟨a', as', has, ha0, hst, ⟨hd, hm⟩ | ⟨hd, hm, hn1, hn2⟩⟩
    · have := (mp_1001 hm).1; omega
    · have := (mp_1001 hm).1; omega
    · obtain ⟨-, e2, e3, e4, own, m1, m2⟩ := mp_1001 hm
      rw [how] at m1; cases m1
      cases has
      cases hdc : decide (0 < a ∧ a < 32 ∧ σ a (-1) = 30 ∧ 0 ≤ wr i ∧ wr i < σ a (-2)) with
      | false => rw [hdc] at hp; cases hp
      | true =>
        rw [hdc] at hp
        cases hp
        obtain ⟨g1, g2, g3, g4, g5⟩ := of_decide_eq_true hdc
        have h12 : 2 ≤ a ∧ a < 12 := by
          have hrow := hR.2.2.2.2 a (-1) g1 g2
          rw [g3] at hrow
          rcases (show a = 1 ∨ (2 ≤ a ∧ a < 12) ∨ (12 ≤ a ∧ a < 32) by omega) with z | z | z
          · subst z; have := hK.2.1.1.1; omega
          · exact z
          · have := hK.2.1.2.2.1 a z.1 z.2; omega
        subst hst
        subst e3
        exact ((hStr q p e R s m args below meth c C' pc x a t σ H locs cells slots arr Q hwd' hR hsz hlo hfr hlr hcc hss h12.1 h12.2).2 i g4 g5 hd m2 kk)
  · rename_i a i b j n
    rcases hcs with ⟨hd, hst, hm⟩ | ⟨a', as', has, ha0, hst, ⟨hd, hm⟩ | ⟨hd, hm, hn1, hn2⟩⟩
    · obtain ⟨-, e2, e3, e4, own, m1, m2, m3, m4, m5⟩ := mp_1002 hm
      rw [how] at m1; cases m1
      cases hdc : decide (32 ≤ a ∧ a < σ (-1) 0 ∧ 32 ≤ b ∧ b < σ (-1) 0 ∧ σ a (-1) = 20 ∧ σ b (-1) = 20 ∧ a ≠ b ∧ 0 ≤ wr i ∧ 0 ≤ wr j ∧ 0 ≤ wr n ∧ wr i + wr n ≤ σ a (-2) ∧ wr j + wr n ≤ σ b (-2)) with
      | false => rw [hdc] at hp; cases hp
      | true =>
        rw [hdc] at hp
        cases hp
        obtain ⟨g1, g2, g3, g4, g5, g6, g7, g8, g9, g10, g11, g12⟩ := of_decide_eq_true hdc
        subst hst
        subst e3
        have hca := (celR_20 g5).mp (hR.2.2.1 a g1 g2)
        have hcb := (celR_20 g6).mp (hR.2.2.1 b g3 g4)
        show W p l e R s m args below meth c H locs cells slots Q (F0 m pc arr (cv w (vI n) :: cv w (vI j) :: cv w (vR b) :: cv w (vI i) :: cv w (vR a) :: t.map (cv w)))
        rw [cv_R w (x := b) (by omega), cv_R w (x := a) (by omega)]
        intro T hT X
        obtain ⟨-, k0, hk0, cm0, hkk0⟩ := (hK.1.2 0 _ rfl).1 (σ a (-2)).toNat (fun j => cv w (vI (σ a j)))
        obtain ⟨-, k1, hk1, cm1, hkk1⟩ := (hK.1.2 0 _ rfl).1 (σ b (-2)).toNat (fun j => cv w (vI (σ b j)))
        have nl : ∀ z : Int, 0 ≤ wr z → ¬ Int32.ofInt z < 0 := fun z hz y => by
          have := (wz_lt z).mpr y
          omega
        have ni : ∀ z : Int, (Int32.ofInt z).toInt = wr z := fun z => rfl
        have nc : ∀ z : Int, (Int32.ofInt z).toNatClampNeg = (wr z).toNat := fun z => rfl
        obtain ⟨vm', X', step⟩ := X.arraycopy hx hown (hts _ m2) (hts _ m3) (hts _ m4) (hts _ m5) (src := adr w a) (dst := adr w b) (srcPos := Int32.ofInt i) (destPos := Int32.ofInt j) (n := Int32.ofInt n) (by rw [hT]; exact hca) (by rw [hT]; exact hcb)
          (fun _ h => by cases h) (fun _ h => by cases h) (fun h => by cases h) (fun h => by cases h) hk0 hk1 hkk0 hkk1 (by simp [refKind]) (nl i g8) (nl j g9) (nl n g10)
          (by rw [ni, ni, arrV_size]; omega)
          (by rw [ni, ni, arrV_size]; omega)
          (fun vm₁ _ y hy => by
            have hy2 : y < (wr n).toNat := hy
            have e : (arrV (wA w 0) (σ a (-2)).toNat (fun j => cv w (vI (σ a j)))).slots.getD ((Int32.ofInt i).toNatClampNeg + y) .null = cv w (vI (σ a (((wr i).toNat + y : Nat) : Int))) := by
              rw [Array.getD_eq_getD_getElem?, nc, arrV_read _ _ (by omega)]
              rfl
            refine ⟨?_, ?_⟩
            · rw [e]; rfl
            · rw [e]; exact trivial)
          (g := F0 m pc arr (cv w (vI n) :: cv w (vI j) :: .ref (adr w b) :: cv w (vI i) :: .ref (adr w a) :: t.map (cv w))) rfl (by rw [hmls]) (rest := t.map (cv w)) rfl (by rw [hb]; exact hd) (by omega) (show 2 * 0 + _ + _ ≤ _ by omega)
        have e1 : copied (arrV (wA w 0) (σ a (-2)).toNat (fun j => cv w (vI (σ a j)))) (arrV (wA w 0) (σ b (-2)).toNat (fun j => cv w (vI (σ b j)))) (Int32.ofInt i) (Int32.ofInt j) (Int32.ofInt n) = arrV (wA w 0) (σ b (-2)).toNat (fun k => .int (va_cpy (fun j : Nat => Int32.ofInt (σ a j)) (fun j : Nat => Int32.ofInt (σ b j)) (wr i).toNat (wr j).toNat (wr n).toNat k)) := va_copied (fun z => .int z) (wA w 0) (wA w 0) (fun j : Nat => Int32.ofInt (σ a j)) (fun j : Nat => Int32.ofInt (σ b j)) (by rw [nc, nc]; omega)
        rw [e1] at X' step
        have hl : adr w b < H.size := (Array.getElem?_eq_some_iff.mp hcb).1
        have oq : ∀ z : Nat, z ≠ adr w b → (H.setIfInBounds (adr w b) (arrV (wA w 0) (σ b (-2)).toNat (fun k => .int (va_cpy (fun j : Nat => Int32.ofInt (σ a j)) (fun j : Nat => Int32.ofInt (σ b j)) (wr i).toNat (wr j).toNat (wr n).toNat k))))[z]? = H[z]? := fun z hz => by simp [Array.getElem?_setIfInBounds, Ne.symm hz]
        have hR2 : Rel w (fun c k => if c = b ∧ wr j ≤ k ∧ k < wr j + wr n then σ a (wr i + (k - wr j)) else σ c k) (H.setIfInBounds (adr w b) (arrV (wA w 0) (σ b (-2)).toNat (fun k => .int (va_cpy (fun j : Nat => Int32.ofInt (σ a j)) (fun j : Nat => Int32.ofInt (σ b j)) (wr i).toNat (wr j).toNat (wr n).toNat k)))) := by
          obtain ⟨q1, q2, q3, q4, q5⟩ := hR
          have off : ∀ c' : Int, c' ≠ b → (fun k => if c' = b ∧ wr j ≤ k ∧ k < wr j + wr n then σ a (wr i + (k - wr j)) else σ c' k) = σ c' := fun c' hc' => by
            funext k
            rw [if_neg (fun z => hc' z.1)]
          have em : (if (-1 : Int) = b ∧ wr j ≤ 0 ∧ 0 < wr j + wr n then σ a (wr i + (0 - wr j)) else σ (-1) 0) = σ (-1) 0 := if_neg (fun z => by omega)
          refine ⟨?_, ?_, fun c' h1 h2 => ?_, fun z hz => ?_, fun c' k' h1 h2 => ?_⟩
          · show 32 ≤ (if (-1 : Int) = b ∧ _ then _ else _)
            rw [em]; exact q1
          · show _ = (wH w).size + (((if (-1 : Int) = b ∧ wr j ≤ 0 ∧ 0 < wr j + wr n then σ a (wr i + (0 - wr j)) else σ (-1) 0) : Int) - 32).toNat
            rw [em, Array.size_setIfInBounds]; exact q2
          · have h2 : c' < (if (-1 : Int) = b ∧ wr j ≤ 0 ∧ 0 < wr j + wr n then σ a (wr i + (0 - wr j)) else σ (-1) 0) := h2
            rw [em] at h2
            by_cases hcb' : c' = b
            · subst hcb'
              refine (celR_20 (by show (if c' = c' ∧ wr j ≤ -1 ∧ -1 < wr j + wr n then _ else _) = _; rw [if_neg (fun z => by omega)]; exact g6)).mpr ?_
              have e2 : (if c' = c' ∧ wr j ≤ (-2 : Int) ∧ (-2 : Int) < wr j + wr n then σ a (wr i + (-2 - wr j)) else σ c' (-2)) = σ c' (-2) := if_neg (fun z => by omega)
              show (H.setIfInBounds (adr w c') _)[adr w c']? = some (arrV _ (if c' = c' ∧ wr j ≤ (-2 : Int) ∧ (-2 : Int) < wr j + wr n then σ a (wr i + (-2 - wr j)) else σ c' (-2)).toNat _)
              rw [e2, Array.getElem?_setIfInBounds, if_pos rfl, if_pos hl]
              congr 2
              funext y
              show Value.int _ = Value.int (Int32.ofInt (if c' = c' ∧ wr j ≤ (y : Int) ∧ (y : Int) < wr j + wr n then σ a (wr i + ((y : Int) - wr j)) else σ c' y))
              by_cases hy : wr j ≤ (y : Int) ∧ (y : Int) < wr j + wr n
              · rw [if_pos ⟨rfl, hy⟩, pk_cpy_in (by omega) (by omega)]
                have e3 : (((wr i).toNat + (y - (wr j).toNat) : Nat) : Int) = wr i + ((y : Int) - wr j) := by omega
                rw [e3]
              · rw [if_neg (fun z => hy z.2), pk_cpy_out (by omega)]
            · show celR w (fun k => if c' = b ∧ wr j ≤ k ∧ k < wr j + wr n then σ a (wr i + (k - wr j)) else σ c' k) _ _
              rw [off c' hcb']
              exact (q3 c' h1 h2).kept (oq _ (fun z => hcb' (adr_inj w h1 g3 z)))
          · rw [oq z (by have := adr_ge w g3; omega)]
            exact q4 z hz
          · show (if c' = b ∧ _ then _ else _) = _
            rw [if_neg (fun z => by omega)]
            exact q5 c' k' h1 h2
        obtain ⟨t2, a1, b1⟩ := kk _ _ hR2 (fun z hz => by
          rcases List.mem_append.mp hz with h | h
          · exact hlo z h
          · obtain ⟨y, -, hy⟩ := List.mem_map.mp h
            rw [← hy]
            exact adr_ge w g3) _ (by rw [← hT]; rfl) X'
        exact ⟨t2, step t2 a1, b1⟩
    · have := (mp_1002 hm).1; omega
    · have := (mp_1002 hm).1; omega
  · rename_i a
    rcases hcs with ⟨hd, hst, hm⟩ | ⟨a', as', has, ha0, hst, ⟨hd, hm⟩ | ⟨hd, hm, hn1, hn2⟩⟩
    · have := (mp_1003 hm).1; omega
    · obtain ⟨-, e2, e3, e4, own, m1, m2, m3, m4⟩ := mp_1003 hm
      rw [how] at m1; cases m1
      cases has
      cases hp
      subst hst
      subst e3
      show W p l e R s m args below meth c H locs cells slots Q (F0 m pc arr (cv w (vR a) :: t.map (cv w)))
      rw [cv_R w ha0]
      refine W.objInit hx hb hown (hts _ m2) (hts _ m3) (hts _ m4) rfl (by rw [hmls]) rfl hd (by omega) (by show 2 * 0 + _ + 12 ≤ _; omega) ?_
      exact kk H locs hR hlo
    · have := (mp_1003 hm).1; omega
  · rename_i x1 y1
    rcases hcs with ⟨hd, hst, hm⟩ | ⟨a', as', has, ha0, hst, ⟨hd, hm⟩ | ⟨hd, hm, hn1, hn2⟩⟩
    · obtain ⟨-, e2, e3, e4, own, m1, m2, m3, m4, m5⟩ := mp_1004 hm
      rw [how] at m1; cases m1
      cases hp
      subst hst
      subst e3
      refine va_mmax hx hb hmls hown (hts _ m2) (hts _ m3) (hts _ m4) (hts _ m5) (by omega) (show ((t.map (cv w)).map fun v => v.category).sum + _ ≤ R.locals by omega) hcc hss hd ?_
      rw [if_cv (wr_lt x1 y1).symm]
      exact kk H locs hR hlo
    · cases has
    · cases has
  · rename_i x1 y1
    rcases hcs with ⟨hd, hst, hm⟩ | ⟨a', as', has, ha0, hst, ⟨hd, hm⟩ | ⟨hd, hm, hn1, hn2⟩⟩
    · obtain ⟨-, e2, e3, e4, own, m1, m2, m3, m4, m5⟩ := mp_1005 hm
      rw [how] at m1; cases m1
      cases hp
      subst hst
      subst e3
      refine va_mmin hx hb hmls hown (hts _ m2) (hts _ m3) (hts _ m4) (hts _ m5) (by omega) (show ((t.map (cv w)).map fun v => v.category).sum + _ ≤ R.locals by omega) hcc hss hd ?_
      rw [if_cv (wr_lt y1 x1).symm]
      exact kk H locs hR hlo
    · cases has
    · cases has
  · rename_i x1
    rcases hcs with ⟨hd, hst, hm⟩ | ⟨a', as', has, ha0, hst, ⟨hd, hm⟩ | ⟨hd, hm, hn1, hn2⟩⟩
    · obtain ⟨-, e2, e3, e4, own, m1, m2, m3, m4, m5⟩ := mp_1006 hm
      rw [how] at m1; cases m1
      cases hp
      subst hst
      subst e3
      refine va_mabs hx hb hmls hown (hts _ m2) (hts _ m3) (hts _ m4) (hts _ m5) (by omega) (show ((t.map (cv w)).map fun v => v.category).sum + _ ≤ R.locals by omega) hcc hss hd ?_
      have e0 : (0 : Int32) - Int32.ofInt x1 = Int32.ofInt (0 - x1) := by rw [Int32.ofInt_sub]; rfl
      rw [e0, if_cv (wz_ge x1).symm]
      exact kk H locs hR hlo
    · cases has
    · cases has
  · rename_i x1 y1
    rcases hcs with ⟨hd, hst, hm⟩ | ⟨a', as', has, ha0, hst, ⟨hd, hm⟩ | ⟨hd, hm, hn1, hn2⟩⟩
    · obtain ⟨-, e2, e3, e4, own, m1, m2, m3, m4, m5⟩ := mp_1007 hm
      rw [how] at m1; cases m1
      cases hp
      subst hst
      subst e3
      refine va_mmin_long hx hb hmls hown (hts _ m2) (hts _ m3) (hts _ m4) (hts _ m5) (by omega) (show ((t.map (cv w)).map fun v => v.category).sum + _ ≤ R.locals by omega) hcc hss hd ?_
      rw [if_cvl (show Int64.ofInt y1 < Int64.ofInt x1 ↔ wl y1 < wl x1 from Int64.lt_iff_toInt_lt)]
      exact kk H locs hR hlo
    · cases has
    · cases has
  · cases hp
