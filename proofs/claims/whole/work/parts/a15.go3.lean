theorem newO_0 {σ : HP} {c n : Int} (h : 32 ≤ σ (-1) 0) : newO σ c n (-1) 0 = σ (-1) 0 + 1 := by
  show (if (-1 : Int) = σ (-1) 0 then (if (0 : Int) = -1 then c else 0) else if (-1 : Int) = -1 then (if (0 : Int) = 0 then σ (-1) 0 + 1 else if (0 : Int) = 1 then σ (-1) 1 + n else σ (-1) 0) else σ (-1) 0) = _
  rw [if_neg (by omega), if_pos rfl, if_pos rfl]
theorem newO_1 {σ : HP} {c n : Int} (h : 32 ≤ σ (-1) 0) : newO σ c n (-1) 1 = σ (-1) 1 + n := by
  show (if (-1 : Int) = σ (-1) 0 then (if (1 : Int) = -1 then c else 0) else if (-1 : Int) = -1 then (if (1 : Int) = 0 then σ (-1) 0 + 1 else if (1 : Int) = 1 then σ (-1) 1 + n else σ (-1) 1) else σ (-1) 1) = _
  rw [if_neg (by omega), if_pos rfl, if_neg (by omega), if_pos rfl]
theorem newA_0 {σ : HP} {c n : Int} (h : 32 ≤ σ (-1) 0) : newA σ c n (-1) 0 = σ (-1) 0 + 1 := by
  show (if (-1 : Int) = σ (-1) 0 then (if (0 : Int) = -1 then c else if (0 : Int) = -2 then n else 0) else if (-1 : Int) = -1 then (if (0 : Int) = 0 then σ (-1) 0 + 1 else if (0 : Int) = 1 then σ (-1) 1 + n else σ (-1) 0) else σ (-1) 0) = _
  rw [if_neg (by omega), if_pos rfl, if_pos rfl]
theorem newA_1 {σ : HP} {c n : Int} (h : 32 ≤ σ (-1) 0) : newA σ c n (-1) 1 = σ (-1) 1 + n := by
  show (if (-1 : Int) = σ (-1) 0 then (if (1 : Int) = -1 then c else if (1 : Int) = -2 then n else 0) else if (-1 : Int) = -1 then (if (1 : Int) = 0 then σ (-1) 0 + 1 else if (1 : Int) = 1 then σ (-1) 1 + n else σ (-1) 1) else σ (-1) 1) = _
  rw [if_neg (by omega), if_pos rfl, if_neg (by omega), if_pos rfl]
theorem old_no {w : WD} {s : State} (h : OldB w s) {a : Int} (h1 : 0 < a) (h2 : a < 32) {k : Int} (hk : wX w a (-1) = k) (h40 : k ≠ 40) (h30 : k ≠ 30) (h0 : k ≠ -5) : False := by
  rcases (show a = 1 ∨ (2 ≤ a ∧ a < 12) ∨ (12 ≤ a ∧ a < 32) by omega) with e | e | e
  · subst e
    exact h40 (hk.symm.trans h.1.1)
  · exact h30 (hk.symm.trans (h.2.1 a e.1 e.2).1)
  · exact h0 (hk.symm.trans (h.2.2.1 a e.1 e.2))
theorem old_40 {w : WD} {s : State} (h : OldB w s) {a : Int} (h1 : 0 < a) (h2 : a < 32) (hk : wX w a (-1) = 40) : a = 1 := by
  rcases (show a = 1 ∨ (2 ≤ a ∧ a < 12) ∨ (12 ≤ a ∧ a < 32) by omega) with e | e | e
  · exact e
  · have := (h.2.1 a e.1 e.2).1
    omega
  · have := h.2.2.1 a e.1 e.2
    omega
/-- the cell of an array of whole numbers -/
theorem arr_at {w : WD} {σ : HP} {H : Heap} {s : State} (hR : Rel w σ H) (hK : KB w s) {a : Int} (g0 : 0 < a) (g1 : a < σ (-1) 0) {k : Int} (g2 : σ a (-1) = k) (hk : k = 20 ∨ k = 21 ∨ k = 22) : 32 ≤ a ∧ ∃ t ty, H[adr w a]? = some (arrV (wA w t) (σ a (-2)).toNat (fun j => cv w (vI (σ a j)))) ∧ ArrOfT s (wA w t) ty ∧ ((k = 20 ∧ ty = .int ∧ t = 0) ∨ (k = 21 ∧ ty = .byte ∧ t = 1) ∨ (k = 22 ∧ ty = .boolean ∧ t = 2)) := by
  have h32 : 32 ≤ a := by
    rcases Int.lt_or_le a 32 with h | h
    · exfalso
      have := hR.2.2.2.2 a (-1) g0 h
      exact old_no hK.2.1 g0 h (this.symm.trans g2) (by omega) (by omega) (by omega)
    · exact h
  refine ⟨h32, ?_⟩
  have hc := hR.2.2.1 a h32 g1
  rcases hk with e | e | e
  · subst e
    exact ⟨0, .int, (celR_20 g2).mp hc, (hK.1.2 0 _ rfl).1, Or.inl ⟨rfl, rfl, rfl⟩⟩
  · subst e
    exact ⟨1, .byte, (celR_21 g2).mp hc, (hK.1.2 1 _ rfl).1, Or.inr (Or.inl ⟨rfl, rfl, rfl⟩)⟩
  · subst e
    exact ⟨2, .boolean, (celR_22 g2).mp hc, (hK.1.2 2 _ rfl).1, Or.inr (Or.inr ⟨rfl, rfl, rfl⟩)⟩
theorem arr_in {cI : ClassId} {f : Nat → Value} {i n : Int} (h0 : 0 ≤ wr i) (h1 : wr i < n) : ¬ (Int32.ofInt i < 0 ∨ (arrV cI n.toNat f).slots.size ≤ (Int32.ofInt i).toNatClampNeg) := by
  rw [arrV_size]
  exact idx_in h0 h1
theorem arr_rd {cI : ClassId} {f : Nat → Value} {i n : Int} (h0 : 0 ≤ wr i) (h1 : wr i < n) : (arrV cI n.toNat f).slots[(Int32.ofInt i).toNatClampNeg]? = some (f (wr i).toNat) := by
  rw [arrV_read]
  · rfl
  · show (wr i).toNat < n.toNat
    omega
theorem nat_wr {i : Int} (h0 : 0 ≤ wr i) : (((wr i).toNat : Nat) : Int) = wr i := Int.toNat_of_nonneg h0
/-- an array of whole numbers is written -/
theorem arr_put {w : WD} {σ : HP} {H H' : Heap} {a i x : Int} {t : Nat} (hR : Rel w σ H) (h32 : 32 ≤ a) (hk : (σ a (-1) = 20 ∧ t = 0) ∨ (σ a (-1) = 21 ∧ t = 1) ∨ (σ a (-1) = 22 ∧ t = 2)) (h0 : 0 ≤ wr i) (h1 : wr i < σ a (-2)) {v : Value} (hv : v = cv w (vI x)) (e1 : H'[adr w a]? = some ((arrV (wA w t) (σ a (-2)).toNat (fun j => cv w (vI (σ a j)))).setSlot (Int32.ofInt i).toNatClampNeg v)) (e2 : H'.size = H.size) (e3 : ∀ q, q ≠ adr w a → H'[q]? = H[q]?) : Rel w (up σ a (wr i) x) H' := by
  refine hR.put h32 e2 e3 ?_
  rw [arrV_store] at e1
  have ef : updV (fun j : Nat => cv w (vI (σ a j))) (Int32.ofInt i).toNatClampNeg v = fun j : Nat => cv w (vI (if (j : Int) = wr i then x else σ a j)) := by
    funext j
    have en : (Int32.ofInt i).toNatClampNeg = (wr i).toNat := rfl
    rw [en]
    by_cases hj : j = (wr i).toNat
    · subst hj
      have : (((wr i).toNat : Nat) : Int) = wr i := nat_wr h0
      simp [updV, this, hv]
    · have h2 : ¬ ((j : Int) = wr i) := by omega
      simp [updV, hj, h2]
  rw [ef] at e1
  have k1 : ¬ ((-1 : Int) = wr i) := by omega
  have k2 : ¬ ((-2 : Int) = wr i) := by omega
  rcases hk with ⟨hk, ht⟩ | ⟨hk, ht⟩ | ⟨hk, ht⟩
  · subst ht
    refine (celR_20 (by simp only [k1, if_false]; exact hk)).mpr ?_
    simp only [k2, if_false]
    exact e1
  · subst ht
    refine (celR_21 (by simp only [k1, if_false]; exact hk)).mpr ?_
    simp only [k2, if_false]
    exact e1
  · subst ht
    refine (celR_22 (by simp only [k1, if_false]; exact hk)).mpr ?_
    simp only [k2, if_false]
    exact e1
theorem locs_put {w : WD} {locs : List Loc} (hlo : ∀ z ∈ locs, (wH w).size ≤ z.base) {a : Int} (h32 : 32 ≤ a) (i : Nat) : ∀ z ∈ locs ++ [⟨adr w a, i⟩], (wH w).size ≤ z.base := by
  intro z hz
  rcases List.mem_append.mp hz with h | h
  · exact hlo z h
  · cases List.mem_singleton.mp h
    exact adr_ge w h32
set_option maxHeartbeats 4000000 in
set_option maxRecDepth 100000 in
theorem go_iaload {w : WD} {q : MR} {p : Program} {l : Launch} {e : Env} {R : Room} {s : State} {m : MethodId} {args : Array Value} {below : List Frame} {meth : Method} {c : Code} (C : CX w q p s m args meth c) {pc : Nat} {len r1 r2 r3 r4 : Nat} {sw : List (Int × Nat)} (hd : decode q.2.2.1 pc = .ok (.iaload, len)) (hc : chkI q pc (.iaload, len, r1, r2, r3, r4, sw) = true) {ls st : List MV} {σ : HP} {arr : Array Slot} {H : Heap} {locs : List Loc} {cells slots : Nat} {Q : State → Prop} (hR : Rel w σ H) (hL : LR w q.2.2.2.1 ls arr) (hlo : ∀ z ∈ locs, (wH w).size ≤ z.base) {g : Bool} {br : List (Bool × Nat)} {f : Nat} {ls' st' : List MV} {σ' : HP} (ha : act0 pc (.iaload, len, r1, r2, r3, r4, sw) ls st σ = some (.inl (g, br, f, ls', st', σ'))) (hg : g = true) (hrc : cells + (σ' (-1) 0 - σ (-1) 0).toNat ≤ R.cells) (hrs : slots + (σ' (-1) 1 - σ (-1) 1).toNat ≤ R.slots)
    (kk : ∀ (H' : Heap) (locs' : List Loc) (arr' : Array Slot) (cells' slots' : Nat), Rel w σ' H' → LR w q.2.2.2.1 ls' arr' → (∀ z ∈ locs', (wH w).size ≤ z.base) → cells' = cells + (σ' (-1) 0 - σ (-1) 0).toNat → slots' = slots + (σ' (-1) 1 - σ (-1) 1).toNat → W p l e R s m args below meth c H' locs' cells' slots' Q (F0 m (brTT f br) arr' (st'.map (cv w)))) : W p l e R s m args below meth c H locs cells slots Q (F0 m pc arr (st.map (cv w))) := by
  obtain ⟨hx, hb, hml, hown, hts, hK, hin, how⟩ := C
  simp only [chkI, Bool.and_eq_true, Bool.or_eq_true] at hc
  have hl : len = 1 := Nat.eq_of_beq_eq_true hc.1
  subst hl
  simp only [act0] at ha
  split at ha
  · rename_i i a t
    cases ha
    obtain ⟨g0, g1, g2, g3, g4⟩ := of_decide_eq_true hg
    have kz := kk H locs arr cells slots hR hL hlo (by simp) (by simp)
    simp only [List.map_cons] at kz ⊢
    rw [cv_R w g0]
    rcases hc.2 with h | h
    · have h := Nat.eq_of_beq_eq_true h
      subst h
      obtain ⟨h32, t0, ty, hc1, hA, hh⟩ := arr_at hR hK g0 g1 g2 (Or.inl rfl)
      rcases hh with ⟨-, e1, e2⟩ | ⟨e0, -⟩ | ⟨e0, -⟩
      · subst e1; subst e2
        refine W.iald hx hb hc1 (hA _ _) (fun q => by cases q) (arr_in g3 g4) (arr_rd g3 g4) rfl rfl hd ?_
        rw [nat_wr g3]
        exact kz
      · exact absurd e0 (by decide)
      · exact absurd e0 (by decide)
    · have h := Nat.eq_of_beq_eq_true h
      subst h
      have h32 : a < 32 := by
        rcases Int.lt_or_le a 32 with z | z
        · exact z
        · exfalso
          have := celR_no (hR.2.2.1 a z g1)
          omega
      have hrow : ∀ j, σ a j = wX w a j := fun j => hR.2.2.2.2 a j g0 h32
      rw [hrow] at g2 g4
      have ha1 := old_40 hK.2.1 g0 h32 g2
      subst ha1
      obtain ⟨s1, s2, s3, s4, xs, ⟨scr, x1, x2, x3, x4, x5⟩, s6⟩ := hK.2.1.1
      have ead : adr w 1 = wO w 1 := by unfold adr; rw [if_pos (by omega)]
      rw [ead]
      have hcell : H[wO w 1]? = some scr := (hR.2.2.2.1 _ s4).trans x1
      have hlt : (wr i).toNat < (wX w 1 (-2)).toNat := by omega
      have hv := x5 (wr i).toNat hlt
      rw [s6 (wr i).toNat (by omega), nat_wr g3] at hv
      refine W.iald hx hb hcell x2 x3 (by rw [x4]; exact idx_in g3 g4) (v := .int (Int32.ofInt (wX w 1 (wr i)))) hv rfl rfl hd ?_
      rw [hrow] at kz
      exact kz
  · cases ha
set_option maxHeartbeats 4000000 in
set_option maxRecDepth 100000 in
theorem go_baload {w : WD} {q : MR} {p : Program} {l : Launch} {e : Env} {R : Room} {s : State} {m : MethodId} {args : Array Value} {below : List Frame} {meth : Method} {c : Code} (C : CX w q p s m args meth c) {pc : Nat} {len r1 r2 r3 r4 : Nat} {sw : List (Int × Nat)} (hd : decode q.2.2.1 pc = .ok (.baload, len)) (hc : chkI q pc (.baload, len, r1, r2, r3, r4, sw) = true) {ls st : List MV} {σ : HP} {arr : Array Slot} {H : Heap} {locs : List Loc} {cells slots : Nat} {Q : State → Prop} (hR : Rel w σ H) (hL : LR w q.2.2.2.1 ls arr) (hlo : ∀ z ∈ locs, (wH w).size ≤ z.base) {g : Bool} {br : List (Bool × Nat)} {f : Nat} {ls' st' : List MV} {σ' : HP} (ha : act0 pc (.baload, len, r1, r2, r3, r4, sw) ls st σ = some (.inl (g, br, f, ls', st', σ'))) (hg : g = true) (hrc : cells + (σ' (-1) 0 - σ (-1) 0).toNat ≤ R.cells) (hrs : slots + (σ' (-1) 1 - σ (-1) 1).toNat ≤ R.slots)
    (kk : ∀ (H' : Heap) (locs' : List Loc) (arr' : Array Slot) (cells' slots' : Nat), Rel w σ' H' → LR w q.2.2.2.1 ls' arr' → (∀ z ∈ locs', (wH w).size ≤ z.base) → cells' = cells + (σ' (-1) 0 - σ (-1) 0).toNat → slots' = slots + (σ' (-1) 1 - σ (-1) 1).toNat → W p l e R s m args below meth c H' locs' cells' slots' Q (F0 m (brTT f br) arr' (st'.map (cv w)))) : W p l e R s m args below meth c H locs cells slots Q (F0 m pc arr (st.map (cv w))) := by
  obtain ⟨hx, hb, hml, hown, hts, hK, hin, how⟩ := C
  simp only [chkI, Bool.and_eq_true, Bool.or_eq_true] at hc
  have hl : len = 1 := Nat.eq_of_beq_eq_true hc.1
  subst hl
  simp only [act0] at ha
  split at ha
  · rename_i i a t
    cases ha
    obtain ⟨g0, g1, g2, g3, g4⟩ := of_decide_eq_true hg
    have kz := kk H locs arr cells slots hR hL hlo (by simp) (by simp)
    simp only [List.map_cons] at kz ⊢
    rw [cv_R w (by omega)]
    rcases hc.2 with h | h
    · have h := Nat.eq_of_beq_eq_true h
      subst h
      obtain ⟨h32, t0, ty, hc1, hA, hh⟩ := arr_at hR hK (by omega) g1 g2 (Or.inr (Or.inl rfl))
      rcases hh with ⟨e0, -⟩ | ⟨-, e1, e2⟩ | ⟨e0, -⟩
      · exact absurd e0 (by decide)
      · subst e1; subst e2
        refine W.bald hx hb hc1 (hA _ _) (fun q => by cases q) (arr_in g3 g4) (arr_rd g3 g4) rfl rfl hd ?_
        rw [nat_wr g3]
        exact kz
      · exact absurd e0 (by decide)
    · have h := Nat.eq_of_beq_eq_true h
      subst h
      obtain ⟨h32, t0, ty, hc1, hA, hh⟩ := arr_at hR hK (by omega) g1 g2 (Or.inr (Or.inr rfl))
      rcases hh with ⟨e0, -⟩ | ⟨e0, -⟩ | ⟨-, e1, e2⟩
      · exact absurd e0 (by decide)
      · exact absurd e0 (by decide)
      · subst e1; subst e2
        refine W.zald hx hb hc1 (hA _ _) (fun q => by cases q) (arr_in g3 g4) (arr_rd g3 g4) rfl rfl hd ?_
        rw [nat_wr g3]
        exact kz
  · cases ha
set_option maxHeartbeats 4000000 in
set_option maxRecDepth 100000 in
theorem go_iastore {w : WD} {q : MR} {p : Program} {l : Launch} {e : Env} {R : Room} {s : State} {m : MethodId} {args : Array Value} {below : List Frame} {meth : Method} {c : Code} (C : CX w q p s m args meth c) {pc : Nat} {len r1 r2 r3 r4 : Nat} {sw : List (Int × Nat)} (hd : decode q.2.2.1 pc = .ok (.iastore, len)) (hc : chkI q pc (.iastore, len, r1, r2, r3, r4, sw) = true) {ls st : List MV} {σ : HP} {arr : Array Slot} {H : Heap} {locs : List Loc} {cells slots : Nat} {Q : State → Prop} (hR : Rel w σ H) (hL : LR w q.2.2.2.1 ls arr) (hlo : ∀ z ∈ locs, (wH w).size ≤ z.base) {g : Bool} {br : List (Bool × Nat)} {f : Nat} {ls' st' : List MV} {σ' : HP} (ha : act0 pc (.iastore, len, r1, r2, r3, r4, sw) ls st σ = some (.inl (g, br, f, ls', st', σ'))) (hg : g = true) (hrc : cells + (σ' (-1) 0 - σ (-1) 0).toNat ≤ R.cells) (hrs : slots + (σ' (-1) 1 - σ (-1) 1).toNat ≤ R.slots)
    (kk : ∀ (H' : Heap) (locs' : List Loc) (arr' : Array Slot) (cells' slots' : Nat), Rel w σ' H' → LR w q.2.2.2.1 ls' arr' → (∀ z ∈ locs', (wH w).size ≤ z.base) → cells' = cells + (σ' (-1) 0 - σ (-1) 0).toNat → slots' = slots + (σ' (-1) 1 - σ (-1) 1).toNat → W p l e R s m args below meth c H' locs' cells' slots' Q (F0 m (brTT f br) arr' (st'.map (cv w)))) : W p l e R s m args below meth c H locs cells slots Q (F0 m pc arr (st.map (cv w))) := by
  obtain ⟨hx, hb, hml, hown, hts, hK, hin, how⟩ := C
  simp only [chkI, Bool.and_eq_true] at hc
  have hl : len = 1 := Nat.eq_of_beq_eq_true hc.1
  subst hl
  have h := Nat.eq_of_beq_eq_true hc.2
  subst h
  simp only [act0] at ha
  split at ha
  · rename_i x i a t
    cases ha
    obtain ⟨g0, g1, g2, g3, g4⟩ := of_decide_eq_true hg
    simp only [List.map_cons]
    rw [cv_R w (x := a) (by omega)]
    obtain ⟨h32, t0, ty, hc1, hA, hh⟩ := arr_at hR hK (by omega) g1 g2 (Or.inl rfl)
    rcases hh with ⟨-, e1, e2⟩ | ⟨e0, -⟩ | ⟨e0, -⟩
    · subst e1; subst e2
      refine W.iast hx hb hc1 (hA _ _) (fun q => by cases q) (arr_in g3 g4) rfl rfl hd (fun H' e1 e2 e3 => ?_)
      exact kk H' _ arr cells slots (arr_put hR h32 (Or.inl ⟨g2, rfl⟩) g3 g4 rfl e1 e2 e3) hL (locs_put hlo h32 _) (by rw [up_m1 σ _ _ _ h32]; simp) (by rw [up_m1 σ _ _ _ h32]; simp)
    · exact absurd e0 (by decide)
    · exact absurd e0 (by decide)
  · cases ha
set_option maxHeartbeats 4000000 in
set_option maxRecDepth 100000 in
theorem go_bastore {w : WD} {q : MR} {p : Program} {l : Launch} {e : Env} {R : Room} {s : State} {m : MethodId} {args : Array Value} {below : List Frame} {meth : Method} {c : Code} (C : CX w q p s m args meth c) {pc : Nat} {len r1 r2 r3 r4 : Nat} {sw : List (Int × Nat)} (hd : decode q.2.2.1 pc = .ok (.bastore, len)) (hc : chkI q pc (.bastore, len, r1, r2, r3, r4, sw) = true) {ls st : List MV} {σ : HP} {arr : Array Slot} {H : Heap} {locs : List Loc} {cells slots : Nat} {Q : State → Prop} (hR : Rel w σ H) (hL : LR w q.2.2.2.1 ls arr) (hlo : ∀ z ∈ locs, (wH w).size ≤ z.base) {g : Bool} {br : List (Bool × Nat)} {f : Nat} {ls' st' : List MV} {σ' : HP} (ha : act0 pc (.bastore, len, r1, r2, r3, r4, sw) ls st σ = some (.inl (g, br, f, ls', st', σ'))) (hg : g = true) (hrc : cells + (σ' (-1) 0 - σ (-1) 0).toNat ≤ R.cells) (hrs : slots + (σ' (-1) 1 - σ (-1) 1).toNat ≤ R.slots)
    (kk : ∀ (H' : Heap) (locs' : List Loc) (arr' : Array Slot) (cells' slots' : Nat), Rel w σ' H' → LR w q.2.2.2.1 ls' arr' → (∀ z ∈ locs', (wH w).size ≤ z.base) → cells' = cells + (σ' (-1) 0 - σ (-1) 0).toNat → slots' = slots + (σ' (-1) 1 - σ (-1) 1).toNat → W p l e R s m args below meth c H' locs' cells' slots' Q (F0 m (brTT f br) arr' (st'.map (cv w)))) : W p l e R s m args below meth c H locs cells slots Q (F0 m pc arr (st.map (cv w))) := by
  obtain ⟨hx, hb, hml, hown, hts, hK, hin, how⟩ := C
  simp only [chkI, Bool.and_eq_true, Bool.or_eq_true] at hc
  have hl : len = 1 := Nat.eq_of_beq_eq_true hc.1
  subst hl
  simp only [act0] at ha
  split at ha
  · rename_i x i a t
    cases ha
    simp only [Bool.and_eq_true, Bool.or_eq_true] at hg
    obtain ⟨hfx, hg⟩ := hg
    obtain ⟨g0, g1, g2, g3, g4⟩ := of_decide_eq_true hg
    simp only [List.map_cons]
    rw [cv_R w (x := a) (by omega)]
    rcases hc.2 with h | h
    · have h := Nat.eq_of_beq_eq_true h
      subst h
      obtain ⟨h32, t0, ty, hc1, hA, hh⟩ := arr_at hR hK (by omega) g1 g2 (Or.inr (Or.inl rfl))
      rcases hh with ⟨e0, -⟩ | ⟨-, e1, e2⟩ | ⟨e0, -⟩
      · exact absurd e0 (by decide)
      · subst e1; subst e2
        refine W.bast hx hb hc1 (hA _ _) (fun q => by cases q) (arr_in g3 g4) rfl rfl hd (fun H' e1 e2 e3 => ?_)
        refine kk H' _ arr cells slots (arr_put hR h32 (Or.inr (Or.inl ⟨g2, rfl⟩)) g3 g4 ?_ e1 e2 e3) hL (locs_put hlo h32 _) (by rw [up_m1 σ _ _ _ h32]; simp) (by rw [up_m1 σ _ _ _ h32]; simp)
        show narrow .byte (.int (Int32.ofInt x)) = .int (Int32.ofInt (i_byte x))
        unfold i_byte
        rw [o32]
        rfl
      · exact absurd e0 (by decide)
    · have h := Nat.eq_of_beq_eq_true h
      subst h
      have hx01 : x = 0 ∨ x = 1 := by
        rcases hfx with z | z
        · exact absurd z (by decide)
        · exact of_decide_eq_true z
      obtain ⟨h32, t0, ty, hc1, hA, hh⟩ := arr_at hR hK (by omega) g1 g2 (Or.inr (Or.inr rfl))
      rcases hh with ⟨e0, -⟩ | ⟨e0, -⟩ | ⟨-, e1, e2⟩
      · exact absurd e0 (by decide)
      · exact absurd e0 (by decide)
      · subst e1; subst e2
        refine W.zast hx hb hc1 (hA _ _) (fun q => by cases q) (arr_in g3 g4) rfl rfl hd (fun H' e1 e2 e3 => ?_)
        refine kk H' _ arr cells slots (arr_put hR h32 (Or.inr (Or.inr ⟨g2, rfl⟩)) g3 g4 ?_ e1 e2 e3) hL (locs_put hlo h32 _) (by rw [up_m1 σ _ _ _ h32]; simp) (by rw [up_m1 σ _ _ _ h32]; simp)
        show narrow .boolean (.int (Int32.ofInt x)) = .int (Int32.ofInt x)
        rcases hx01 with z | z
        · subst z; decide
        · subst z; decide
  · cases ha
set_option maxHeartbeats 4000000 in
set_option maxRecDepth 100000 in
theorem go_arraylength {w : WD} {q : MR} {p : Program} {l : Launch} {e : Env} {R : Room} {s : State} {m : MethodId} {args : Array Value} {below : List Frame} {meth : Method} {c : Code} (C : CX w q p s m args meth c) {pc : Nat} {len r1 r2 r3 r4 : Nat} {sw : List (Int × Nat)} (hd : decode q.2.2.1 pc = .ok (.arraylength, len)) (hc : chkI q pc (.arraylength, len, r1, r2, r3, r4, sw) = true) {ls st : List MV} {σ : HP} {arr : Array Slot} {H : Heap} {locs : List Loc} {cells slots : Nat} {Q : State → Prop} (hR : Rel w σ H) (hL : LR w q.2.2.2.1 ls arr) (hlo : ∀ z ∈ locs, (wH w).size ≤ z.base) {g : Bool} {br : List (Bool × Nat)} {f : Nat} {ls' st' : List MV} {σ' : HP} (ha : act0 pc (.arraylength, len, r1, r2, r3, r4, sw) ls st σ = some (.inl (g, br, f, ls', st', σ'))) (hg : g = true) (hrc : cells + (σ' (-1) 0 - σ (-1) 0).toNat ≤ R.cells) (hrs : slots + (σ' (-1) 1 - σ (-1) 1).toNat ≤ R.slots)
    (kk : ∀ (H' : Heap) (locs' : List Loc) (arr' : Array Slot) (cells' slots' : Nat), Rel w σ' H' → LR w q.2.2.2.1 ls' arr' → (∀ z ∈ locs', (wH w).size ≤ z.base) → cells' = cells + (σ' (-1) 0 - σ (-1) 0).toNat → slots' = slots + (σ' (-1) 1 - σ (-1) 1).toNat → W p l e R s m args below meth c H' locs' cells' slots' Q (F0 m (brTT f br) arr' (st'.map (cv w)))) : W p l e R s m args below meth c H locs cells slots Q (F0 m pc arr (st.map (cv w))) := by
  obtain ⟨hx, hb, hml, hown, hts, hK, hin, how⟩ := C
  simp only [chkI, Bool.and_eq_true, Bool.or_eq_true] at hc
  have hl : len = 1 := Nat.eq_of_beq_eq_true hc.1
  subst hl
  simp only [act0] at ha
  split at ha
  · rename_i a t
    cases ha
    obtain ⟨g0, g1, g2, g3⟩ := of_decide_eq_true hg
    have kz := kk H locs arr cells slots hR hL hlo (by simp) (by simp)
    simp only [List.map_cons] at kz ⊢
    rw [cv_R w g0]
    have en : ∀ n : Int, 0 ≤ n → n.toNat.toInt32 = Int32.ofInt n := fun n hn => by
      show Int32.ofNat n.toNat = _
      rw [show Int32.ofNat n.toNat = Int32.ofInt (n.toNat : Int) from rfl, Int.toNat_of_nonneg hn]
    rcases hc.2 with (h | h) | h
    · have h := Nat.eq_of_beq_eq_true h
      subst h
      obtain ⟨h32, t0, ty, hc1, hA, hh⟩ := arr_at hR hK g0 g1 g2 (Or.inl rfl)
      exact W.alen hx hb hc1 (hA _ _) (by rw [arrV_size]; exact en _ g3) rfl rfl hd kz
    · have h := Nat.eq_of_beq_eq_true h
      subst h
      have h32 : a < 32 := by
        rcases Int.lt_or_le a 32 with z | z
        · exact z
        · exfalso
          have := celR_no (hR.2.2.1 a z g1)
          omega
      have hrow : ∀ j, σ a j = wX w a j := fun j => hR.2.2.2.2 a j g0 h32
      rw [hrow] at g2 g3
      have ha1 := old_40 hK.2.1 g0 h32 g2
      subst ha1
      obtain ⟨s1, s2, s3, s4, xs, ⟨scr, x1, x2, x3, x4, x5⟩, s6⟩ := hK.2.1.1
      have ead : adr w 1 = wO w 1 := by unfold adr; rw [if_pos (by omega)]
      rw [ead]
      have hcell : H[wO w 1]? = some scr := (hR.2.2.2.1 _ s4).trans x1
      refine W.alen hx hb hcell x2 (n := Int32.ofInt (σ 1 (-2))) (by rw [x4, hrow]; exact en _ g3) rfl rfl hd kz
    · have h := Nat.eq_of_beq_eq_true h
      subst h
      obtain ⟨h32, t0, ty, hc1, hA, hh⟩ := arr_at hR hK g0 g1 g2 (Or.inr (Or.inl rfl))
      exact W.alen hx hb hc1 (hA _ _) (by rw [arrV_size]; exact en _ g3) rfl rfl hd kz
  · cases ha
set_option maxHeartbeats 4000000 in
set_option maxRecDepth 100000 in
theorem go_aaload {w : WD} {q : MR} {p : Program} {l : Launch} {e : Env} {R : Room} {s : State} {m : MethodId} {args : Array Value} {below : List Frame} {meth : Method} {c : Code} (C : CX w q p s m args meth c) {pc : Nat} {len r1 r2 r3 r4 : Nat} {sw : List (Int × Nat)} (hd : decode q.2.2.1 pc = .ok (.aaload, len)) (hc : chkI q pc (.aaload, len, r1, r2, r3, r4, sw) = true) {ls st : List MV} {σ : HP} {arr : Array Slot} {H : Heap} {locs : List Loc} {cells slots : Nat} {Q : State → Prop} (hR : Rel w σ H) (hL : LR w q.2.2.2.1 ls arr) (hlo : ∀ z ∈ locs, (wH w).size ≤ z.base) {g : Bool} {br : List (Bool × Nat)} {f : Nat} {ls' st' : List MV} {σ' : HP} (ha : act0 pc (.aaload, len, r1, r2, r3, r4, sw) ls st σ = some (.inl (g, br, f, ls', st', σ'))) (hg : g = true) (hrc : cells + (σ' (-1) 0 - σ (-1) 0).toNat ≤ R.cells) (hrs : slots + (σ' (-1) 1 - σ (-1) 1).toNat ≤ R.slots)
    (kk : ∀ (H' : Heap) (locs' : List Loc) (arr' : Array Slot) (cells' slots' : Nat), Rel w σ' H' → LR w q.2.2.2.1 ls' arr' → (∀ z ∈ locs', (wH w).size ≤ z.base) → cells' = cells + (σ' (-1) 0 - σ (-1) 0).toNat → slots' = slots + (σ' (-1) 1 - σ (-1) 1).toNat → W p l e R s m args below meth c H' locs' cells' slots' Q (F0 m (brTT f br) arr' (st'.map (cv w)))) : W p l e R s m args below meth c H locs cells slots Q (F0 m pc arr (st.map (cv w))) := by
  obtain ⟨hx, hb, hml, hown, hts, hK, hin, how⟩ := C
  simp only [chkI, Bool.and_eq_true] at hc
  have hl : len = 1 := Nat.eq_of_beq_eq_true hc.1
  subst hl
  have h := Nat.eq_of_beq_eq_true hc.2
  subst h
  simp only [act0] at ha
  split at ha
  · rename_i i a t
    cases ha
    obtain ⟨g0, g1, g2, g3, g4⟩ := of_decide_eq_true hg
    have kz := kk H locs arr cells slots hR hL hlo (by simp) (by simp)
    simp only [List.map_cons] at kz ⊢
    rw [cv_R w (x := a) (by omega)]
    have hc1 := (celR_23 g2).mp (hR.2.2.1 a g0 g1)
    refine W.aald hx hb hc1 ((hK.1.2 3 _ rfl).1 _ _) rfl (fun q => by cases q) (arr_in g3 g4) (arr_rd g3 g4) rfl rfl hd ?_
    rw [nat_wr g3]
    exact kz
  · cases ha
set_option maxHeartbeats 4000000 in
set_option maxRecDepth 100000 in
theorem go_aastore {w : WD} {q : MR} {p : Program} {l : Launch} {e : Env} {R : Room} {s : State} {m : MethodId} {args : Array Value} {below : List Frame} {meth : Method} {c : Code} (C : CX w q p s m args meth c) {pc : Nat} {len r1 r2 r3 r4 : Nat} {sw : List (Int × Nat)} (hd : decode q.2.2.1 pc = .ok (.aastore, len)) (hc : chkI q pc (.aastore, len, r1, r2, r3, r4, sw) = true) {ls st : List MV} {σ : HP} {arr : Array Slot} {H : Heap} {locs : List Loc} {cells slots : Nat} {Q : State → Prop} (hR : Rel w σ H) (hL : LR w q.2.2.2.1 ls arr) (hlo : ∀ z ∈ locs, (wH w).size ≤ z.base) {g : Bool} {br : List (Bool × Nat)} {f : Nat} {ls' st' : List MV} {σ' : HP} (ha : act0 pc (.aastore, len, r1, r2, r3, r4, sw) ls st σ = some (.inl (g, br, f, ls', st', σ'))) (hg : g = true) (hrc : cells + (σ' (-1) 0 - σ (-1) 0).toNat ≤ R.cells) (hrs : slots + (σ' (-1) 1 - σ (-1) 1).toNat ≤ R.slots)
    (kk : ∀ (H' : Heap) (locs' : List Loc) (arr' : Array Slot) (cells' slots' : Nat), Rel w σ' H' → LR w q.2.2.2.1 ls' arr' → (∀ z ∈ locs', (wH w).size ≤ z.base) → cells' = cells + (σ' (-1) 0 - σ (-1) 0).toNat → slots' = slots + (σ' (-1) 1 - σ (-1) 1).toNat → W p l e R s m args below meth c H' locs' cells' slots' Q (F0 m (brTT f br) arr' (st'.map (cv w)))) : W p l e R s m args below meth c H locs cells slots Q (F0 m pc arr (st.map (cv w))) := by
  obtain ⟨hx, hb, hml, hown, hts, hK, hin, how⟩ := C
  simp only [chkI, Bool.and_eq_true] at hc
  obtain ⟨⟨hl, h23⟩, h0⟩ := hc
  have hl : len = 1 := Nat.eq_of_beq_eq_true hl
  subst hl
  have h := Nat.eq_of_beq_eq_true h23
  subst h
  have h := Nat.eq_of_beq_eq_true h0
  subst h
  simp only [act0] at ha
  split at ha
  · rename_i x i a t
    cases ha
    obtain ⟨g0, g1, g2, g3, g4, g5, g6, g7⟩ := of_decide_eq_true hg
    simp only [List.map_cons]
    rw [cv_R w (x := a) (by omega), cv_R w (x := x) (by omega)]
    have hc1 := (celR_23 g2).mp (hR.2.2.1 a g0 g1)
    obtain ⟨cell, q1, q2, q3, q4⟩ := (celR_ob (r := ("OneAtATime$BitList", kT0, 7)) g7 rfl).mp (hR.2.2.1 x g5 g6)
    have hcls := (hK.1.1 0 ("OneAtATime$BitList", kT0, 7) rfl).2
    obtain ⟨kA, comp, k1, k2, k3, -⟩ := (hK.1.2 3 _ rfl).2
    have hcomp : comp = (wD w).1 0 := Option.some.inj (k3.symm.trans hcls.1)
    subst hcomp
    obtain ⟨kC, hkC, -⟩ := hcls.2
    refine W.aast hx hb hc1 (fun q h => by cases h) (fun h => by cases h) k1 k2 rfl hkC ⟨fun z => (arr_in (cI := wA w 3) (f := fun j : Nat => cv w (vR (σ a j))) g3 g4) (Or.inl z), Nat.not_le.mp fun z => (arr_in (cI := wA w 3) (f := fun j : Nat => cv w (vR (σ a j))) g3 g4) (Or.inr z)⟩ q1 (fun q h => by rw [q3] at h; cases h) (by rw [q2]; exact hkC) (by rw [q2]; exact va_assign hcls) rfl rfl hd (fun H' e1 e2 e3 => ?_)
    refine kk H' _ arr cells slots (hR.put g0 e2 e3 ?_) hL (locs_put hlo g0 _) (by rw [up_m1 σ _ _ _ g0]; simp) (by rw [up_m1 σ _ _ _ g0]; simp)
    have k1 : ¬ ((-1 : Int) = wr i) := by omega
    have k2 : ¬ ((-2 : Int) = wr i) := by omega
    refine (celR_23 (by simp only [k1, if_false]; exact g2)).mpr ?_
    simp only [k2, if_false]
    rw [e1, arrV_store]
    congr 2
    funext j
    have en : (Int32.ofInt i).toNatClampNeg = (wr i).toNat := rfl
    rw [en]
    by_cases hj : j = (wr i).toNat
    · subst hj
      have : (((wr i).toNat : Nat) : Int) = wr i := nat_wr g3
      simp only [updV, this, if_true]
      rw [cv_R w (x := x) (by omega)]
    · have h2 : ¬ ((j : Int) = wr i) := by omega
      simp [updV, hj, h2]
  · cases ha
set_option maxHeartbeats 4000000 in
set_option maxRecDepth 100000 in
theorem go_new {w : WD} {q : MR} {p : Program} {l : Launch} {e : Env} {R : Room} {s : State} {m : MethodId} {args : Array Value} {below : List Frame} {meth : Method} {c : Code} (C : CX w q p s m args meth c) {pc : Nat} {len r1 r2 r3 r4 : Nat} {sw : List (Int × Nat)} {x : Nat} (hne : r1 ≠ 23) (hd : decode q.2.2.1 pc = .ok (.new x, len)) (hc : chkI q pc (.new x, len, r1, r2, r3, r4, sw) = true) {ls st : List MV} {σ : HP} {arr : Array Slot} {H : Heap} {locs : List Loc} {cells slots : Nat} {Q : State → Prop} (hR : Rel w σ H) (hL : LR w q.2.2.2.1 ls arr) (hlo : ∀ z ∈ locs, (wH w).size ≤ z.base) {g : Bool} {br : List (Bool × Nat)} {f : Nat} {ls' st' : List MV} {σ' : HP} (ha : act0 pc (.new x, len, r1, r2, r3, r4, sw) ls st σ = some (.inl (g, br, f, ls', st', σ'))) (hg : g = true) (hrc : cells + (σ' (-1) 0 - σ (-1) 0).toNat ≤ R.cells) (hrs : slots + (σ' (-1) 1 - σ (-1) 1).toNat ≤ R.slots)
    (kk : ∀ (H' : Heap) (locs' : List Loc) (arr' : Array Slot) (cells' slots' : Nat), Rel w σ' H' → LR w q.2.2.2.1 ls' arr' → (∀ z ∈ locs', (wH w).size ≤ z.base) → cells' = cells + (σ' (-1) 0 - σ (-1) 0).toNat → slots' = slots + (σ' (-1) 1 - σ (-1) 1).toNat → W p l e R s m args below meth c H' locs' cells' slots' Q (F0 m (brTT f br) arr' (st'.map (cv w)))) : W p l e R s m args below meth c H locs cells slots Q (F0 m pc arr (st.map (cv w))) := by
  obtain ⟨hx, hb, hml, hown, hts, hK, hin, how⟩ := C
  simp only [chkI, Bool.and_eq_true] at hc
  have hl : len = 3 := Nat.eq_of_beq_eq_true hc.1
  subst hl
  have hn : ∃ r : vw_C, cls0[r1]? = some r ∧ Jvm.Cond.classLink q.2.1.cls x r.1 ∈ gtb ∧ r.2.2 = r2 := by
    have h2 := hc.2
    split at h2
    · obtain ⟨own, r, e1, e2, e3, e4⟩ := nt_ok _ (List.mem_of_getElem? (of_decide_eq_true h2))
      rw [how] at e1
      cases e1
      have hb23 : Nat.beq r1 23 = false := by
        cases hb2 : Nat.beq r1 23 with
        | false => rfl
        | true => exact absurd (Nat.eq_of_beq_eq_true hb2) hne
      simp only [hb23, cond_false] at e2
      exact ⟨r, e2, e3, e4 hb23⟩
    · cases h2
  obtain ⟨r, f1, f2, f3⟩ := hn
  subst f3
  simp only [act0] at ha
  cases ha
  obtain ⟨ty, hu, hnm, hi1, hi2, hty, htk, hdc⟩ := cls_ok r1 r f1
  have hKn := hK.1.1 r1 _ f1
  have hz0 : newO σ r1 r.2.2 (-1) 0 = σ (-1) 0 + 1 := newO_0 hR.1
  have hz1 : newO σ r1 r.2.2 (-1) 1 = σ (-1) 1 + r.2.2 := newO_1 hR.1
  rw [hz0] at hrc
  rw [hz1] at hrs
  refine W.newcK hx hb hown (hts _ f2) (hts _ hi1) (hts _ hi2) rfl hd (by omega) (by omega) hKn.2.1 (h := H.size) rfl (fun H1 kC hkC e1 z1 o1 => ?_)
  have hnr : newO σ r1 r.2.2 (σ (-1) 0) = fun j => if j = -1 then (r1 : Int) else 0 := by
    funext j
    simp only [newO, if_true]
  have hcl : celR w (newO σ r1 r.2.2 (σ (-1) 0)) (adr w (σ (-1) 0)) H1 := by
    rw [hnr, hR.adr_size]
    refine (celR_ob (c := r1) (r := r) (by simp) f1).mpr ?_
    refine (u_born ty hts hu hKn hkC e1 hty).to (fun k hk => ?_)
    have hk1 : ¬ ((k : Int) = -1) := by omega
    simp only [hk1, if_false]
    exact (ty_ok (w := w) (htk k hk)).1
  have kz := kk H1 locs arr (cells + 1) (slots + r.2.2) (hR.new hz0 (fun b hb1 hb2 => by funext j; simp only [newO, hb1, hb2, if_false]) z1 o1 hcl) hL hlo (by rw [hz0]; omega) (by rw [hz1]; omega)
  simp only [List.map_cons] at kz
  have hr1 := hR.1
  rw [cv_R w (x := σ (-1) 0) (by omega), hR.adr_size] at kz
  exact kz
set_option maxHeartbeats 4000000 in
set_option maxRecDepth 100000 in
theorem go_newarray_int {w : WD} {q : MR} {p : Program} {l : Launch} {e : Env} {R : Room} {s : State} {m : MethodId} {args : Array Value} {below : List Frame} {meth : Method} {c : Code} (C : CX w q p s m args meth c) {pc : Nat} {len r1 r2 r3 r4 : Nat} {sw : List (Int × Nat)} (hd : decode q.2.2.1 pc = .ok (.newarray .int, len)) (hc : chkI q pc (.newarray .int, len, r1, r2, r3, r4, sw) = true) {ls st : List MV} {σ : HP} {arr : Array Slot} {H : Heap} {locs : List Loc} {cells slots : Nat} {Q : State → Prop} (hR : Rel w σ H) (hL : LR w q.2.2.2.1 ls arr) (hlo : ∀ z ∈ locs, (wH w).size ≤ z.base) {g : Bool} {br : List (Bool × Nat)} {f : Nat} {ls' st' : List MV} {σ' : HP} (ha : act0 pc (.newarray .int, len, r1, r2, r3, r4, sw) ls st σ = some (.inl (g, br, f, ls', st', σ'))) (hg : g = true) (hrc : cells + (σ' (-1) 0 - σ (-1) 0).toNat ≤ R.cells) (hrs : slots + (σ' (-1) 1 - σ (-1) 1).toNat ≤ R.slots)
    (kk : ∀ (H' : Heap) (locs' : List Loc) (arr' : Array Slot) (cells' slots' : Nat), Rel w σ' H' → LR w q.2.2.2.1 ls' arr' → (∀ z ∈ locs', (wH w).size ≤ z.base) → cells' = cells + (σ' (-1) 0 - σ (-1) 0).toNat → slots' = slots + (σ' (-1) 1 - σ (-1) 1).toNat → W p l e R s m args below meth c H' locs' cells' slots' Q (F0 m (brTT f br) arr' (st'.map (cv w)))) : W p l e R s m args below meth c H locs cells slots Q (F0 m pc arr (st.map (cv w))) := by
  obtain ⟨hx, hb, hml, hown, hts, hK, hin, how⟩ := C
  simp only [chkI, Bool.and_eq_true] at hc
  have hl : len = 2 := Nat.eq_of_beq_eq_true hc.1
  subst hl
  have hr : r1 = 20 := Nat.eq_of_beq_eq_true hc.2
  simp only [act0] at ha
  split at ha
  · rename_i n t
    cases ha
    obtain ⟨g1, g2⟩ := of_decide_eq_true hg
    have hz0 : newA σ r1 (wr n) (-1) 0 = σ (-1) 0 + 1 := newA_0 hR.1
    have hz1 : newA σ r1 (wr n) (-1) 1 = σ (-1) 1 + wr n := newA_1 hR.1
    rw [hz0] at hrc
    rw [hz1] at hrs
    have hnr : newA σ r1 (wr n) (σ (-1) 0) = fun j => if j = -1 then (r1 : Int) else if j = -2 then wr n else 0 := by
      funext j
      simp only [newA, if_true]
    have hr1 := hR.1
    have hnn : ¬ Int32.ofInt n < 0 := fun z => by
      have := (wz_lt n).mpr z
      omega
    have hnN : (Int32.ofInt n).toNatClampNeg = (wr n).toNat := rfl
    have hnl : newA σ r1 (wr n) (σ (-1) 0) (-1) = (r1 : Int) := by rw [hnr]; simp
    have hn2 : newA σ r1 (wr n) (σ (-1) 0) (-2) = wr n := by rw [hnr]; simp
    have hnj : ∀ j : Nat, newA σ r1 (wr n) (σ (-1) 0) (j : Int) = 0 := fun j => by
      have k1 : ¬ ((j : Int) = -1) := by omega
      have k2 : ¬ ((j : Int) = -2) := by omega
      rw [hnr]
      simp only [k1, k2, if_false]
    have fin : ∀ H1 : Heap, H1.size = H.size + 1 → (∀ z, z < H.size → H1[z]? = H[z]?) → celR w (newA σ r1 (wr n) (σ (-1) 0)) (adr w (σ (-1) 0)) H1 → W p l e R s m args below meth c H1 locs (cells + 1) (slots + (wr n).toNat) Q (F0 m (pc + 2) arr (.ref H.size :: t.map (cv w))) := by
      intro H1 z1 o1 hcl
      have kz := kk H1 locs arr (cells + 1) (slots + (wr n).toNat) (hR.new hz0 (fun b hb1 hb2 => by funext j; simp only [newA, hb1, hb2, if_false]) z1 o1 hcl) hL hlo (by rw [hz0]; omega) (by rw [hz1]; omega)
      simp only [List.map_cons] at kz
      rw [cv_R w (x := σ (-1) 0) (by omega), hR.adr_size] at kz
      exact kz
    refine va_newaK (atype := .int) (N := (wr n).toNat) (n := Int32.ofInt n) hx hb (hts _ ac_int) rfl hd rfl hnn hnN (by simp [newarray.typeOf, componentBytes]; omega) (by omega) (by omega) (h := H.size) rfl (fun H1 cA0 e1 z1 o1 hAr hNm => ?_)
    have hcA : cA0 = wA w 0 := Option.some.inj (hNm.symm.trans (hK.1.2 0 _ rfl).2)
    subst hcA
    refine fin H1 z1 o1 ((celR_20 (by rw [hnl, hr]; rfl)).mpr ?_)
    rw [hR.adr_size, e1, hn2]
    congr 2
    funext j
    rw [hnj j]
    rfl
  · cases ha
set_option maxHeartbeats 4000000 in
set_option maxRecDepth 100000 in
theorem go_newarray_byte {w : WD} {q : MR} {p : Program} {l : Launch} {e : Env} {R : Room} {s : State} {m : MethodId} {args : Array Value} {below : List Frame} {meth : Method} {c : Code} (C : CX w q p s m args meth c) {pc : Nat} {len r1 r2 r3 r4 : Nat} {sw : List (Int × Nat)} (hd : decode q.2.2.1 pc = .ok (.newarray .byte, len)) (hc : chkI q pc (.newarray .byte, len, r1, r2, r3, r4, sw) = true) {ls st : List MV} {σ : HP} {arr : Array Slot} {H : Heap} {locs : List Loc} {cells slots : Nat} {Q : State → Prop} (hR : Rel w σ H) (hL : LR w q.2.2.2.1 ls arr) (hlo : ∀ z ∈ locs, (wH w).size ≤ z.base) {g : Bool} {br : List (Bool × Nat)} {f : Nat} {ls' st' : List MV} {σ' : HP} (ha : act0 pc (.newarray .byte, len, r1, r2, r3, r4, sw) ls st σ = some (.inl (g, br, f, ls', st', σ'))) (hg : g = true) (hrc : cells + (σ' (-1) 0 - σ (-1) 0).toNat ≤ R.cells) (hrs : slots + (σ' (-1) 1 - σ (-1) 1).toNat ≤ R.slots)
    (kk : ∀ (H' : Heap) (locs' : List Loc) (arr' : Array Slot) (cells' slots' : Nat), Rel w σ' H' → LR w q.2.2.2.1 ls' arr' → (∀ z ∈ locs', (wH w).size ≤ z.base) → cells' = cells + (σ' (-1) 0 - σ (-1) 0).toNat → slots' = slots + (σ' (-1) 1 - σ (-1) 1).toNat → W p l e R s m args below meth c H' locs' cells' slots' Q (F0 m (brTT f br) arr' (st'.map (cv w)))) : W p l e R s m args below meth c H locs cells slots Q (F0 m pc arr (st.map (cv w))) := by
  obtain ⟨hx, hb, hml, hown, hts, hK, hin, how⟩ := C
  simp only [chkI, Bool.and_eq_true] at hc
  have hl : len = 2 := Nat.eq_of_beq_eq_true hc.1
  subst hl
  have hr : r1 = 21 := Nat.eq_of_beq_eq_true hc.2
  simp only [act0] at ha
  split at ha
  · rename_i n t
    cases ha
    obtain ⟨g1, g2⟩ := of_decide_eq_true hg
    have hz0 : newA σ r1 (wr n) (-1) 0 = σ (-1) 0 + 1 := newA_0 hR.1
    have hz1 : newA σ r1 (wr n) (-1) 1 = σ (-1) 1 + wr n := newA_1 hR.1
    rw [hz0] at hrc
    rw [hz1] at hrs
    have hnr : newA σ r1 (wr n) (σ (-1) 0) = fun j => if j = -1 then (r1 : Int) else if j = -2 then wr n else 0 := by
      funext j
      simp only [newA, if_true]
    have hr1 := hR.1
    have hnn : ¬ Int32.ofInt n < 0 := fun z => by
      have := (wz_lt n).mpr z
      omega
    have hnN : (Int32.ofInt n).toNatClampNeg = (wr n).toNat := rfl
    have hnl : newA σ r1 (wr n) (σ (-1) 0) (-1) = (r1 : Int) := by rw [hnr]; simp
    have hn2 : newA σ r1 (wr n) (σ (-1) 0) (-2) = wr n := by rw [hnr]; simp
    have hnj : ∀ j : Nat, newA σ r1 (wr n) (σ (-1) 0) (j : Int) = 0 := fun j => by
      have k1 : ¬ ((j : Int) = -1) := by omega
      have k2 : ¬ ((j : Int) = -2) := by omega
      rw [hnr]
      simp only [k1, k2, if_false]
    have fin : ∀ H1 : Heap, H1.size = H.size + 1 → (∀ z, z < H.size → H1[z]? = H[z]?) → celR w (newA σ r1 (wr n) (σ (-1) 0)) (adr w (σ (-1) 0)) H1 → W p l e R s m args below meth c H1 locs (cells + 1) (slots + (wr n).toNat) Q (F0 m (pc + 2) arr (.ref H.size :: t.map (cv w))) := by
      intro H1 z1 o1 hcl
      have kz := kk H1 locs arr (cells + 1) (slots + (wr n).toNat) (hR.new hz0 (fun b hb1 hb2 => by funext j; simp only [newA, hb1, hb2, if_false]) z1 o1 hcl) hL hlo (by rw [hz0]; omega) (by rw [hz1]; omega)
      simp only [List.map_cons] at kz
      rw [cv_R w (x := σ (-1) 0) (by omega), hR.adr_size] at kz
      exact kz
    refine va_newaK (atype := .byte) (N := (wr n).toNat) (n := Int32.ofInt n) hx hb (hts _ ac_byte) rfl hd rfl hnn hnN (by simp [newarray.typeOf, componentBytes]; omega) (by omega) (by omega) (h := H.size) rfl (fun H1 cA0 e1 z1 o1 hAr hNm => ?_)
    have hcA : cA0 = wA w 1 := Option.some.inj (hNm.symm.trans (hK.1.2 1 _ rfl).2)
    subst hcA
    refine fin H1 z1 o1 ((celR_21 (by rw [hnl, hr]; rfl)).mpr ?_)
    rw [hR.adr_size, e1, hn2]
    congr 2
    funext j
    rw [hnj j]
    rfl
  · cases ha
set_option maxHeartbeats 4000000 in
set_option maxRecDepth 100000 in
theorem go_newarray_boolean {w : WD} {q : MR} {p : Program} {l : Launch} {e : Env} {R : Room} {s : State} {m : MethodId} {args : Array Value} {below : List Frame} {meth : Method} {c : Code} (C : CX w q p s m args meth c) {pc : Nat} {len r1 r2 r3 r4 : Nat} {sw : List (Int × Nat)} (hd : decode q.2.2.1 pc = .ok (.newarray .boolean, len)) (hc : chkI q pc (.newarray .boolean, len, r1, r2, r3, r4, sw) = true) {ls st : List MV} {σ : HP} {arr : Array Slot} {H : Heap} {locs : List Loc} {cells slots : Nat} {Q : State → Prop} (hR : Rel w σ H) (hL : LR w q.2.2.2.1 ls arr) (hlo : ∀ z ∈ locs, (wH w).size ≤ z.base) {g : Bool} {br : List (Bool × Nat)} {f : Nat} {ls' st' : List MV} {σ' : HP} (ha : act0 pc (.newarray .boolean, len, r1, r2, r3, r4, sw) ls st σ = some (.inl (g, br, f, ls', st', σ'))) (hg : g = true) (hrc : cells + (σ' (-1) 0 - σ (-1) 0).toNat ≤ R.cells) (hrs : slots + (σ' (-1) 1 - σ (-1) 1).toNat ≤ R.slots)
    (kk : ∀ (H' : Heap) (locs' : List Loc) (arr' : Array Slot) (cells' slots' : Nat), Rel w σ' H' → LR w q.2.2.2.1 ls' arr' → (∀ z ∈ locs', (wH w).size ≤ z.base) → cells' = cells + (σ' (-1) 0 - σ (-1) 0).toNat → slots' = slots + (σ' (-1) 1 - σ (-1) 1).toNat → W p l e R s m args below meth c H' locs' cells' slots' Q (F0 m (brTT f br) arr' (st'.map (cv w)))) : W p l e R s m args below meth c H locs cells slots Q (F0 m pc arr (st.map (cv w))) := by
  obtain ⟨hx, hb, hml, hown, hts, hK, hin, how⟩ := C
  simp only [chkI, Bool.and_eq_true] at hc
  have hl : len = 2 := Nat.eq_of_beq_eq_true hc.1
  subst hl
  have hr : r1 = 22 := Nat.eq_of_beq_eq_true hc.2
  simp only [act0] at ha
  split at ha
  · rename_i n t
    cases ha
    obtain ⟨g1, g2⟩ := of_decide_eq_true hg
    have hz0 : newA σ r1 (wr n) (-1) 0 = σ (-1) 0 + 1 := newA_0 hR.1
    have hz1 : newA σ r1 (wr n) (-1) 1 = σ (-1) 1 + wr n := newA_1 hR.1
    rw [hz0] at hrc
    rw [hz1] at hrs
    have hnr : newA σ r1 (wr n) (σ (-1) 0) = fun j => if j = -1 then (r1 : Int) else if j = -2 then wr n else 0 := by
      funext j
      simp only [newA, if_true]
    have hr1 := hR.1
    have hnn : ¬ Int32.ofInt n < 0 := fun z => by
      have := (wz_lt n).mpr z
      omega
    have hnN : (Int32.ofInt n).toNatClampNeg = (wr n).toNat := rfl
    have hnl : newA σ r1 (wr n) (σ (-1) 0) (-1) = (r1 : Int) := by rw [hnr]; simp
    have hn2 : newA σ r1 (wr n) (σ (-1) 0) (-2) = wr n := by rw [hnr]; simp
    have hnj : ∀ j : Nat, newA σ r1 (wr n) (σ (-1) 0) (j : Int) = 0 := fun j => by
      have k1 : ¬ ((j : Int) = -1) := by omega
      have k2 : ¬ ((j : Int) = -2) := by omega
      rw [hnr]
      simp only [k1, k2, if_false]
    have fin : ∀ H1 : Heap, H1.size = H.size + 1 → (∀ z, z < H.size → H1[z]? = H[z]?) → celR w (newA σ r1 (wr n) (σ (-1) 0)) (adr w (σ (-1) 0)) H1 → W p l e R s m args below meth c H1 locs (cells + 1) (slots + (wr n).toNat) Q (F0 m (pc + 2) arr (.ref H.size :: t.map (cv w))) := by
      intro H1 z1 o1 hcl
      have kz := kk H1 locs arr (cells + 1) (slots + (wr n).toNat) (hR.new hz0 (fun b hb1 hb2 => by funext j; simp only [newA, hb1, hb2, if_false]) z1 o1 hcl) hL hlo (by rw [hz0]; omega) (by rw [hz1]; omega)
      simp only [List.map_cons] at kz
      rw [cv_R w (x := σ (-1) 0) (by omega), hR.adr_size] at kz
      exact kz
    refine va_newaK (atype := .boolean) (N := (wr n).toNat) (n := Int32.ofInt n) hx hb (hts _ ac_boolean) rfl hd rfl hnn hnN (by simp [newarray.typeOf, componentBytes]; omega) (by omega) (by omega) (h := H.size) rfl (fun H1 cA0 e1 z1 o1 hAr hNm => ?_)
    have hcA : cA0 = wA w 2 := Option.some.inj (hNm.symm.trans (hK.1.2 2 _ rfl).2)
    subst hcA
    refine fin H1 z1 o1 ((celR_22 (by rw [hnl, hr]; rfl)).mpr ?_)
    rw [hR.adr_size, e1, hn2]
    congr 2
    funext j
    rw [hnj j]
    rfl
  · cases ha
set_option maxHeartbeats 4000000 in
set_option maxRecDepth 100000 in
theorem go_anewarray {w : WD} {q : MR} {p : Program} {l : Launch} {e : Env} {R : Room} {s : State} {m : MethodId} {args : Array Value} {below : List Frame} {meth : Method} {c : Code} (C : CX w q p s m args meth c) {pc : Nat} {len r1 r2 r3 r4 : Nat} {sw : List (Int × Nat)} {x : Nat} (hd : decode q.2.2.1 pc = .ok (.anewarray x, len)) (hc : chkI q pc (.anewarray x, len, r1, r2, r3, r4, sw) = true) {ls st : List MV} {σ : HP} {arr : Array Slot} {H : Heap} {locs : List Loc} {cells slots : Nat} {Q : State → Prop} (hR : Rel w σ H) (hL : LR w q.2.2.2.1 ls arr) (hlo : ∀ z ∈ locs, (wH w).size ≤ z.base) {g : Bool} {br : List (Bool × Nat)} {f : Nat} {ls' st' : List MV} {σ' : HP} (ha : act0 pc (.anewarray x, len, r1, r2, r3, r4, sw) ls st σ = some (.inl (g, br, f, ls', st', σ'))) (hg : g = true) (hrc : cells + (σ' (-1) 0 - σ (-1) 0).toNat ≤ R.cells) (hrs : slots + (σ' (-1) 1 - σ (-1) 1).toNat ≤ R.slots)
    (kk : ∀ (H' : Heap) (locs' : List Loc) (arr' : Array Slot) (cells' slots' : Nat), Rel w σ' H' → LR w q.2.2.2.1 ls' arr' → (∀ z ∈ locs', (wH w).size ≤ z.base) → cells' = cells + (σ' (-1) 0 - σ (-1) 0).toNat → slots' = slots + (σ' (-1) 1 - σ (-1) 1).toNat → W p l e R s m args below meth c H' locs' cells' slots' Q (F0 m (brTT f br) arr' (st'.map (cv w)))) : W p l e R s m args below meth c H locs cells slots Q (F0 m pc arr (st.map (cv w))) := by
  obtain ⟨hx, hb, hml, hown, hts, hK, hin, how⟩ := C
  simp only [chkI, Bool.and_eq_true] at hc
  obtain ⟨⟨hl, hc1⟩, hc2⟩ := hc
  have hl : len = 3 := Nat.eq_of_beq_eq_true hl
  subst hl
  have hr : r1 = 23 := Nat.eq_of_beq_eq_true hc2
  have hn : Jvm.Cond.classLink q.2.1.cls x "OneAtATime$BitList" ∈ gtb := by
    split at hc1
    · obtain ⟨own, r, e1, e2, e3, e4⟩ := nt_ok _ (List.mem_of_getElem? (of_decide_eq_true hc1))
      rw [how] at e1
      cases e1
      cases e2
      exact e3
    · cases hc1
  simp only [act0] at ha
  split at ha
  · rename_i n t
    cases ha
    obtain ⟨g1, g2⟩ := of_decide_eq_true hg
    have hz0 : newA σ r1 (wr n) (-1) 0 = σ (-1) 0 + 1 := newA_0 hR.1
    have hz1 : newA σ r1 (wr n) (-1) 1 = σ (-1) 1 + wr n := newA_1 hR.1
    rw [hz0] at hrc
    rw [hz1] at hrs
    have hnr : newA σ r1 (wr n) (σ (-1) 0) = fun j => if j = -1 then (r1 : Int) else if j = -2 then wr n else 0 := by
      funext j
      simp only [newA, if_true]
    have hr1 := hR.1
    have hnn : ¬ Int32.ofInt n < 0 := fun z => by
      have := (wz_lt n).mpr z
      omega
    have hnN : (Int32.ofInt n).toNatClampNeg = (wr n).toNat := rfl
    have hnl : newA σ r1 (wr n) (σ (-1) 0) (-1) = (r1 : Int) := by rw [hnr]; simp
    have hn2 : newA σ r1 (wr n) (σ (-1) 0) (-2) = wr n := by rw [hnr]; simp
    have hnj : ∀ j : Nat, newA σ r1 (wr n) (σ (-1) 0) (j : Int) = 0 := fun j => by
      have k1 : ¬ ((j : Int) = -1) := by omega
      have k2 : ¬ ((j : Int) = -2) := by omega
      rw [hnr]
      simp only [k1, k2, if_false]
    have fin : ∀ H1 : Heap, H1.size = H.size + 1 → (∀ z, z < H.size → H1[z]? = H[z]?) → celR w (newA σ r1 (wr n) (σ (-1) 0)) (adr w (σ (-1) 0)) H1 → W p l e R s m args below meth c H1 locs (cells + 1) (slots + (wr n).toNat) Q (F0 m (pc + 3) arr (.ref H.size :: t.map (cv w))) := by
      intro H1 z1 o1 hcl
      have kz := kk H1 locs arr (cells + 1) (slots + (wr n).toNat) (hR.new hz0 (fun b hb1 hb2 => by funext j; simp only [newA, hb1, hb2, if_false]) z1 o1 hcl) hL hlo (by rw [hz0]; omega) (by rw [hz1]; omega)
      simp only [List.map_cons] at kz
      rw [cv_R w (x := σ (-1) 0) (by omega), hR.adr_size] at kz
      exact kz
    refine W.anew hx hb hown (hts _ hn) (va_AO.use hK.2.2) rfl hd rfl hnn (by rw [hnN]; omega) (by omega) (by rw [hnN]; omega) (fun cA0 kA comp f1 f2 f3 f4 => ?_)
    obtain ⟨kA', comp', k1, k2, k3, k4⟩ := (hK.1.2 3 _ rfl).2
    have hcA : cA0 = wA w 3 := Option.some.inj (f1.symm.trans k4)
    subst hcA
    rw [arrV_new, hnN]
    refine fin _ (by simp) (fun z hz => by rw [Array.getElem?_push, if_neg (Nat.ne_of_lt hz)]) ((celR_23 (by rw [hnl, hr]; rfl)).mpr ?_)
    rw [hR.adr_size, Array.getElem?_push_size, hn2]
    congr 2
    funext j
    rw [hnj j]
    rfl
  · cases ha
set_option maxHeartbeats 4000000 in
set_option maxRecDepth 100000 in
theorem go_ldc {w : WD} {q : MR} {p : Program} {l : Launch} {e : Env} {R : Room} {s : State} {m : MethodId} {args : Array Value} {below : List Frame} {meth : Method} {c : Code} (C : CX w q p s m args meth c) {pc : Nat} {len r1 r2 r3 r4 : Nat} {sw : List (Int × Nat)} {x : Nat} (hd : decode q.2.2.1 pc = .ok (.ldc x, len)) (hc : chkI q pc (.ldc x, len, r1, r2, r3, r4, sw) = true) {ls st : List MV} {σ : HP} {arr : Array Slot} {H : Heap} {locs : List Loc} {cells slots : Nat} {Q : State → Prop} (hR : Rel w σ H) (hL : LR w q.2.2.2.1 ls arr) (hlo : ∀ z ∈ locs, (wH w).size ≤ z.base) {g : Bool} {br : List (Bool × Nat)} {f : Nat} {ls' st' : List MV} {σ' : HP} (ha : act0 pc (.ldc x, len, r1, r2, r3, r4, sw) ls st σ = some (.inl (g, br, f, ls', st', σ'))) (hg : g = true) (hrc : cells + (σ' (-1) 0 - σ (-1) 0).toNat ≤ R.cells) (hrs : slots + (σ' (-1) 1 - σ (-1) 1).toNat ≤ R.slots)
    (kk : ∀ (H' : Heap) (locs' : List Loc) (arr' : Array Slot) (cells' slots' : Nat), Rel w σ' H' → LR w q.2.2.2.1 ls' arr' → (∀ z ∈ locs', (wH w).size ≤ z.base) → cells' = cells + (σ' (-1) 0 - σ (-1) 0).toNat → slots' = slots + (σ' (-1) 1 - σ (-1) 1).toNat → W p l e R s m args below meth c H' locs' cells' slots' Q (F0 m (brTT f br) arr' (st'.map (cv w)))) : W p l e R s m args below meth c H locs cells slots Q (F0 m pc arr (st.map (cv w))) := by
  obtain ⟨hx, hb, hml, hown, hts, hK, hin, how⟩ := C
  simp only [chkI, Bool.and_eq_true] at hc
  have hl : len = 2 := Nat.eq_of_beq_eq_true hc.1
  subst hl
  have hc2 := hc.2
  simp only [act0] at ha
  cases ha
  have kz := kk H locs arr cells slots hR hL hlo (by simp) (by simp)
  split at hc2
  · simp only [Bool.and_eq_true] at hc2
    obtain ⟨h2, h3⟩ := hc2
    rw [h2] at kz
    have hm := List.mem_of_getElem? (of_decide_eq_true h3)
    obtain ⟨own, tx, e1, e2, e3, e4⟩ := sc_ok _ hm
    have hv := hK.2.1.2.2.2.1 _ hm own tx e1 e2
    rw [how] at e1
    cases e1
    simp only [List.map_cons, cond_true] at kz
    dsimp only at e3 e4 hv
    rw [cv_R w (x := (r1 : Int)) (by omega)] at kz
    have ead : adr w (r1 : Int) = wO w (r1 : Int) := by unfold adr; rw [if_pos (by omega)]
    rw [ead] at kz
    exact va_ldcS hx hb hown hv hd kz
  · simp only [Bool.and_eq_true] at hc2
    obtain ⟨h2, h3⟩ := hc2
    have h2 := Nat.eq_of_beq_eq_true h2
    subst h2
    obtain ⟨own, e1, e2⟩ := kc_ok _ (List.mem_of_getElem? (of_decide_eq_true h3))
    rw [how] at e1
    cases e1
    exact lv_ldc hx hb hown (hts _ e2) hd kz
  · cases hc2
set_option maxHeartbeats 4000000 in
theorem ldcw_S {p : Program} {l : Launch} {e : Env} {R : Room} {s : State} {m : MethodId} {args : Array Value} {below : List Frame} {meth : Method} {c : Code} {H : Heap} {locs : List Loc} {cells slots : Nat} {Q : State → Prop} {cc : ByteArray} {pc : Nat} {ls : Array Slot} {rest : List Value} (hexec : p.tables.exec = Jvm.exec) (hb : c.code = cc) {own tx : String} {index a : Nat} (hown : s.vm.findClass own = some m.cls) (hZ : vk_R own index tx a s) (hdg : decode cc pc = .ok (.ldc_w index, 3))
    (k : W p l e R s m args below meth c H locs cells slots Q (F0 m (pc + 3) ls (.ref a :: rest))) : W p l e R s m args below meth c H locs cells slots Q (F0 m pc ls rest) := by
  intro T hT X
  obtain ⟨t, a1, b1⟩ := k T hT X
  refine ⟨t, ?_, b1⟩
  subst hb
  obtain ⟨kk, cf, i, a', hk, hcf, hcp, -, hr, hev'⟩ := Cond.stringRef_spec hown hZ.1
  cases hZ.2.symm.trans hev'
  obtain ⟨k', hk', he⟩ := X.warmed.alike.2.2 _ _ hk
  have hr' : k'.resolved[index]? = some (some (.string a)) := by
    rcases X.warmed.entry hk hk' index with h | ⟨h, -⟩
    · rw [h]; exact hr
    · rw [hr] at h; cases h
  jvm_step X.here [hexec, hdg, ldc_w.wp_string (e := e) (s := T) (f := F0 m pc ls rest) X.here.top hk' (by rw [he]; exact hcf) hcp hr']
  exact a1
set_option maxHeartbeats 4000000 in
set_option maxRecDepth 100000 in
theorem go_ldc_w {w : WD} {q : MR} {p : Program} {l : Launch} {e : Env} {R : Room} {s : State} {m : MethodId} {args : Array Value} {below : List Frame} {meth : Method} {c : Code} (C : CX w q p s m args meth c) {pc : Nat} {len r1 r2 r3 r4 : Nat} {sw : List (Int × Nat)} {x : Nat} (hd : decode q.2.2.1 pc = .ok (.ldc_w x, len)) (hc : chkI q pc (.ldc_w x, len, r1, r2, r3, r4, sw) = true) {ls st : List MV} {σ : HP} {arr : Array Slot} {H : Heap} {locs : List Loc} {cells slots : Nat} {Q : State → Prop} (hR : Rel w σ H) (hL : LR w q.2.2.2.1 ls arr) (hlo : ∀ z ∈ locs, (wH w).size ≤ z.base) {g : Bool} {br : List (Bool × Nat)} {f : Nat} {ls' st' : List MV} {σ' : HP} (ha : act0 pc (.ldc_w x, len, r1, r2, r3, r4, sw) ls st σ = some (.inl (g, br, f, ls', st', σ'))) (hg : g = true) (hrc : cells + (σ' (-1) 0 - σ (-1) 0).toNat ≤ R.cells) (hrs : slots + (σ' (-1) 1 - σ (-1) 1).toNat ≤ R.slots)
    (kk : ∀ (H' : Heap) (locs' : List Loc) (arr' : Array Slot) (cells' slots' : Nat), Rel w σ' H' → LR w q.2.2.2.1 ls' arr' → (∀ z ∈ locs', (wH w).size ≤ z.base) → cells' = cells + (σ' (-1) 0 - σ (-1) 0).toNat → slots' = slots + (σ' (-1) 1 - σ (-1) 1).toNat → W p l e R s m args below meth c H' locs' cells' slots' Q (F0 m (brTT f br) arr' (st'.map (cv w)))) : W p l e R s m args below meth c H locs cells slots Q (F0 m pc arr (st.map (cv w))) := by
  obtain ⟨hx, hb, hml, hown, hts, hK, hin, how⟩ := C
  simp only [chkI, Bool.and_eq_true] at hc
  have hl : len = 3 := Nat.eq_of_beq_eq_true hc.1
  subst hl
  have hc2 := hc.2
  simp only [act0] at ha
  cases ha
  have kz := kk H locs arr cells slots hR hL hlo (by simp) (by simp)
  split at hc2
  · simp only [Bool.and_eq_true] at hc2
    obtain ⟨h2, h3⟩ := hc2
    rw [h2] at kz
    have hm := List.mem_of_getElem? (of_decide_eq_true h3)
    obtain ⟨own, tx, e1, e2, e3, e4⟩ := sc_ok _ hm
    have hv := hK.2.1.2.2.2.1 _ hm own tx e1 e2
    rw [how] at e1
    cases e1
    simp only [List.map_cons, cond_true] at kz
    dsimp only at e3 e4 hv
    rw [cv_R w (x := (r1 : Int)) (by omega)] at kz
    have ead : adr w (r1 : Int) = wO w (r1 : Int) := by unfold adr; rw [if_pos (by omega)]
    rw [ead] at kz
    exact ldcw_S hx hb hown hv hd kz
  · simp only [Bool.and_eq_true] at hc2
    obtain ⟨h2, h3⟩ := hc2
    have h2 := Nat.eq_of_beq_eq_true h2
    subst h2
    obtain ⟨own, e1, e2⟩ := kc_ok _ (List.mem_of_getElem? (of_decide_eq_true h3))
    rw [how] at e1
    cases e1
    exact lv_ldcw hx hb hown (hts _ e2) hd kz
  · cases hc2
set_option maxHeartbeats 4000000 in
set_option maxRecDepth 100000 in
theorem go_ldc2_w {w : WD} {q : MR} {p : Program} {l : Launch} {e : Env} {R : Room} {s : State} {m : MethodId} {args : Array Value} {below : List Frame} {meth : Method} {c : Code} (C : CX w q p s m args meth c) {pc : Nat} {len r1 r2 r3 r4 : Nat} {sw : List (Int × Nat)} {x : Nat} (hd : decode q.2.2.1 pc = .ok (.ldc2_w x, len)) (hc : chkI q pc (.ldc2_w x, len, r1, r2, r3, r4, sw) = true) {ls st : List MV} {σ : HP} {arr : Array Slot} {H : Heap} {locs : List Loc} {cells slots : Nat} {Q : State → Prop} (hR : Rel w σ H) (hL : LR w q.2.2.2.1 ls arr) (hlo : ∀ z ∈ locs, (wH w).size ≤ z.base) {g : Bool} {br : List (Bool × Nat)} {f : Nat} {ls' st' : List MV} {σ' : HP} (ha : act0 pc (.ldc2_w x, len, r1, r2, r3, r4, sw) ls st σ = some (.inl (g, br, f, ls', st', σ'))) (hg : g = true) (hrc : cells + (σ' (-1) 0 - σ (-1) 0).toNat ≤ R.cells) (hrs : slots + (σ' (-1) 1 - σ (-1) 1).toNat ≤ R.slots)
    (kk : ∀ (H' : Heap) (locs' : List Loc) (arr' : Array Slot) (cells' slots' : Nat), Rel w σ' H' → LR w q.2.2.2.1 ls' arr' → (∀ z ∈ locs', (wH w).size ≤ z.base) → cells' = cells + (σ' (-1) 0 - σ (-1) 0).toNat → slots' = slots + (σ' (-1) 1 - σ (-1) 1).toNat → W p l e R s m args below meth c H' locs' cells' slots' Q (F0 m (brTT f br) arr' (st'.map (cv w)))) : W p l e R s m args below meth c H locs cells slots Q (F0 m pc arr (st.map (cv w))) := by
  obtain ⟨hx, hb, hml, hown, hts, hK, hin, how⟩ := C
  simp only [chkI, Bool.and_eq_true] at hc
  have hl : len = 3 := Nat.eq_of_beq_eq_true hc.1
  subst hl
  have hc2 := hc.2
  simp only [act0] at ha
  cases ha
  have kz := kk H locs arr cells slots hR hL hlo (by simp) (by simp)
  split at hc2
  · obtain ⟨own, e1, e2⟩ := kl_ok _ (List.mem_of_getElem? (of_decide_eq_true hc2))
    rw [how] at e1
    cases e1
    exact lv_ldc2 hx hb hown (hts _ e2) hd kz
  · cases hc2
