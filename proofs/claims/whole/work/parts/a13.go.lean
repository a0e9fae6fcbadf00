set_option maxHeartbeats 4000000 in
set_option maxRecDepth 100000 in
theorem go_iconst {w : WD} {q : MR} {p : Program} {l : Launch} {e : Env} {R : Room} {s : State} {m : MethodId} {args : Array Value} {below : List Frame} {meth : Method} {c : Code} (C : CX w q p s m args meth c) {pc : Nat} {len r1 r2 r3 r4 : Nat} {sw : List (Int × Nat)} {v : Int} (hd : decode q.2.2.1 pc = .ok (.iconst v, len)) (hc : chkI q pc (.iconst v, len, r1, r2, r3, r4, sw) = true) {ls st : List MV} {σ : HP} {arr : Array Slot} {H : Heap} {locs : List Loc} {cells slots : Nat} {Q : State → Prop} (hR : Rel w σ H) (hL : LR w q.2.2.2.1 ls arr) (hlo : ∀ z ∈ locs, (wH w).size ≤ z.base) {g : Bool} {br : List (Bool × Nat)} {f : Nat} {ls' st' : List MV} {σ' : HP} (ha : act0 pc (.iconst v, len, r1, r2, r3, r4, sw) ls st σ = some (.inl (g, br, f, ls', st', σ'))) (hg : g = true) (hrc : cells + (σ' (-1) 0 - σ (-1) 0).toNat ≤ R.cells) (hrs : slots + (σ' (-1) 1 - σ (-1) 1).toNat ≤ R.slots)
    (kk : ∀ (H' : Heap) (locs' : List Loc) (arr' : Array Slot) (cells' slots' : Nat), Rel w σ' H' → LR w q.2.2.2.1 ls' arr' → (∀ z ∈ locs', (wH w).size ≤ z.base) → cells' = cells + (σ' (-1) 0 - σ (-1) 0).toNat → slots' = slots + (σ' (-1) 1 - σ (-1) 1).toNat → W p l e R s m args below meth c H' locs' cells' slots' Q (F0 m (brTT f br) arr' (st'.map (cv w)))) : W p l e R s m args below meth c H locs cells slots Q (F0 m pc arr (st.map (cv w))) := by
  obtain ⟨hx, hb, hml, hown, hts, hK, hin, how⟩ := C
  have hl : len = 1 := Nat.eq_of_beq_eq_true hc
  subst hl
  simp only [act0] at ha
  cases ha
  refine lv_iconst hx hb hd rfl ?_
  exact kk H locs arr cells slots hR hL hlo (by simp) (by simp)
set_option maxHeartbeats 4000000 in
set_option maxRecDepth 100000 in
theorem go_bipush {w : WD} {q : MR} {p : Program} {l : Launch} {e : Env} {R : Room} {s : State} {m : MethodId} {args : Array Value} {below : List Frame} {meth : Method} {c : Code} (C : CX w q p s m args meth c) {pc : Nat} {len r1 r2 r3 r4 : Nat} {sw : List (Int × Nat)} {v : Int} (hd : decode q.2.2.1 pc = .ok (.bipush v, len)) (hc : chkI q pc (.bipush v, len, r1, r2, r3, r4, sw) = true) {ls st : List MV} {σ : HP} {arr : Array Slot} {H : Heap} {locs : List Loc} {cells slots : Nat} {Q : State → Prop} (hR : Rel w σ H) (hL : LR w q.2.2.2.1 ls arr) (hlo : ∀ z ∈ locs, (wH w).size ≤ z.base) {g : Bool} {br : List (Bool × Nat)} {f : Nat} {ls' st' : List MV} {σ' : HP} (ha : act0 pc (.bipush v, len, r1, r2, r3, r4, sw) ls st σ = some (.inl (g, br, f, ls', st', σ'))) (hg : g = true) (hrc : cells + (σ' (-1) 0 - σ (-1) 0).toNat ≤ R.cells) (hrs : slots + (σ' (-1) 1 - σ (-1) 1).toNat ≤ R.slots)
    (kk : ∀ (H' : Heap) (locs' : List Loc) (arr' : Array Slot) (cells' slots' : Nat), Rel w σ' H' → LR w q.2.2.2.1 ls' arr' → (∀ z ∈ locs', (wH w).size ≤ z.base) → cells' = cells + (σ' (-1) 0 - σ (-1) 0).toNat → slots' = slots + (σ' (-1) 1 - σ (-1) 1).toNat → W p l e R s m args below meth c H' locs' cells' slots' Q (F0 m (brTT f br) arr' (st'.map (cv w)))) : W p l e R s m args below meth c H locs cells slots Q (F0 m pc arr (st.map (cv w))) := by
  obtain ⟨hx, hb, hml, hown, hts, hK, hin, how⟩ := C
  simp only [chkI, Bool.and_eq_true, decide_eq_true_eq] at hc
  have hl : len = 2 := Nat.eq_of_beq_eq_true hc.1
  subst hl
  simp only [act0] at ha
  cases ha
  refine lv_bipush hx hb hd hc.2 ?_
  exact kk H locs arr cells slots hR hL hlo (by simp) (by simp)
set_option maxHeartbeats 4000000 in
set_option maxRecDepth 100000 in
theorem go_sipush {w : WD} {q : MR} {p : Program} {l : Launch} {e : Env} {R : Room} {s : State} {m : MethodId} {args : Array Value} {below : List Frame} {meth : Method} {c : Code} (C : CX w q p s m args meth c) {pc : Nat} {len r1 r2 r3 r4 : Nat} {sw : List (Int × Nat)} {v : Int} (hd : decode q.2.2.1 pc = .ok (.sipush v, len)) (hc : chkI q pc (.sipush v, len, r1, r2, r3, r4, sw) = true) {ls st : List MV} {σ : HP} {arr : Array Slot} {H : Heap} {locs : List Loc} {cells slots : Nat} {Q : State → Prop} (hR : Rel w σ H) (hL : LR w q.2.2.2.1 ls arr) (hlo : ∀ z ∈ locs, (wH w).size ≤ z.base) {g : Bool} {br : List (Bool × Nat)} {f : Nat} {ls' st' : List MV} {σ' : HP} (ha : act0 pc (.sipush v, len, r1, r2, r3, r4, sw) ls st σ = some (.inl (g, br, f, ls', st', σ'))) (hg : g = true) (hrc : cells + (σ' (-1) 0 - σ (-1) 0).toNat ≤ R.cells) (hrs : slots + (σ' (-1) 1 - σ (-1) 1).toNat ≤ R.slots)
    (kk : ∀ (H' : Heap) (locs' : List Loc) (arr' : Array Slot) (cells' slots' : Nat), Rel w σ' H' → LR w q.2.2.2.1 ls' arr' → (∀ z ∈ locs', (wH w).size ≤ z.base) → cells' = cells + (σ' (-1) 0 - σ (-1) 0).toNat → slots' = slots + (σ' (-1) 1 - σ (-1) 1).toNat → W p l e R s m args below meth c H' locs' cells' slots' Q (F0 m (brTT f br) arr' (st'.map (cv w)))) : W p l e R s m args below meth c H locs cells slots Q (F0 m pc arr (st.map (cv w))) := by
  obtain ⟨hx, hb, hml, hown, hts, hK, hin, how⟩ := C
  simp only [chkI, Bool.and_eq_true, decide_eq_true_eq] at hc
  have hl : len = 3 := Nat.eq_of_beq_eq_true hc.1
  subst hl
  simp only [act0] at ha
  cases ha
  refine lv_sipush hx hb hd hc.2 ?_
  exact kk H locs arr cells slots hR hL hlo (by simp) (by simp)
set_option maxHeartbeats 4000000 in
set_option maxRecDepth 100000 in
theorem go_lconst {w : WD} {q : MR} {p : Program} {l : Launch} {e : Env} {R : Room} {s : State} {m : MethodId} {args : Array Value} {below : List Frame} {meth : Method} {c : Code} (C : CX w q p s m args meth c) {pc : Nat} {len r1 r2 r3 r4 : Nat} {sw : List (Int × Nat)} {v : Fin 2} (hd : decode q.2.2.1 pc = .ok (.lconst v, len)) (hc : chkI q pc (.lconst v, len, r1, r2, r3, r4, sw) = true) {ls st : List MV} {σ : HP} {arr : Array Slot} {H : Heap} {locs : List Loc} {cells slots : Nat} {Q : State → Prop} (hR : Rel w σ H) (hL : LR w q.2.2.2.1 ls arr) (hlo : ∀ z ∈ locs, (wH w).size ≤ z.base) {g : Bool} {br : List (Bool × Nat)} {f : Nat} {ls' st' : List MV} {σ' : HP} (ha : act0 pc (.lconst v, len, r1, r2, r3, r4, sw) ls st σ = some (.inl (g, br, f, ls', st', σ'))) (hg : g = true) (hrc : cells + (σ' (-1) 0 - σ (-1) 0).toNat ≤ R.cells) (hrs : slots + (σ' (-1) 1 - σ (-1) 1).toNat ≤ R.slots)
    (kk : ∀ (H' : Heap) (locs' : List Loc) (arr' : Array Slot) (cells' slots' : Nat), Rel w σ' H' → LR w q.2.2.2.1 ls' arr' → (∀ z ∈ locs', (wH w).size ≤ z.base) → cells' = cells + (σ' (-1) 0 - σ (-1) 0).toNat → slots' = slots + (σ' (-1) 1 - σ (-1) 1).toNat → W p l e R s m args below meth c H' locs' cells' slots' Q (F0 m (brTT f br) arr' (st'.map (cv w)))) : W p l e R s m args below meth c H locs cells slots Q (F0 m pc arr (st.map (cv w))) := by
  obtain ⟨hx, hb, hml, hown, hts, hK, hin, how⟩ := C
  have hl : len = 1 := Nat.eq_of_beq_eq_true hc
  subst hl
  simp only [act0] at ha
  cases ha
  refine lv_lconst hx hb hd rfl ?_
  exact kk H locs arr cells slots hR hL hlo (by simp) (by simp)
set_option maxHeartbeats 4000000 in
set_option maxRecDepth 100000 in
theorem go_aconst_null {w : WD} {q : MR} {p : Program} {l : Launch} {e : Env} {R : Room} {s : State} {m : MethodId} {args : Array Value} {below : List Frame} {meth : Method} {c : Code} (C : CX w q p s m args meth c) {pc : Nat} {len r1 r2 r3 r4 : Nat} {sw : List (Int × Nat)} (hd : decode q.2.2.1 pc = .ok (.aconst_null, len)) (hc : chkI q pc (.aconst_null, len, r1, r2, r3, r4, sw) = true) {ls st : List MV} {σ : HP} {arr : Array Slot} {H : Heap} {locs : List Loc} {cells slots : Nat} {Q : State → Prop} (hR : Rel w σ H) (hL : LR w q.2.2.2.1 ls arr) (hlo : ∀ z ∈ locs, (wH w).size ≤ z.base) {g : Bool} {br : List (Bool × Nat)} {f : Nat} {ls' st' : List MV} {σ' : HP} (ha : act0 pc (.aconst_null, len, r1, r2, r3, r4, sw) ls st σ = some (.inl (g, br, f, ls', st', σ'))) (hg : g = true) (hrc : cells + (σ' (-1) 0 - σ (-1) 0).toNat ≤ R.cells) (hrs : slots + (σ' (-1) 1 - σ (-1) 1).toNat ≤ R.slots)
    (kk : ∀ (H' : Heap) (locs' : List Loc) (arr' : Array Slot) (cells' slots' : Nat), Rel w σ' H' → LR w q.2.2.2.1 ls' arr' → (∀ z ∈ locs', (wH w).size ≤ z.base) → cells' = cells + (σ' (-1) 0 - σ (-1) 0).toNat → slots' = slots + (σ' (-1) 1 - σ (-1) 1).toNat → W p l e R s m args below meth c H' locs' cells' slots' Q (F0 m (brTT f br) arr' (st'.map (cv w)))) : W p l e R s m args below meth c H locs cells slots Q (F0 m pc arr (st.map (cv w))) := by
  obtain ⟨hx, hb, hml, hown, hts, hK, hin, how⟩ := C
  have hl : len = 1 := Nat.eq_of_beq_eq_true hc
  subst hl
  simp only [act0] at ha
  cases ha
  refine lv_null hx hb hd ?_
  exact kk H locs arr cells slots hR hL hlo (by simp) (by simp)
set_option maxHeartbeats 4000000 in
set_option maxRecDepth 100000 in
theorem go_iload_n {w : WD} {q : MR} {p : Program} {l : Launch} {e : Env} {R : Room} {s : State} {m : MethodId} {args : Array Value} {below : List Frame} {meth : Method} {c : Code} (C : CX w q p s m args meth c) {pc : Nat} {len r1 r2 r3 r4 : Nat} {sw : List (Int × Nat)} {k : Fin 4} (hd : decode q.2.2.1 pc = .ok (.iload_n k, len)) (hc : chkI q pc (.iload_n k, len, r1, r2, r3, r4, sw) = true) {ls st : List MV} {σ : HP} {arr : Array Slot} {H : Heap} {locs : List Loc} {cells slots : Nat} {Q : State → Prop} (hR : Rel w σ H) (hL : LR w q.2.2.2.1 ls arr) (hlo : ∀ z ∈ locs, (wH w).size ≤ z.base) {g : Bool} {br : List (Bool × Nat)} {f : Nat} {ls' st' : List MV} {σ' : HP} (ha : act0 pc (.iload_n k, len, r1, r2, r3, r4, sw) ls st σ = some (.inl (g, br, f, ls', st', σ'))) (hg : g = true) (hrc : cells + (σ' (-1) 0 - σ (-1) 0).toNat ≤ R.cells) (hrs : slots + (σ' (-1) 1 - σ (-1) 1).toNat ≤ R.slots)
    (kk : ∀ (H' : Heap) (locs' : List Loc) (arr' : Array Slot) (cells' slots' : Nat), Rel w σ' H' → LR w q.2.2.2.1 ls' arr' → (∀ z ∈ locs', (wH w).size ≤ z.base) → cells' = cells + (σ' (-1) 0 - σ (-1) 0).toNat → slots' = slots + (σ' (-1) 1 - σ (-1) 1).toNat → W p l e R s m args below meth c H' locs' cells' slots' Q (F0 m (brTT f br) arr' (st'.map (cv w)))) : W p l e R s m args below meth c H locs cells slots Q (F0 m pc arr (st.map (cv w))) := by
  obtain ⟨hx, hb, hml, hown, hts, hK, hin, how⟩ := C
  have hl : len = 1 := Nat.eq_of_beq_eq_true hc
  subst hl
  simp only [act0] at ha
  split at ha
  · cases ha
    refine lv_iload_n hx hb hd rfl (hL.at ‹_› (fun h => by cases h)) ?_
    exact kk H locs arr cells slots hR hL hlo (by simp) (by simp)
  · cases ha
set_option maxHeartbeats 4000000 in
set_option maxRecDepth 100000 in
theorem go_iload {w : WD} {q : MR} {p : Program} {l : Launch} {e : Env} {R : Room} {s : State} {m : MethodId} {args : Array Value} {below : List Frame} {meth : Method} {c : Code} (C : CX w q p s m args meth c) {pc : Nat} {len r1 r2 r3 r4 : Nat} {sw : List (Int × Nat)} {k : Nat} (hd : decode q.2.2.1 pc = .ok (.iload k, len)) (hc : chkI q pc (.iload k, len, r1, r2, r3, r4, sw) = true) {ls st : List MV} {σ : HP} {arr : Array Slot} {H : Heap} {locs : List Loc} {cells slots : Nat} {Q : State → Prop} (hR : Rel w σ H) (hL : LR w q.2.2.2.1 ls arr) (hlo : ∀ z ∈ locs, (wH w).size ≤ z.base) {g : Bool} {br : List (Bool × Nat)} {f : Nat} {ls' st' : List MV} {σ' : HP} (ha : act0 pc (.iload k, len, r1, r2, r3, r4, sw) ls st σ = some (.inl (g, br, f, ls', st', σ'))) (hg : g = true) (hrc : cells + (σ' (-1) 0 - σ (-1) 0).toNat ≤ R.cells) (hrs : slots + (σ' (-1) 1 - σ (-1) 1).toNat ≤ R.slots)
    (kk : ∀ (H' : Heap) (locs' : List Loc) (arr' : Array Slot) (cells' slots' : Nat), Rel w σ' H' → LR w q.2.2.2.1 ls' arr' → (∀ z ∈ locs', (wH w).size ≤ z.base) → cells' = cells + (σ' (-1) 0 - σ (-1) 0).toNat → slots' = slots + (σ' (-1) 1 - σ (-1) 1).toNat → W p l e R s m args below meth c H' locs' cells' slots' Q (F0 m (brTT f br) arr' (st'.map (cv w)))) : W p l e R s m args below meth c H locs cells slots Q (F0 m pc arr (st.map (cv w))) := by
  obtain ⟨hx, hb, hml, hown, hts, hK, hin, how⟩ := C
  have hl : len = 2 := Nat.eq_of_beq_eq_true hc
  subst hl
  simp only [act0] at ha
  split at ha
  · cases ha
    refine lv_iload hx hb hd (hL.at ‹_› (fun h => by cases h)) ?_
    exact kk H locs arr cells slots hR hL hlo (by simp) (by simp)
  · cases ha
set_option maxHeartbeats 4000000 in
set_option maxRecDepth 100000 in
theorem go_lload_n {w : WD} {q : MR} {p : Program} {l : Launch} {e : Env} {R : Room} {s : State} {m : MethodId} {args : Array Value} {below : List Frame} {meth : Method} {c : Code} (C : CX w q p s m args meth c) {pc : Nat} {len r1 r2 r3 r4 : Nat} {sw : List (Int × Nat)} {k : Fin 4} (hd : decode q.2.2.1 pc = .ok (.lload_n k, len)) (hc : chkI q pc (.lload_n k, len, r1, r2, r3, r4, sw) = true) {ls st : List MV} {σ : HP} {arr : Array Slot} {H : Heap} {locs : List Loc} {cells slots : Nat} {Q : State → Prop} (hR : Rel w σ H) (hL : LR w q.2.2.2.1 ls arr) (hlo : ∀ z ∈ locs, (wH w).size ≤ z.base) {g : Bool} {br : List (Bool × Nat)} {f : Nat} {ls' st' : List MV} {σ' : HP} (ha : act0 pc (.lload_n k, len, r1, r2, r3, r4, sw) ls st σ = some (.inl (g, br, f, ls', st', σ'))) (hg : g = true) (hrc : cells + (σ' (-1) 0 - σ (-1) 0).toNat ≤ R.cells) (hrs : slots + (σ' (-1) 1 - σ (-1) 1).toNat ≤ R.slots)
    (kk : ∀ (H' : Heap) (locs' : List Loc) (arr' : Array Slot) (cells' slots' : Nat), Rel w σ' H' → LR w q.2.2.2.1 ls' arr' → (∀ z ∈ locs', (wH w).size ≤ z.base) → cells' = cells + (σ' (-1) 0 - σ (-1) 0).toNat → slots' = slots + (σ' (-1) 1 - σ (-1) 1).toNat → W p l e R s m args below meth c H' locs' cells' slots' Q (F0 m (brTT f br) arr' (st'.map (cv w)))) : W p l e R s m args below meth c H locs cells slots Q (F0 m pc arr (st.map (cv w))) := by
  obtain ⟨hx, hb, hml, hown, hts, hK, hin, how⟩ := C
  have hl : len = 1 := Nat.eq_of_beq_eq_true hc
  subst hl
  simp only [act0] at ha
  split at ha
  · cases ha
    refine lv_lload_n hx hb hd rfl (hL.at ‹_› (fun h => by cases h)) ?_
    exact kk H locs arr cells slots hR hL hlo (by simp) (by simp)
  · cases ha
set_option maxHeartbeats 4000000 in
set_option maxRecDepth 100000 in
theorem go_lload {w : WD} {q : MR} {p : Program} {l : Launch} {e : Env} {R : Room} {s : State} {m : MethodId} {args : Array Value} {below : List Frame} {meth : Method} {c : Code} (C : CX w q p s m args meth c) {pc : Nat} {len r1 r2 r3 r4 : Nat} {sw : List (Int × Nat)} {k : Nat} (hd : decode q.2.2.1 pc = .ok (.lload k, len)) (hc : chkI q pc (.lload k, len, r1, r2, r3, r4, sw) = true) {ls st : List MV} {σ : HP} {arr : Array Slot} {H : Heap} {locs : List Loc} {cells slots : Nat} {Q : State → Prop} (hR : Rel w σ H) (hL : LR w q.2.2.2.1 ls arr) (hlo : ∀ z ∈ locs, (wH w).size ≤ z.base) {g : Bool} {br : List (Bool × Nat)} {f : Nat} {ls' st' : List MV} {σ' : HP} (ha : act0 pc (.lload k, len, r1, r2, r3, r4, sw) ls st σ = some (.inl (g, br, f, ls', st', σ'))) (hg : g = true) (hrc : cells + (σ' (-1) 0 - σ (-1) 0).toNat ≤ R.cells) (hrs : slots + (σ' (-1) 1 - σ (-1) 1).toNat ≤ R.slots)
    (kk : ∀ (H' : Heap) (locs' : List Loc) (arr' : Array Slot) (cells' slots' : Nat), Rel w σ' H' → LR w q.2.2.2.1 ls' arr' → (∀ z ∈ locs', (wH w).size ≤ z.base) → cells' = cells + (σ' (-1) 0 - σ (-1) 0).toNat → slots' = slots + (σ' (-1) 1 - σ (-1) 1).toNat → W p l e R s m args below meth c H' locs' cells' slots' Q (F0 m (brTT f br) arr' (st'.map (cv w)))) : W p l e R s m args below meth c H locs cells slots Q (F0 m pc arr (st.map (cv w))) := by
  obtain ⟨hx, hb, hml, hown, hts, hK, hin, how⟩ := C
  have hl : len = 2 := Nat.eq_of_beq_eq_true hc
  subst hl
  simp only [act0] at ha
  split at ha
  · cases ha
    refine lv_lload hx hb hd (hL.at ‹_› (fun h => by cases h)) ?_
    exact kk H locs arr cells slots hR hL hlo (by simp) (by simp)
  · cases ha
set_option maxHeartbeats 4000000 in
set_option maxRecDepth 100000 in
theorem go_aload_n {w : WD} {q : MR} {p : Program} {l : Launch} {e : Env} {R : Room} {s : State} {m : MethodId} {args : Array Value} {below : List Frame} {meth : Method} {c : Code} (C : CX w q p s m args meth c) {pc : Nat} {len r1 r2 r3 r4 : Nat} {sw : List (Int × Nat)} {k : Fin 4} (hd : decode q.2.2.1 pc = .ok (.aload_n k, len)) (hc : chkI q pc (.aload_n k, len, r1, r2, r3, r4, sw) = true) {ls st : List MV} {σ : HP} {arr : Array Slot} {H : Heap} {locs : List Loc} {cells slots : Nat} {Q : State → Prop} (hR : Rel w σ H) (hL : LR w q.2.2.2.1 ls arr) (hlo : ∀ z ∈ locs, (wH w).size ≤ z.base) {g : Bool} {br : List (Bool × Nat)} {f : Nat} {ls' st' : List MV} {σ' : HP} (ha : act0 pc (.aload_n k, len, r1, r2, r3, r4, sw) ls st σ = some (.inl (g, br, f, ls', st', σ'))) (hg : g = true) (hrc : cells + (σ' (-1) 0 - σ (-1) 0).toNat ≤ R.cells) (hrs : slots + (σ' (-1) 1 - σ (-1) 1).toNat ≤ R.slots)
    (kk : ∀ (H' : Heap) (locs' : List Loc) (arr' : Array Slot) (cells' slots' : Nat), Rel w σ' H' → LR w q.2.2.2.1 ls' arr' → (∀ z ∈ locs', (wH w).size ≤ z.base) → cells' = cells + (σ' (-1) 0 - σ (-1) 0).toNat → slots' = slots + (σ' (-1) 1 - σ (-1) 1).toNat → W p l e R s m args below meth c H' locs' cells' slots' Q (F0 m (brTT f br) arr' (st'.map (cv w)))) : W p l e R s m args below meth c H locs cells slots Q (F0 m pc arr (st.map (cv w))) := by
  obtain ⟨hx, hb, hml, hown, hts, hK, hin, how⟩ := C
  have hl : len = 1 := Nat.eq_of_beq_eq_true hc
  subst hl
  simp only [act0] at ha
  split at ha
  · rename_i x hv
    cases ha
    have h1 := hL.at hv (fun h => by cases h)
    have kz := kk H locs arr cells slots hR hL hlo (by simp) (by simp)
    by_cases hx0 : x ≤ 0
    · have e := cv_R0 w hx0
      rw [e] at h1
      simp only [List.map_cons, e] at kz
      exact lv_aload_nN hx hb hd rfl h1 kz
    · have e := cv_R w (x := x) (by omega)
      rw [e] at h1
      simp only [List.map_cons, e] at kz
      exact lv_aload_n hx hb hd rfl h1 kz
  · cases ha
set_option maxHeartbeats 4000000 in
set_option maxRecDepth 100000 in
theorem go_aload {w : WD} {q : MR} {p : Program} {l : Launch} {e : Env} {R : Room} {s : State} {m : MethodId} {args : Array Value} {below : List Frame} {meth : Method} {c : Code} (C : CX w q p s m args meth c) {pc : Nat} {len r1 r2 r3 r4 : Nat} {sw : List (Int × Nat)} {k : Nat} (hd : decode q.2.2.1 pc = .ok (.aload k, len)) (hc : chkI q pc (.aload k, len, r1, r2, r3, r4, sw) = true) {ls st : List MV} {σ : HP} {arr : Array Slot} {H : Heap} {locs : List Loc} {cells slots : Nat} {Q : State → Prop} (hR : Rel w σ H) (hL : LR w q.2.2.2.1 ls arr) (hlo : ∀ z ∈ locs, (wH w).size ≤ z.base) {g : Bool} {br : List (Bool × Nat)} {f : Nat} {ls' st' : List MV} {σ' : HP} (ha : act0 pc (.aload k, len, r1, r2, r3, r4, sw) ls st σ = some (.inl (g, br, f, ls', st', σ'))) (hg : g = true) (hrc : cells + (σ' (-1) 0 - σ (-1) 0).toNat ≤ R.cells) (hrs : slots + (σ' (-1) 1 - σ (-1) 1).toNat ≤ R.slots)
    (kk : ∀ (H' : Heap) (locs' : List Loc) (arr' : Array Slot) (cells' slots' : Nat), Rel w σ' H' → LR w q.2.2.2.1 ls' arr' → (∀ z ∈ locs', (wH w).size ≤ z.base) → cells' = cells + (σ' (-1) 0 - σ (-1) 0).toNat → slots' = slots + (σ' (-1) 1 - σ (-1) 1).toNat → W p l e R s m args below meth c H' locs' cells' slots' Q (F0 m (brTT f br) arr' (st'.map (cv w)))) : W p l e R s m args below meth c H locs cells slots Q (F0 m pc arr (st.map (cv w))) := by
  obtain ⟨hx, hb, hml, hown, hts, hK, hin, how⟩ := C
  have hl : len = 2 := Nat.eq_of_beq_eq_true hc
  subst hl
  simp only [act0] at ha
  split at ha
  · rename_i x hv
    cases ha
    have h1 := hL.at hv (fun h => by cases h)
    have kz := kk H locs arr cells slots hR hL hlo (by simp) (by simp)
    by_cases hx0 : x ≤ 0
    · have e := cv_R0 w hx0
      rw [e] at h1
      simp only [List.map_cons, e] at kz
      exact lv_aloadN hx hb hd h1 kz
    · have e := cv_R w (x := x) (by omega)
      rw [e] at h1
      simp only [List.map_cons, e] at kz
      exact lv_aload hx hb hd h1 kz
  · cases ha
set_option maxHeartbeats 4000000 in
set_option maxRecDepth 100000 in
theorem go_istore_n {w : WD} {q : MR} {p : Program} {l : Launch} {e : Env} {R : Room} {s : State} {m : MethodId} {args : Array Value} {below : List Frame} {meth : Method} {c : Code} (C : CX w q p s m args meth c) {pc : Nat} {len r1 r2 r3 r4 : Nat} {sw : List (Int × Nat)} {k : Fin 4} (hd : decode q.2.2.1 pc = .ok (.istore_n k, len)) (hc : chkI q pc (.istore_n k, len, r1, r2, r3, r4, sw) = true) {ls st : List MV} {σ : HP} {arr : Array Slot} {H : Heap} {locs : List Loc} {cells slots : Nat} {Q : State → Prop} (hR : Rel w σ H) (hL : LR w q.2.2.2.1 ls arr) (hlo : ∀ z ∈ locs, (wH w).size ≤ z.base) {g : Bool} {br : List (Bool × Nat)} {f : Nat} {ls' st' : List MV} {σ' : HP} (ha : act0 pc (.istore_n k, len, r1, r2, r3, r4, sw) ls st σ = some (.inl (g, br, f, ls', st', σ'))) (hg : g = true) (hrc : cells + (σ' (-1) 0 - σ (-1) 0).toNat ≤ R.cells) (hrs : slots + (σ' (-1) 1 - σ (-1) 1).toNat ≤ R.slots)
    (kk : ∀ (H' : Heap) (locs' : List Loc) (arr' : Array Slot) (cells' slots' : Nat), Rel w σ' H' → LR w q.2.2.2.1 ls' arr' → (∀ z ∈ locs', (wH w).size ≤ z.base) → cells' = cells + (σ' (-1) 0 - σ (-1) 0).toNat → slots' = slots + (σ' (-1) 1 - σ (-1) 1).toNat → W p l e R s m args below meth c H' locs' cells' slots' Q (F0 m (brTT f br) arr' (st'.map (cv w)))) : W p l e R s m args below meth c H locs cells slots Q (F0 m pc arr (st.map (cv w))) := by
  obtain ⟨hx, hb, hml, hown, hts, hK, hin, how⟩ := C
  have hl : len = 1 := Nat.eq_of_beq_eq_true hc
  subst hl
  simp only [act0] at ha
  split at ha
  · split at ha
    · rename_i l hv
      cases ha
      obtain ⟨h1, h2⟩ := hL.st1 hv
      exact lv_istore_n hx hb hd rfl hL.2 h1 rfl (fun arr' h' => kk H locs arr' cells slots hR (h2 arr' h') hlo (by simp) (by simp))
    · cases ha
  · cases ha
set_option maxHeartbeats 4000000 in
set_option maxRecDepth 100000 in
theorem go_istore {w : WD} {q : MR} {p : Program} {l : Launch} {e : Env} {R : Room} {s : State} {m : MethodId} {args : Array Value} {below : List Frame} {meth : Method} {c : Code} (C : CX w q p s m args meth c) {pc : Nat} {len r1 r2 r3 r4 : Nat} {sw : List (Int × Nat)} {k : Nat} (hd : decode q.2.2.1 pc = .ok (.istore k, len)) (hc : chkI q pc (.istore k, len, r1, r2, r3, r4, sw) = true) {ls st : List MV} {σ : HP} {arr : Array Slot} {H : Heap} {locs : List Loc} {cells slots : Nat} {Q : State → Prop} (hR : Rel w σ H) (hL : LR w q.2.2.2.1 ls arr) (hlo : ∀ z ∈ locs, (wH w).size ≤ z.base) {g : Bool} {br : List (Bool × Nat)} {f : Nat} {ls' st' : List MV} {σ' : HP} (ha : act0 pc (.istore k, len, r1, r2, r3, r4, sw) ls st σ = some (.inl (g, br, f, ls', st', σ'))) (hg : g = true) (hrc : cells + (σ' (-1) 0 - σ (-1) 0).toNat ≤ R.cells) (hrs : slots + (σ' (-1) 1 - σ (-1) 1).toNat ≤ R.slots)
    (kk : ∀ (H' : Heap) (locs' : List Loc) (arr' : Array Slot) (cells' slots' : Nat), Rel w σ' H' → LR w q.2.2.2.1 ls' arr' → (∀ z ∈ locs', (wH w).size ≤ z.base) → cells' = cells + (σ' (-1) 0 - σ (-1) 0).toNat → slots' = slots + (σ' (-1) 1 - σ (-1) 1).toNat → W p l e R s m args below meth c H' locs' cells' slots' Q (F0 m (brTT f br) arr' (st'.map (cv w)))) : W p l e R s m args below meth c H locs cells slots Q (F0 m pc arr (st.map (cv w))) := by
  obtain ⟨hx, hb, hml, hown, hts, hK, hin, how⟩ := C
  have hl : len = 2 := Nat.eq_of_beq_eq_true hc
  subst hl
  simp only [act0] at ha
  split at ha
  · split at ha
    · rename_i l hv
      cases ha
      obtain ⟨h1, h2⟩ := hL.st1 hv
      exact lv_istore hx hb hd hL.2 h1 rfl (fun arr' h' => kk H locs arr' cells slots hR (h2 arr' h') hlo (by simp) (by simp))
    · cases ha
  · cases ha
set_option maxHeartbeats 4000000 in
set_option maxRecDepth 100000 in
theorem go_lstore_n {w : WD} {q : MR} {p : Program} {l : Launch} {e : Env} {R : Room} {s : State} {m : MethodId} {args : Array Value} {below : List Frame} {meth : Method} {c : Code} (C : CX w q p s m args meth c) {pc : Nat} {len r1 r2 r3 r4 : Nat} {sw : List (Int × Nat)} {k : Fin 4} (hd : decode q.2.2.1 pc = .ok (.lstore_n k, len)) (hc : chkI q pc (.lstore_n k, len, r1, r2, r3, r4, sw) = true) {ls st : List MV} {σ : HP} {arr : Array Slot} {H : Heap} {locs : List Loc} {cells slots : Nat} {Q : State → Prop} (hR : Rel w σ H) (hL : LR w q.2.2.2.1 ls arr) (hlo : ∀ z ∈ locs, (wH w).size ≤ z.base) {g : Bool} {br : List (Bool × Nat)} {f : Nat} {ls' st' : List MV} {σ' : HP} (ha : act0 pc (.lstore_n k, len, r1, r2, r3, r4, sw) ls st σ = some (.inl (g, br, f, ls', st', σ'))) (hg : g = true) (hrc : cells + (σ' (-1) 0 - σ (-1) 0).toNat ≤ R.cells) (hrs : slots + (σ' (-1) 1 - σ (-1) 1).toNat ≤ R.slots)
    (kk : ∀ (H' : Heap) (locs' : List Loc) (arr' : Array Slot) (cells' slots' : Nat), Rel w σ' H' → LR w q.2.2.2.1 ls' arr' → (∀ z ∈ locs', (wH w).size ≤ z.base) → cells' = cells + (σ' (-1) 0 - σ (-1) 0).toNat → slots' = slots + (σ' (-1) 1 - σ (-1) 1).toNat → W p l e R s m args below meth c H' locs' cells' slots' Q (F0 m (brTT f br) arr' (st'.map (cv w)))) : W p l e R s m args below meth c H locs cells slots Q (F0 m pc arr (st.map (cv w))) := by
  obtain ⟨hx, hb, hml, hown, hts, hK, hin, how⟩ := C
  have hl : len = 1 := Nat.eq_of_beq_eq_true hc
  subst hl
  simp only [act0] at ha
  split at ha
  · split at ha
    · rename_i l hv
      cases ha
      obtain ⟨h1, h2⟩ := hL.st2 hv
      exact lv_lstore_n hx hb hd rfl hL.2 h1 rfl (fun arr' h' => kk H locs arr' cells slots hR (h2 arr' h') hlo (by simp) (by simp))
    · cases ha
  · cases ha
set_option maxHeartbeats 4000000 in
set_option maxRecDepth 100000 in
theorem go_lstore {w : WD} {q : MR} {p : Program} {l : Launch} {e : Env} {R : Room} {s : State} {m : MethodId} {args : Array Value} {below : List Frame} {meth : Method} {c : Code} (C : CX w q p s m args meth c) {pc : Nat} {len r1 r2 r3 r4 : Nat} {sw : List (Int × Nat)} {k : Nat} (hd : decode q.2.2.1 pc = .ok (.lstore k, len)) (hc : chkI q pc (.lstore k, len, r1, r2, r3, r4, sw) = true) {ls st : List MV} {σ : HP} {arr : Array Slot} {H : Heap} {locs : List Loc} {cells slots : Nat} {Q : State → Prop} (hR : Rel w σ H) (hL : LR w q.2.2.2.1 ls arr) (hlo : ∀ z ∈ locs, (wH w).size ≤ z.base) {g : Bool} {br : List (Bool × Nat)} {f : Nat} {ls' st' : List MV} {σ' : HP} (ha : act0 pc (.lstore k, len, r1, r2, r3, r4, sw) ls st σ = some (.inl (g, br, f, ls', st', σ'))) (hg : g = true) (hrc : cells + (σ' (-1) 0 - σ (-1) 0).toNat ≤ R.cells) (hrs : slots + (σ' (-1) 1 - σ (-1) 1).toNat ≤ R.slots)
    (kk : ∀ (H' : Heap) (locs' : List Loc) (arr' : Array Slot) (cells' slots' : Nat), Rel w σ' H' → LR w q.2.2.2.1 ls' arr' → (∀ z ∈ locs', (wH w).size ≤ z.base) → cells' = cells + (σ' (-1) 0 - σ (-1) 0).toNat → slots' = slots + (σ' (-1) 1 - σ (-1) 1).toNat → W p l e R s m args below meth c H' locs' cells' slots' Q (F0 m (brTT f br) arr' (st'.map (cv w)))) : W p l e R s m args below meth c H locs cells slots Q (F0 m pc arr (st.map (cv w))) := by
  obtain ⟨hx, hb, hml, hown, hts, hK, hin, how⟩ := C
  have hl : len = 2 := Nat.eq_of_beq_eq_true hc
  subst hl
  simp only [act0] at ha
  split at ha
  · split at ha
    · rename_i l hv
      cases ha
      obtain ⟨h1, h2⟩ := hL.st2 hv
      exact lv_lstore hx hb hd hL.2 h1 rfl (fun arr' h' => kk H locs arr' cells slots hR (h2 arr' h') hlo (by simp) (by simp))
    · cases ha
  · cases ha
set_option maxHeartbeats 4000000 in
set_option maxRecDepth 100000 in
theorem go_astore_n {w : WD} {q : MR} {p : Program} {l : Launch} {e : Env} {R : Room} {s : State} {m : MethodId} {args : Array Value} {below : List Frame} {meth : Method} {c : Code} (C : CX w q p s m args meth c) {pc : Nat} {len r1 r2 r3 r4 : Nat} {sw : List (Int × Nat)} {k : Fin 4} (hd : decode q.2.2.1 pc = .ok (.astore_n k, len)) (hc : chkI q pc (.astore_n k, len, r1, r2, r3, r4, sw) = true) {ls st : List MV} {σ : HP} {arr : Array Slot} {H : Heap} {locs : List Loc} {cells slots : Nat} {Q : State → Prop} (hR : Rel w σ H) (hL : LR w q.2.2.2.1 ls arr) (hlo : ∀ z ∈ locs, (wH w).size ≤ z.base) {g : Bool} {br : List (Bool × Nat)} {f : Nat} {ls' st' : List MV} {σ' : HP} (ha : act0 pc (.astore_n k, len, r1, r2, r3, r4, sw) ls st σ = some (.inl (g, br, f, ls', st', σ'))) (hg : g = true) (hrc : cells + (σ' (-1) 0 - σ (-1) 0).toNat ≤ R.cells) (hrs : slots + (σ' (-1) 1 - σ (-1) 1).toNat ≤ R.slots)
    (kk : ∀ (H' : Heap) (locs' : List Loc) (arr' : Array Slot) (cells' slots' : Nat), Rel w σ' H' → LR w q.2.2.2.1 ls' arr' → (∀ z ∈ locs', (wH w).size ≤ z.base) → cells' = cells + (σ' (-1) 0 - σ (-1) 0).toNat → slots' = slots + (σ' (-1) 1 - σ (-1) 1).toNat → W p l e R s m args below meth c H' locs' cells' slots' Q (F0 m (brTT f br) arr' (st'.map (cv w)))) : W p l e R s m args below meth c H locs cells slots Q (F0 m pc arr (st.map (cv w))) := by
  obtain ⟨hx, hb, hml, hown, hts, hK, hin, how⟩ := C
  have hl : len = 1 := Nat.eq_of_beq_eq_true hc
  subst hl
  simp only [act0] at ha
  split at ha
  · rename_i x t
    split at ha
    · rename_i l hv
      cases ha
      obtain ⟨h1, h2⟩ := hL.st1 hv
      simp only [List.map_cons]
      by_cases hx0 : x ≤ 0
      · have e := cv_R0 w hx0
        rw [e] at h2 ⊢
        exact lv_astore_nN hx hb hd rfl hL.2 h1 rfl (fun arr' h' => kk H locs arr' cells slots hR (h2 arr' h') hlo (by simp) (by simp))
      · have e := cv_R w (x := x) (by omega)
        rw [e] at h2 ⊢
        exact lv_astore_n hx hb hd rfl hL.2 h1 rfl (fun arr' h' => kk H locs arr' cells slots hR (h2 arr' h') hlo (by simp) (by simp))
    · cases ha
  · cases ha
set_option maxHeartbeats 4000000 in
set_option maxRecDepth 100000 in
theorem go_astore {w : WD} {q : MR} {p : Program} {l : Launch} {e : Env} {R : Room} {s : State} {m : MethodId} {args : Array Value} {below : List Frame} {meth : Method} {c : Code} (C : CX w q p s m args meth c) {pc : Nat} {len r1 r2 r3 r4 : Nat} {sw : List (Int × Nat)} {k : Nat} (hd : decode q.2.2.1 pc = .ok (.astore k, len)) (hc : chkI q pc (.astore k, len, r1, r2, r3, r4, sw) = true) {ls st : List MV} {σ : HP} {arr : Array Slot} {H : Heap} {locs : List Loc} {cells slots : Nat} {Q : State → Prop} (hR : Rel w σ H) (hL : LR w q.2.2.2.1 ls arr) (hlo : ∀ z ∈ locs, (wH w).size ≤ z.base) {g : Bool} {br : List (Bool × Nat)} {f : Nat} {ls' st' : List MV} {σ' : HP} (ha : act0 pc (.astore k, len, r1, r2, r3, r4, sw) ls st σ = some (.inl (g, br, f, ls', st', σ'))) (hg : g = true) (hrc : cells + (σ' (-1) 0 - σ (-1) 0).toNat ≤ R.cells) (hrs : slots + (σ' (-1) 1 - σ (-1) 1).toNat ≤ R.slots)
    (kk : ∀ (H' : Heap) (locs' : List Loc) (arr' : Array Slot) (cells' slots' : Nat), Rel w σ' H' → LR w q.2.2.2.1 ls' arr' → (∀ z ∈ locs', (wH w).size ≤ z.base) → cells' = cells + (σ' (-1) 0 - σ (-1) 0).toNat → slots' = slots + (σ' (-1) 1 - σ (-1) 1).toNat → W p l e R s m args below meth c H' locs' cells' slots' Q (F0 m (brTT f br) arr' (st'.map (cv w)))) : W p l e R s m args below meth c H locs cells slots Q (F0 m pc arr (st.map (cv w))) := by
  obtain ⟨hx, hb, hml, hown, hts, hK, hin, how⟩ := C
  have hl : len = 2 := Nat.eq_of_beq_eq_true hc
  subst hl
  simp only [act0] at ha
  split at ha
  · rename_i x t
    split at ha
    · rename_i l hv
      cases ha
      obtain ⟨h1, h2⟩ := hL.st1 hv
      simp only [List.map_cons]
      by_cases hx0 : x ≤ 0
      · have e := cv_R0 w hx0
        rw [e] at h2 ⊢
        exact lv_astoreN hx hb hd hL.2 h1 rfl (fun arr' h' => kk H locs arr' cells slots hR (h2 arr' h') hlo (by simp) (by simp))
      · have e := cv_R w (x := x) (by omega)
        rw [e] at h2 ⊢
        exact lv_astore hx hb hd hL.2 h1 rfl (fun arr' h' => kk H locs arr' cells slots hR (h2 arr' h') hlo (by simp) (by simp))
    · cases ha
  · cases ha
set_option maxHeartbeats 4000000 in
set_option maxRecDepth 100000 in
theorem go_iinc {w : WD} {q : MR} {p : Program} {l : Launch} {e : Env} {R : Room} {s : State} {m : MethodId} {args : Array Value} {below : List Frame} {meth : Method} {c : Code} (C : CX w q p s m args meth c) {pc : Nat} {len r1 r2 r3 r4 : Nat} {sw : List (Int × Nat)} {k : Nat} {n : Int} (hd : decode q.2.2.1 pc = .ok (.iinc k n, len)) (hc : chkI q pc (.iinc k n, len, r1, r2, r3, r4, sw) = true) {ls st : List MV} {σ : HP} {arr : Array Slot} {H : Heap} {locs : List Loc} {cells slots : Nat} {Q : State → Prop} (hR : Rel w σ H) (hL : LR w q.2.2.2.1 ls arr) (hlo : ∀ z ∈ locs, (wH w).size ≤ z.base) {g : Bool} {br : List (Bool × Nat)} {f : Nat} {ls' st' : List MV} {σ' : HP} (ha : act0 pc (.iinc k n, len, r1, r2, r3, r4, sw) ls st σ = some (.inl (g, br, f, ls', st', σ'))) (hg : g = true) (hrc : cells + (σ' (-1) 0 - σ (-1) 0).toNat ≤ R.cells) (hrs : slots + (σ' (-1) 1 - σ (-1) 1).toNat ≤ R.slots)
    (kk : ∀ (H' : Heap) (locs' : List Loc) (arr' : Array Slot) (cells' slots' : Nat), Rel w σ' H' → LR w q.2.2.2.1 ls' arr' → (∀ z ∈ locs', (wH w).size ≤ z.base) → cells' = cells + (σ' (-1) 0 - σ (-1) 0).toNat → slots' = slots + (σ' (-1) 1 - σ (-1) 1).toNat → W p l e R s m args below meth c H' locs' cells' slots' Q (F0 m (brTT f br) arr' (st'.map (cv w)))) : W p l e R s m args below meth c H locs cells slots Q (F0 m pc arr (st.map (cv w))) := by
  obtain ⟨hx, hb, hml, hown, hts, hK, hin, how⟩ := C
  have hl : len = 3 := Nat.eq_of_beq_eq_true hc
  subst hl
  simp only [act0] at ha
  split at ha
  · rename_i x hv0
    split at ha
    · rename_i l hv
      cases ha
      obtain ⟨h1, h2⟩ := hL.st1 hv
      have hm : (k, cv w (vI x)) ∈ al w 0 ls := (al_mem w ls 0 _).mpr ⟨k, vI x, hv0, (fun h => by cases h), by rw [Nat.zero_add]⟩
      obtain ⟨j, hj⟩ := List.getElem?_of_mem hm
      refine lv_iinc hx hb hd hL.2 (k := j) hj (v := Int32.ofInt (x + n)) (by rw [Int32.ofInt_add]) h1 rfl (fun arr' h' => kk H locs arr' cells slots hR (h2 arr' h') hlo (by simp) (by simp))
    · cases ha
  · cases ha
set_option maxHeartbeats 4000000 in
set_option maxRecDepth 100000 in
theorem go_iadd {w : WD} {q : MR} {p : Program} {l : Launch} {e : Env} {R : Room} {s : State} {m : MethodId} {args : Array Value} {below : List Frame} {meth : Method} {c : Code} (C : CX w q p s m args meth c) {pc : Nat} {len r1 r2 r3 r4 : Nat} {sw : List (Int × Nat)} (hd : decode q.2.2.1 pc = .ok (.iadd, len)) (hc : chkI q pc (.iadd, len, r1, r2, r3, r4, sw) = true) {ls st : List MV} {σ : HP} {arr : Array Slot} {H : Heap} {locs : List Loc} {cells slots : Nat} {Q : State → Prop} (hR : Rel w σ H) (hL : LR w q.2.2.2.1 ls arr) (hlo : ∀ z ∈ locs, (wH w).size ≤ z.base) {g : Bool} {br : List (Bool × Nat)} {f : Nat} {ls' st' : List MV} {σ' : HP} (ha : act0 pc (.iadd, len, r1, r2, r3, r4, sw) ls st σ = some (.inl (g, br, f, ls', st', σ'))) (hg : g = true) (hrc : cells + (σ' (-1) 0 - σ (-1) 0).toNat ≤ R.cells) (hrs : slots + (σ' (-1) 1 - σ (-1) 1).toNat ≤ R.slots)
    (kk : ∀ (H' : Heap) (locs' : List Loc) (arr' : Array Slot) (cells' slots' : Nat), Rel w σ' H' → LR w q.2.2.2.1 ls' arr' → (∀ z ∈ locs', (wH w).size ≤ z.base) → cells' = cells + (σ' (-1) 0 - σ (-1) 0).toNat → slots' = slots + (σ' (-1) 1 - σ (-1) 1).toNat → W p l e R s m args below meth c H' locs' cells' slots' Q (F0 m (brTT f br) arr' (st'.map (cv w)))) : W p l e R s m args below meth c H locs cells slots Q (F0 m pc arr (st.map (cv w))) := by
  obtain ⟨hx, hb, hml, hown, hts, hK, hin, how⟩ := C
  have hl : len = 1 := Nat.eq_of_beq_eq_true hc
  subst hl
  simp only [act0] at ha
  split at ha
  · cases ha
    refine lv_iadd hx hb hd ?_
    rw [← Int32.ofInt_add]
    exact kk H locs arr cells slots hR hL hlo (by simp) (by simp)
  · cases ha
set_option maxHeartbeats 4000000 in
set_option maxRecDepth 100000 in
theorem go_isub {w : WD} {q : MR} {p : Program} {l : Launch} {e : Env} {R : Room} {s : State} {m : MethodId} {args : Array Value} {below : List Frame} {meth : Method} {c : Code} (C : CX w q p s m args meth c) {pc : Nat} {len r1 r2 r3 r4 : Nat} {sw : List (Int × Nat)} (hd : decode q.2.2.1 pc = .ok (.isub, len)) (hc : chkI q pc (.isub, len, r1, r2, r3, r4, sw) = true) {ls st : List MV} {σ : HP} {arr : Array Slot} {H : Heap} {locs : List Loc} {cells slots : Nat} {Q : State → Prop} (hR : Rel w σ H) (hL : LR w q.2.2.2.1 ls arr) (hlo : ∀ z ∈ locs, (wH w).size ≤ z.base) {g : Bool} {br : List (Bool × Nat)} {f : Nat} {ls' st' : List MV} {σ' : HP} (ha : act0 pc (.isub, len, r1, r2, r3, r4, sw) ls st σ = some (.inl (g, br, f, ls', st', σ'))) (hg : g = true) (hrc : cells + (σ' (-1) 0 - σ (-1) 0).toNat ≤ R.cells) (hrs : slots + (σ' (-1) 1 - σ (-1) 1).toNat ≤ R.slots)
    (kk : ∀ (H' : Heap) (locs' : List Loc) (arr' : Array Slot) (cells' slots' : Nat), Rel w σ' H' → LR w q.2.2.2.1 ls' arr' → (∀ z ∈ locs', (wH w).size ≤ z.base) → cells' = cells + (σ' (-1) 0 - σ (-1) 0).toNat → slots' = slots + (σ' (-1) 1 - σ (-1) 1).toNat → W p l e R s m args below meth c H' locs' cells' slots' Q (F0 m (brTT f br) arr' (st'.map (cv w)))) : W p l e R s m args below meth c H locs cells slots Q (F0 m pc arr (st.map (cv w))) := by
  obtain ⟨hx, hb, hml, hown, hts, hK, hin, how⟩ := C
  have hl : len = 1 := Nat.eq_of_beq_eq_true hc
  subst hl
  simp only [act0] at ha
  split at ha
  · cases ha
    refine lv_isub hx hb hd ?_
    rw [← Int32.ofInt_sub]
    exact kk H locs arr cells slots hR hL hlo (by simp) (by simp)
  · cases ha
set_option maxHeartbeats 4000000 in
set_option maxRecDepth 100000 in
theorem go_imul {w : WD} {q : MR} {p : Program} {l : Launch} {e : Env} {R : Room} {s : State} {m : MethodId} {args : Array Value} {below : List Frame} {meth : Method} {c : Code} (C : CX w q p s m args meth c) {pc : Nat} {len r1 r2 r3 r4 : Nat} {sw : List (Int × Nat)} (hd : decode q.2.2.1 pc = .ok (.imul, len)) (hc : chkI q pc (.imul, len, r1, r2, r3, r4, sw) = true) {ls st : List MV} {σ : HP} {arr : Array Slot} {H : Heap} {locs : List Loc} {cells slots : Nat} {Q : State → Prop} (hR : Rel w σ H) (hL : LR w q.2.2.2.1 ls arr) (hlo : ∀ z ∈ locs, (wH w).size ≤ z.base) {g : Bool} {br : List (Bool × Nat)} {f : Nat} {ls' st' : List MV} {σ' : HP} (ha : act0 pc (.imul, len, r1, r2, r3, r4, sw) ls st σ = some (.inl (g, br, f, ls', st', σ'))) (hg : g = true) (hrc : cells + (σ' (-1) 0 - σ (-1) 0).toNat ≤ R.cells) (hrs : slots + (σ' (-1) 1 - σ (-1) 1).toNat ≤ R.slots)
    (kk : ∀ (H' : Heap) (locs' : List Loc) (arr' : Array Slot) (cells' slots' : Nat), Rel w σ' H' → LR w q.2.2.2.1 ls' arr' → (∀ z ∈ locs', (wH w).size ≤ z.base) → cells' = cells + (σ' (-1) 0 - σ (-1) 0).toNat → slots' = slots + (σ' (-1) 1 - σ (-1) 1).toNat → W p l e R s m args below meth c H' locs' cells' slots' Q (F0 m (brTT f br) arr' (st'.map (cv w)))) : W p l e R s m args below meth c H locs cells slots Q (F0 m pc arr (st.map (cv w))) := by
  obtain ⟨hx, hb, hml, hown, hts, hK, hin, how⟩ := C
  have hl : len = 1 := Nat.eq_of_beq_eq_true hc
  subst hl
  simp only [act0] at ha
  split at ha
  · cases ha
    refine lv_imul hx hb hd ?_
    rw [← Int32.ofInt_mul]
    exact kk H locs arr cells slots hR hL hlo (by simp) (by simp)
  · cases ha
set_option maxHeartbeats 4000000 in
set_option maxRecDepth 100000 in
theorem go_ladd {w : WD} {q : MR} {p : Program} {l : Launch} {e : Env} {R : Room} {s : State} {m : MethodId} {args : Array Value} {below : List Frame} {meth : Method} {c : Code} (C : CX w q p s m args meth c) {pc : Nat} {len r1 r2 r3 r4 : Nat} {sw : List (Int × Nat)} (hd : decode q.2.2.1 pc = .ok (.ladd, len)) (hc : chkI q pc (.ladd, len, r1, r2, r3, r4, sw) = true) {ls st : List MV} {σ : HP} {arr : Array Slot} {H : Heap} {locs : List Loc} {cells slots : Nat} {Q : State → Prop} (hR : Rel w σ H) (hL : LR w q.2.2.2.1 ls arr) (hlo : ∀ z ∈ locs, (wH w).size ≤ z.base) {g : Bool} {br : List (Bool × Nat)} {f : Nat} {ls' st' : List MV} {σ' : HP} (ha : act0 pc (.ladd, len, r1, r2, r3, r4, sw) ls st σ = some (.inl (g, br, f, ls', st', σ'))) (hg : g = true) (hrc : cells + (σ' (-1) 0 - σ (-1) 0).toNat ≤ R.cells) (hrs : slots + (σ' (-1) 1 - σ (-1) 1).toNat ≤ R.slots)
    (kk : ∀ (H' : Heap) (locs' : List Loc) (arr' : Array Slot) (cells' slots' : Nat), Rel w σ' H' → LR w q.2.2.2.1 ls' arr' → (∀ z ∈ locs', (wH w).size ≤ z.base) → cells' = cells + (σ' (-1) 0 - σ (-1) 0).toNat → slots' = slots + (σ' (-1) 1 - σ (-1) 1).toNat → W p l e R s m args below meth c H' locs' cells' slots' Q (F0 m (brTT f br) arr' (st'.map (cv w)))) : W p l e R s m args below meth c H locs cells slots Q (F0 m pc arr (st.map (cv w))) := by
  obtain ⟨hx, hb, hml, hown, hts, hK, hin, how⟩ := C
  have hl : len = 1 := Nat.eq_of_beq_eq_true hc
  subst hl
  simp only [act0] at ha
  split at ha
  · cases ha
    refine lv_ladd hx hb hd ?_
    rw [← Int64.ofInt_add]
    exact kk H locs arr cells slots hR hL hlo (by simp) (by simp)
  · cases ha
set_option maxHeartbeats 4000000 in
set_option maxRecDepth 100000 in
theorem go_lsub {w : WD} {q : MR} {p : Program} {l : Launch} {e : Env} {R : Room} {s : State} {m : MethodId} {args : Array Value} {below : List Frame} {meth : Method} {c : Code} (C : CX w q p s m args meth c) {pc : Nat} {len r1 r2 r3 r4 : Nat} {sw : List (Int × Nat)} (hd : decode q.2.2.1 pc = .ok (.lsub, len)) (hc : chkI q pc (.lsub, len, r1, r2, r3, r4, sw) = true) {ls st : List MV} {σ : HP} {arr : Array Slot} {H : Heap} {locs : List Loc} {cells slots : Nat} {Q : State → Prop} (hR : Rel w σ H) (hL : LR w q.2.2.2.1 ls arr) (hlo : ∀ z ∈ locs, (wH w).size ≤ z.base) {g : Bool} {br : List (Bool × Nat)} {f : Nat} {ls' st' : List MV} {σ' : HP} (ha : act0 pc (.lsub, len, r1, r2, r3, r4, sw) ls st σ = some (.inl (g, br, f, ls', st', σ'))) (hg : g = true) (hrc : cells + (σ' (-1) 0 - σ (-1) 0).toNat ≤ R.cells) (hrs : slots + (σ' (-1) 1 - σ (-1) 1).toNat ≤ R.slots)
    (kk : ∀ (H' : Heap) (locs' : List Loc) (arr' : Array Slot) (cells' slots' : Nat), Rel w σ' H' → LR w q.2.2.2.1 ls' arr' → (∀ z ∈ locs', (wH w).size ≤ z.base) → cells' = cells + (σ' (-1) 0 - σ (-1) 0).toNat → slots' = slots + (σ' (-1) 1 - σ (-1) 1).toNat → W p l e R s m args below meth c H' locs' cells' slots' Q (F0 m (brTT f br) arr' (st'.map (cv w)))) : W p l e R s m args below meth c H locs cells slots Q (F0 m pc arr (st.map (cv w))) := by
  obtain ⟨hx, hb, hml, hown, hts, hK, hin, how⟩ := C
  have hl : len = 1 := Nat.eq_of_beq_eq_true hc
  subst hl
  simp only [act0] at ha
  split at ha
  · cases ha
    refine lv_lsub hx hb hd ?_
    rw [← Int64.ofInt_sub]
    exact kk H locs arr cells slots hR hL hlo (by simp) (by simp)
  · cases ha
set_option maxHeartbeats 4000000 in
set_option maxRecDepth 100000 in
theorem go_ineg {w : WD} {q : MR} {p : Program} {l : Launch} {e : Env} {R : Room} {s : State} {m : MethodId} {args : Array Value} {below : List Frame} {meth : Method} {c : Code} (C : CX w q p s m args meth c) {pc : Nat} {len r1 r2 r3 r4 : Nat} {sw : List (Int × Nat)} (hd : decode q.2.2.1 pc = .ok (.ineg, len)) (hc : chkI q pc (.ineg, len, r1, r2, r3, r4, sw) = true) {ls st : List MV} {σ : HP} {arr : Array Slot} {H : Heap} {locs : List Loc} {cells slots : Nat} {Q : State → Prop} (hR : Rel w σ H) (hL : LR w q.2.2.2.1 ls arr) (hlo : ∀ z ∈ locs, (wH w).size ≤ z.base) {g : Bool} {br : List (Bool × Nat)} {f : Nat} {ls' st' : List MV} {σ' : HP} (ha : act0 pc (.ineg, len, r1, r2, r3, r4, sw) ls st σ = some (.inl (g, br, f, ls', st', σ'))) (hg : g = true) (hrc : cells + (σ' (-1) 0 - σ (-1) 0).toNat ≤ R.cells) (hrs : slots + (σ' (-1) 1 - σ (-1) 1).toNat ≤ R.slots)
    (kk : ∀ (H' : Heap) (locs' : List Loc) (arr' : Array Slot) (cells' slots' : Nat), Rel w σ' H' → LR w q.2.2.2.1 ls' arr' → (∀ z ∈ locs', (wH w).size ≤ z.base) → cells' = cells + (σ' (-1) 0 - σ (-1) 0).toNat → slots' = slots + (σ' (-1) 1 - σ (-1) 1).toNat → W p l e R s m args below meth c H' locs' cells' slots' Q (F0 m (brTT f br) arr' (st'.map (cv w)))) : W p l e R s m args below meth c H locs cells slots Q (F0 m pc arr (st.map (cv w))) := by
  obtain ⟨hx, hb, hml, hown, hts, hK, hin, how⟩ := C
  have hl : len = 1 := Nat.eq_of_beq_eq_true hc
  subst hl
  simp only [act0] at ha
  split at ha
  · cases ha
    refine lv_ineg hx hb hd ?_
    rw [← Int32.ofInt_neg]
    exact kk H locs arr cells slots hR hL hlo (by simp) (by simp)
  · cases ha
set_option maxHeartbeats 4000000 in
set_option maxRecDepth 100000 in
theorem go_iand {w : WD} {q : MR} {p : Program} {l : Launch} {e : Env} {R : Room} {s : State} {m : MethodId} {args : Array Value} {below : List Frame} {meth : Method} {c : Code} (C : CX w q p s m args meth c) {pc : Nat} {len r1 r2 r3 r4 : Nat} {sw : List (Int × Nat)} (hd : decode q.2.2.1 pc = .ok (.iand, len)) (hc : chkI q pc (.iand, len, r1, r2, r3, r4, sw) = true) {ls st : List MV} {σ : HP} {arr : Array Slot} {H : Heap} {locs : List Loc} {cells slots : Nat} {Q : State → Prop} (hR : Rel w σ H) (hL : LR w q.2.2.2.1 ls arr) (hlo : ∀ z ∈ locs, (wH w).size ≤ z.base) {g : Bool} {br : List (Bool × Nat)} {f : Nat} {ls' st' : List MV} {σ' : HP} (ha : act0 pc (.iand, len, r1, r2, r3, r4, sw) ls st σ = some (.inl (g, br, f, ls', st', σ'))) (hg : g = true) (hrc : cells + (σ' (-1) 0 - σ (-1) 0).toNat ≤ R.cells) (hrs : slots + (σ' (-1) 1 - σ (-1) 1).toNat ≤ R.slots)
    (kk : ∀ (H' : Heap) (locs' : List Loc) (arr' : Array Slot) (cells' slots' : Nat), Rel w σ' H' → LR w q.2.2.2.1 ls' arr' → (∀ z ∈ locs', (wH w).size ≤ z.base) → cells' = cells + (σ' (-1) 0 - σ (-1) 0).toNat → slots' = slots + (σ' (-1) 1 - σ (-1) 1).toNat → W p l e R s m args below meth c H' locs' cells' slots' Q (F0 m (brTT f br) arr' (st'.map (cv w)))) : W p l e R s m args below meth c H locs cells slots Q (F0 m pc arr (st.map (cv w))) := by
  obtain ⟨hx, hb, hml, hown, hts, hK, hin, how⟩ := C
  have hl : len = 1 := Nat.eq_of_beq_eq_true hc
  subst hl
  simp only [act0] at ha
  split at ha
  · cases ha
    have kz := kk H locs arr cells slots hR hL hlo (by simp) (by simp)
    simp only [List.map_cons, cv_I, cv_L, i_and, o32, o64] at kz
    exact lv_iand hx hb hd kz
  · cases ha
set_option maxHeartbeats 4000000 in
set_option maxRecDepth 100000 in
theorem go_ior {w : WD} {q : MR} {p : Program} {l : Launch} {e : Env} {R : Room} {s : State} {m : MethodId} {args : Array Value} {below : List Frame} {meth : Method} {c : Code} (C : CX w q p s m args meth c) {pc : Nat} {len r1 r2 r3 r4 : Nat} {sw : List (Int × Nat)} (hd : decode q.2.2.1 pc = .ok (.ior, len)) (hc : chkI q pc (.ior, len, r1, r2, r3, r4, sw) = true) {ls st : List MV} {σ : HP} {arr : Array Slot} {H : Heap} {locs : List Loc} {cells slots : Nat} {Q : State → Prop} (hR : Rel w σ H) (hL : LR w q.2.2.2.1 ls arr) (hlo : ∀ z ∈ locs, (wH w).size ≤ z.base) {g : Bool} {br : List (Bool × Nat)} {f : Nat} {ls' st' : List MV} {σ' : HP} (ha : act0 pc (.ior, len, r1, r2, r3, r4, sw) ls st σ = some (.inl (g, br, f, ls', st', σ'))) (hg : g = true) (hrc : cells + (σ' (-1) 0 - σ (-1) 0).toNat ≤ R.cells) (hrs : slots + (σ' (-1) 1 - σ (-1) 1).toNat ≤ R.slots)
    (kk : ∀ (H' : Heap) (locs' : List Loc) (arr' : Array Slot) (cells' slots' : Nat), Rel w σ' H' → LR w q.2.2.2.1 ls' arr' → (∀ z ∈ locs', (wH w).size ≤ z.base) → cells' = cells + (σ' (-1) 0 - σ (-1) 0).toNat → slots' = slots + (σ' (-1) 1 - σ (-1) 1).toNat → W p l e R s m args below meth c H' locs' cells' slots' Q (F0 m (brTT f br) arr' (st'.map (cv w)))) : W p l e R s m args below meth c H locs cells slots Q (F0 m pc arr (st.map (cv w))) := by
  obtain ⟨hx, hb, hml, hown, hts, hK, hin, how⟩ := C
  have hl : len = 1 := Nat.eq_of_beq_eq_true hc
  subst hl
  simp only [act0] at ha
  split at ha
  · cases ha
    have kz := kk H locs arr cells slots hR hL hlo (by simp) (by simp)
    simp only [List.map_cons, cv_I, cv_L, i_or, o32, o64] at kz
    exact lv_ior hx hb hd kz
  · cases ha
set_option maxHeartbeats 4000000 in
set_option maxRecDepth 100000 in
theorem go_ixor {w : WD} {q : MR} {p : Program} {l : Launch} {e : Env} {R : Room} {s : State} {m : MethodId} {args : Array Value} {below : List Frame} {meth : Method} {c : Code} (C : CX w q p s m args meth c) {pc : Nat} {len r1 r2 r3 r4 : Nat} {sw : List (Int × Nat)} (hd : decode q.2.2.1 pc = .ok (.ixor, len)) (hc : chkI q pc (.ixor, len, r1, r2, r3, r4, sw) = true) {ls st : List MV} {σ : HP} {arr : Array Slot} {H : Heap} {locs : List Loc} {cells slots : Nat} {Q : State → Prop} (hR : Rel w σ H) (hL : LR w q.2.2.2.1 ls arr) (hlo : ∀ z ∈ locs, (wH w).size ≤ z.base) {g : Bool} {br : List (Bool × Nat)} {f : Nat} {ls' st' : List MV} {σ' : HP} (ha : act0 pc (.ixor, len, r1, r2, r3, r4, sw) ls st σ = some (.inl (g, br, f, ls', st', σ'))) (hg : g = true) (hrc : cells + (σ' (-1) 0 - σ (-1) 0).toNat ≤ R.cells) (hrs : slots + (σ' (-1) 1 - σ (-1) 1).toNat ≤ R.slots)
    (kk : ∀ (H' : Heap) (locs' : List Loc) (arr' : Array Slot) (cells' slots' : Nat), Rel w σ' H' → LR w q.2.2.2.1 ls' arr' → (∀ z ∈ locs', (wH w).size ≤ z.base) → cells' = cells + (σ' (-1) 0 - σ (-1) 0).toNat → slots' = slots + (σ' (-1) 1 - σ (-1) 1).toNat → W p l e R s m args below meth c H' locs' cells' slots' Q (F0 m (brTT f br) arr' (st'.map (cv w)))) : W p l e R s m args below meth c H locs cells slots Q (F0 m pc arr (st.map (cv w))) := by
  obtain ⟨hx, hb, hml, hown, hts, hK, hin, how⟩ := C
  have hl : len = 1 := Nat.eq_of_beq_eq_true hc
  subst hl
  simp only [act0] at ha
  split at ha
  · cases ha
    have kz := kk H locs arr cells slots hR hL hlo (by simp) (by simp)
    simp only [List.map_cons, cv_I, cv_L, i_xor, o32, o64] at kz
    exact lv_ixor hx hb hd kz
  · cases ha
set_option maxHeartbeats 4000000 in
set_option maxRecDepth 100000 in
theorem go_ishl {w : WD} {q : MR} {p : Program} {l : Launch} {e : Env} {R : Room} {s : State} {m : MethodId} {args : Array Value} {below : List Frame} {meth : Method} {c : Code} (C : CX w q p s m args meth c) {pc : Nat} {len r1 r2 r3 r4 : Nat} {sw : List (Int × Nat)} (hd : decode q.2.2.1 pc = .ok (.ishl, len)) (hc : chkI q pc (.ishl, len, r1, r2, r3, r4, sw) = true) {ls st : List MV} {σ : HP} {arr : Array Slot} {H : Heap} {locs : List Loc} {cells slots : Nat} {Q : State → Prop} (hR : Rel w σ H) (hL : LR w q.2.2.2.1 ls arr) (hlo : ∀ z ∈ locs, (wH w).size ≤ z.base) {g : Bool} {br : List (Bool × Nat)} {f : Nat} {ls' st' : List MV} {σ' : HP} (ha : act0 pc (.ishl, len, r1, r2, r3, r4, sw) ls st σ = some (.inl (g, br, f, ls', st', σ'))) (hg : g = true) (hrc : cells + (σ' (-1) 0 - σ (-1) 0).toNat ≤ R.cells) (hrs : slots + (σ' (-1) 1 - σ (-1) 1).toNat ≤ R.slots)
    (kk : ∀ (H' : Heap) (locs' : List Loc) (arr' : Array Slot) (cells' slots' : Nat), Rel w σ' H' → LR w q.2.2.2.1 ls' arr' → (∀ z ∈ locs', (wH w).size ≤ z.base) → cells' = cells + (σ' (-1) 0 - σ (-1) 0).toNat → slots' = slots + (σ' (-1) 1 - σ (-1) 1).toNat → W p l e R s m args below meth c H' locs' cells' slots' Q (F0 m (brTT f br) arr' (st'.map (cv w)))) : W p l e R s m args below meth c H locs cells slots Q (F0 m pc arr (st.map (cv w))) := by
  obtain ⟨hx, hb, hml, hown, hts, hK, hin, how⟩ := C
  have hl : len = 1 := Nat.eq_of_beq_eq_true hc
  subst hl
  simp only [act0] at ha
  split at ha
  · cases ha
    have kz := kk H locs arr cells slots hR hL hlo (by simp) (by simp)
    simp only [List.map_cons, cv_I, cv_L, i_shl, o32, o64] at kz
    exact lv_ishl hx hb hd kz
  · cases ha
set_option maxHeartbeats 4000000 in
set_option maxRecDepth 100000 in
theorem go_ishr {w : WD} {q : MR} {p : Program} {l : Launch} {e : Env} {R : Room} {s : State} {m : MethodId} {args : Array Value} {below : List Frame} {meth : Method} {c : Code} (C : CX w q p s m args meth c) {pc : Nat} {len r1 r2 r3 r4 : Nat} {sw : List (Int × Nat)} (hd : decode q.2.2.1 pc = .ok (.ishr, len)) (hc : chkI q pc (.ishr, len, r1, r2, r3, r4, sw) = true) {ls st : List MV} {σ : HP} {arr : Array Slot} {H : Heap} {locs : List Loc} {cells slots : Nat} {Q : State → Prop} (hR : Rel w σ H) (hL : LR w q.2.2.2.1 ls arr) (hlo : ∀ z ∈ locs, (wH w).size ≤ z.base) {g : Bool} {br : List (Bool × Nat)} {f : Nat} {ls' st' : List MV} {σ' : HP} (ha : act0 pc (.ishr, len, r1, r2, r3, r4, sw) ls st σ = some (.inl (g, br, f, ls', st', σ'))) (hg : g = true) (hrc : cells + (σ' (-1) 0 - σ (-1) 0).toNat ≤ R.cells) (hrs : slots + (σ' (-1) 1 - σ (-1) 1).toNat ≤ R.slots)
    (kk : ∀ (H' : Heap) (locs' : List Loc) (arr' : Array Slot) (cells' slots' : Nat), Rel w σ' H' → LR w q.2.2.2.1 ls' arr' → (∀ z ∈ locs', (wH w).size ≤ z.base) → cells' = cells + (σ' (-1) 0 - σ (-1) 0).toNat → slots' = slots + (σ' (-1) 1 - σ (-1) 1).toNat → W p l e R s m args below meth c H' locs' cells' slots' Q (F0 m (brTT f br) arr' (st'.map (cv w)))) : W p l e R s m args below meth c H locs cells slots Q (F0 m pc arr (st.map (cv w))) := by
  obtain ⟨hx, hb, hml, hown, hts, hK, hin, how⟩ := C
  have hl : len = 1 := Nat.eq_of_beq_eq_true hc
  subst hl
  simp only [act0] at ha
  split at ha
  · cases ha
    have kz := kk H locs arr cells slots hR hL hlo (by simp) (by simp)
    simp only [List.map_cons, cv_I, cv_L, i_shr, o32, o64] at kz
    exact lv_ishr hx hb hd kz
  · cases ha
set_option maxHeartbeats 4000000 in
set_option maxRecDepth 100000 in
theorem go_land {w : WD} {q : MR} {p : Program} {l : Launch} {e : Env} {R : Room} {s : State} {m : MethodId} {args : Array Value} {below : List Frame} {meth : Method} {c : Code} (C : CX w q p s m args meth c) {pc : Nat} {len r1 r2 r3 r4 : Nat} {sw : List (Int × Nat)} (hd : decode q.2.2.1 pc = .ok (.land, len)) (hc : chkI q pc (.land, len, r1, r2, r3, r4, sw) = true) {ls st : List MV} {σ : HP} {arr : Array Slot} {H : Heap} {locs : List Loc} {cells slots : Nat} {Q : State → Prop} (hR : Rel w σ H) (hL : LR w q.2.2.2.1 ls arr) (hlo : ∀ z ∈ locs, (wH w).size ≤ z.base) {g : Bool} {br : List (Bool × Nat)} {f : Nat} {ls' st' : List MV} {σ' : HP} (ha : act0 pc (.land, len, r1, r2, r3, r4, sw) ls st σ = some (.inl (g, br, f, ls', st', σ'))) (hg : g = true) (hrc : cells + (σ' (-1) 0 - σ (-1) 0).toNat ≤ R.cells) (hrs : slots + (σ' (-1) 1 - σ (-1) 1).toNat ≤ R.slots)
    (kk : ∀ (H' : Heap) (locs' : List Loc) (arr' : Array Slot) (cells' slots' : Nat), Rel w σ' H' → LR w q.2.2.2.1 ls' arr' → (∀ z ∈ locs', (wH w).size ≤ z.base) → cells' = cells + (σ' (-1) 0 - σ (-1) 0).toNat → slots' = slots + (σ' (-1) 1 - σ (-1) 1).toNat → W p l e R s m args below meth c H' locs' cells' slots' Q (F0 m (brTT f br) arr' (st'.map (cv w)))) : W p l e R s m args below meth c H locs cells slots Q (F0 m pc arr (st.map (cv w))) := by
  obtain ⟨hx, hb, hml, hown, hts, hK, hin, how⟩ := C
  have hl : len = 1 := Nat.eq_of_beq_eq_true hc
  subst hl
  simp only [act0] at ha
  split at ha
  · cases ha
    have kz := kk H locs arr cells slots hR hL hlo (by simp) (by simp)
    simp only [List.map_cons, cv_I, cv_L, l_and, o32, o64] at kz
    exact lv_land hx hb hd kz
  · cases ha
set_option maxHeartbeats 4000000 in
set_option maxRecDepth 100000 in
theorem go_lor {w : WD} {q : MR} {p : Program} {l : Launch} {e : Env} {R : Room} {s : State} {m : MethodId} {args : Array Value} {below : List Frame} {meth : Method} {c : Code} (C : CX w q p s m args meth c) {pc : Nat} {len r1 r2 r3 r4 : Nat} {sw : List (Int × Nat)} (hd : decode q.2.2.1 pc = .ok (.lor, len)) (hc : chkI q pc (.lor, len, r1, r2, r3, r4, sw) = true) {ls st : List MV} {σ : HP} {arr : Array Slot} {H : Heap} {locs : List Loc} {cells slots : Nat} {Q : State → Prop} (hR : Rel w σ H) (hL : LR w q.2.2.2.1 ls arr) (hlo : ∀ z ∈ locs, (wH w).size ≤ z.base) {g : Bool} {br : List (Bool × Nat)} {f : Nat} {ls' st' : List MV} {σ' : HP} (ha : act0 pc (.lor, len, r1, r2, r3, r4, sw) ls st σ = some (.inl (g, br, f, ls', st', σ'))) (hg : g = true) (hrc : cells + (σ' (-1) 0 - σ (-1) 0).toNat ≤ R.cells) (hrs : slots + (σ' (-1) 1 - σ (-1) 1).toNat ≤ R.slots)
    (kk : ∀ (H' : Heap) (locs' : List Loc) (arr' : Array Slot) (cells' slots' : Nat), Rel w σ' H' → LR w q.2.2.2.1 ls' arr' → (∀ z ∈ locs', (wH w).size ≤ z.base) → cells' = cells + (σ' (-1) 0 - σ (-1) 0).toNat → slots' = slots + (σ' (-1) 1 - σ (-1) 1).toNat → W p l e R s m args below meth c H' locs' cells' slots' Q (F0 m (brTT f br) arr' (st'.map (cv w)))) : W p l e R s m args below meth c H locs cells slots Q (F0 m pc arr (st.map (cv w))) := by
  obtain ⟨hx, hb, hml, hown, hts, hK, hin, how⟩ := C
  have hl : len = 1 := Nat.eq_of_beq_eq_true hc
  subst hl
  simp only [act0] at ha
  split at ha
  · cases ha
    have kz := kk H locs arr cells slots hR hL hlo (by simp) (by simp)
    simp only [List.map_cons, cv_I, cv_L, l_or, o32, o64] at kz
    exact lv_lor hx hb hd kz
  · cases ha
set_option maxHeartbeats 4000000 in
set_option maxRecDepth 100000 in
theorem go_iushr {w : WD} {q : MR} {p : Program} {l : Launch} {e : Env} {R : Room} {s : State} {m : MethodId} {args : Array Value} {below : List Frame} {meth : Method} {c : Code} (C : CX w q p s m args meth c) {pc : Nat} {len r1 r2 r3 r4 : Nat} {sw : List (Int × Nat)} (hd : decode q.2.2.1 pc = .ok (.iushr, len)) (hc : chkI q pc (.iushr, len, r1, r2, r3, r4, sw) = true) {ls st : List MV} {σ : HP} {arr : Array Slot} {H : Heap} {locs : List Loc} {cells slots : Nat} {Q : State → Prop} (hR : Rel w σ H) (hL : LR w q.2.2.2.1 ls arr) (hlo : ∀ z ∈ locs, (wH w).size ≤ z.base) {g : Bool} {br : List (Bool × Nat)} {f : Nat} {ls' st' : List MV} {σ' : HP} (ha : act0 pc (.iushr, len, r1, r2, r3, r4, sw) ls st σ = some (.inl (g, br, f, ls', st', σ'))) (hg : g = true) (hrc : cells + (σ' (-1) 0 - σ (-1) 0).toNat ≤ R.cells) (hrs : slots + (σ' (-1) 1 - σ (-1) 1).toNat ≤ R.slots)
    (kk : ∀ (H' : Heap) (locs' : List Loc) (arr' : Array Slot) (cells' slots' : Nat), Rel w σ' H' → LR w q.2.2.2.1 ls' arr' → (∀ z ∈ locs', (wH w).size ≤ z.base) → cells' = cells + (σ' (-1) 0 - σ (-1) 0).toNat → slots' = slots + (σ' (-1) 1 - σ (-1) 1).toNat → W p l e R s m args below meth c H' locs' cells' slots' Q (F0 m (brTT f br) arr' (st'.map (cv w)))) : W p l e R s m args below meth c H locs cells slots Q (F0 m pc arr (st.map (cv w))) := by
  obtain ⟨hx, hb, hml, hown, hts, hK, hin, how⟩ := C
  have hl : len = 1 := Nat.eq_of_beq_eq_true hc
  subst hl
  simp only [act0] at ha
  split at ha
  · cases ha
    refine lv_iushr hx hb hd (o32 _).symm ?_
    exact kk H locs arr cells slots hR hL hlo (by simp) (by simp)
  · cases ha
set_option maxHeartbeats 4000000 in
set_option maxRecDepth 100000 in
theorem go_lushr {w : WD} {q : MR} {p : Program} {l : Launch} {e : Env} {R : Room} {s : State} {m : MethodId} {args : Array Value} {below : List Frame} {meth : Method} {c : Code} (C : CX w q p s m args meth c) {pc : Nat} {len r1 r2 r3 r4 : Nat} {sw : List (Int × Nat)} (hd : decode q.2.2.1 pc = .ok (.lushr, len)) (hc : chkI q pc (.lushr, len, r1, r2, r3, r4, sw) = true) {ls st : List MV} {σ : HP} {arr : Array Slot} {H : Heap} {locs : List Loc} {cells slots : Nat} {Q : State → Prop} (hR : Rel w σ H) (hL : LR w q.2.2.2.1 ls arr) (hlo : ∀ z ∈ locs, (wH w).size ≤ z.base) {g : Bool} {br : List (Bool × Nat)} {f : Nat} {ls' st' : List MV} {σ' : HP} (ha : act0 pc (.lushr, len, r1, r2, r3, r4, sw) ls st σ = some (.inl (g, br, f, ls', st', σ'))) (hg : g = true) (hrc : cells + (σ' (-1) 0 - σ (-1) 0).toNat ≤ R.cells) (hrs : slots + (σ' (-1) 1 - σ (-1) 1).toNat ≤ R.slots)
    (kk : ∀ (H' : Heap) (locs' : List Loc) (arr' : Array Slot) (cells' slots' : Nat), Rel w σ' H' → LR w q.2.2.2.1 ls' arr' → (∀ z ∈ locs', (wH w).size ≤ z.base) → cells' = cells + (σ' (-1) 0 - σ (-1) 0).toNat → slots' = slots + (σ' (-1) 1 - σ (-1) 1).toNat → W p l e R s m args below meth c H' locs' cells' slots' Q (F0 m (brTT f br) arr' (st'.map (cv w)))) : W p l e R s m args below meth c H locs cells slots Q (F0 m pc arr (st.map (cv w))) := by
  obtain ⟨hx, hb, hml, hown, hts, hK, hin, how⟩ := C
  have hl : len = 1 := Nat.eq_of_beq_eq_true hc
  subst hl
  simp only [act0] at ha
  split at ha
  · cases ha
    refine lv_lushr hx hb hd (o64 _).symm ?_
    exact kk H locs arr cells slots hR hL hlo (by simp) (by simp)
  · cases ha
set_option maxHeartbeats 4000000 in
set_option maxRecDepth 100000 in
theorem go_lshl {w : WD} {q : MR} {p : Program} {l : Launch} {e : Env} {R : Room} {s : State} {m : MethodId} {args : Array Value} {below : List Frame} {meth : Method} {c : Code} (C : CX w q p s m args meth c) {pc : Nat} {len r1 r2 r3 r4 : Nat} {sw : List (Int × Nat)} (hd : decode q.2.2.1 pc = .ok (.lshl, len)) (hc : chkI q pc (.lshl, len, r1, r2, r3, r4, sw) = true) {ls st : List MV} {σ : HP} {arr : Array Slot} {H : Heap} {locs : List Loc} {cells slots : Nat} {Q : State → Prop} (hR : Rel w σ H) (hL : LR w q.2.2.2.1 ls arr) (hlo : ∀ z ∈ locs, (wH w).size ≤ z.base) {g : Bool} {br : List (Bool × Nat)} {f : Nat} {ls' st' : List MV} {σ' : HP} (ha : act0 pc (.lshl, len, r1, r2, r3, r4, sw) ls st σ = some (.inl (g, br, f, ls', st', σ'))) (hg : g = true) (hrc : cells + (σ' (-1) 0 - σ (-1) 0).toNat ≤ R.cells) (hrs : slots + (σ' (-1) 1 - σ (-1) 1).toNat ≤ R.slots)
    (kk : ∀ (H' : Heap) (locs' : List Loc) (arr' : Array Slot) (cells' slots' : Nat), Rel w σ' H' → LR w q.2.2.2.1 ls' arr' → (∀ z ∈ locs', (wH w).size ≤ z.base) → cells' = cells + (σ' (-1) 0 - σ (-1) 0).toNat → slots' = slots + (σ' (-1) 1 - σ (-1) 1).toNat → W p l e R s m args below meth c H' locs' cells' slots' Q (F0 m (brTT f br) arr' (st'.map (cv w)))) : W p l e R s m args below meth c H locs cells slots Q (F0 m pc arr (st.map (cv w))) := by
  obtain ⟨hx, hb, hml, hown, hts, hK, hin, how⟩ := C
  have hl : len = 1 := Nat.eq_of_beq_eq_true hc
  subst hl
  simp only [act0] at ha
  split at ha
  · cases ha
    refine lv_lshl hx hb hd (o64 _).symm ?_
    exact kk H locs arr cells slots hR hL hlo (by simp) (by simp)
  · cases ha
set_option maxHeartbeats 4000000 in
set_option maxRecDepth 100000 in
theorem go_lshr {w : WD} {q : MR} {p : Program} {l : Launch} {e : Env} {R : Room} {s : State} {m : MethodId} {args : Array Value} {below : List Frame} {meth : Method} {c : Code} (C : CX w q p s m args meth c) {pc : Nat} {len r1 r2 r3 r4 : Nat} {sw : List (Int × Nat)} (hd : decode q.2.2.1 pc = .ok (.lshr, len)) (hc : chkI q pc (.lshr, len, r1, r2, r3, r4, sw) = true) {ls st : List MV} {σ : HP} {arr : Array Slot} {H : Heap} {locs : List Loc} {cells slots : Nat} {Q : State → Prop} (hR : Rel w σ H) (hL : LR w q.2.2.2.1 ls arr) (hlo : ∀ z ∈ locs, (wH w).size ≤ z.base) {g : Bool} {br : List (Bool × Nat)} {f : Nat} {ls' st' : List MV} {σ' : HP} (ha : act0 pc (.lshr, len, r1, r2, r3, r4, sw) ls st σ = some (.inl (g, br, f, ls', st', σ'))) (hg : g = true) (hrc : cells + (σ' (-1) 0 - σ (-1) 0).toNat ≤ R.cells) (hrs : slots + (σ' (-1) 1 - σ (-1) 1).toNat ≤ R.slots)
    (kk : ∀ (H' : Heap) (locs' : List Loc) (arr' : Array Slot) (cells' slots' : Nat), Rel w σ' H' → LR w q.2.2.2.1 ls' arr' → (∀ z ∈ locs', (wH w).size ≤ z.base) → cells' = cells + (σ' (-1) 0 - σ (-1) 0).toNat → slots' = slots + (σ' (-1) 1 - σ (-1) 1).toNat → W p l e R s m args below meth c H' locs' cells' slots' Q (F0 m (brTT f br) arr' (st'.map (cv w)))) : W p l e R s m args below meth c H locs cells slots Q (F0 m pc arr (st.map (cv w))) := by
  obtain ⟨hx, hb, hml, hown, hts, hK, hin, how⟩ := C
  have hl : len = 1 := Nat.eq_of_beq_eq_true hc
  subst hl
  simp only [act0] at ha
  split at ha
  · cases ha
    refine lv_lshr hx hb hd (o64 _).symm ?_
    exact kk H locs arr cells slots hR hL hlo (by simp) (by simp)
  · cases ha
set_option maxHeartbeats 4000000 in
set_option maxRecDepth 100000 in
theorem go_i2l {w : WD} {q : MR} {p : Program} {l : Launch} {e : Env} {R : Room} {s : State} {m : MethodId} {args : Array Value} {below : List Frame} {meth : Method} {c : Code} (C : CX w q p s m args meth c) {pc : Nat} {len r1 r2 r3 r4 : Nat} {sw : List (Int × Nat)} (hd : decode q.2.2.1 pc = .ok (.i2l, len)) (hc : chkI q pc (.i2l, len, r1, r2, r3, r4, sw) = true) {ls st : List MV} {σ : HP} {arr : Array Slot} {H : Heap} {locs : List Loc} {cells slots : Nat} {Q : State → Prop} (hR : Rel w σ H) (hL : LR w q.2.2.2.1 ls arr) (hlo : ∀ z ∈ locs, (wH w).size ≤ z.base) {g : Bool} {br : List (Bool × Nat)} {f : Nat} {ls' st' : List MV} {σ' : HP} (ha : act0 pc (.i2l, len, r1, r2, r3, r4, sw) ls st σ = some (.inl (g, br, f, ls', st', σ'))) (hg : g = true) (hrc : cells + (σ' (-1) 0 - σ (-1) 0).toNat ≤ R.cells) (hrs : slots + (σ' (-1) 1 - σ (-1) 1).toNat ≤ R.slots)
    (kk : ∀ (H' : Heap) (locs' : List Loc) (arr' : Array Slot) (cells' slots' : Nat), Rel w σ' H' → LR w q.2.2.2.1 ls' arr' → (∀ z ∈ locs', (wH w).size ≤ z.base) → cells' = cells + (σ' (-1) 0 - σ (-1) 0).toNat → slots' = slots + (σ' (-1) 1 - σ (-1) 1).toNat → W p l e R s m args below meth c H' locs' cells' slots' Q (F0 m (brTT f br) arr' (st'.map (cv w)))) : W p l e R s m args below meth c H locs cells slots Q (F0 m pc arr (st.map (cv w))) := by
  obtain ⟨hx, hb, hml, hown, hts, hK, hin, how⟩ := C
  have hl : len = 1 := Nat.eq_of_beq_eq_true hc
  subst hl
  simp only [act0] at ha
  split at ha
  · cases ha
    refine lv_i2l hx hb hd (Int64.ofInt_int32ToInt _).symm ?_
    exact kk H locs arr cells slots hR hL hlo (by simp) (by simp)
  · cases ha
set_option maxHeartbeats 4000000 in
set_option maxRecDepth 100000 in
theorem go_i2b {w : WD} {q : MR} {p : Program} {l : Launch} {e : Env} {R : Room} {s : State} {m : MethodId} {args : Array Value} {below : List Frame} {meth : Method} {c : Code} (C : CX w q p s m args meth c) {pc : Nat} {len r1 r2 r3 r4 : Nat} {sw : List (Int × Nat)} (hd : decode q.2.2.1 pc = .ok (.i2b, len)) (hc : chkI q pc (.i2b, len, r1, r2, r3, r4, sw) = true) {ls st : List MV} {σ : HP} {arr : Array Slot} {H : Heap} {locs : List Loc} {cells slots : Nat} {Q : State → Prop} (hR : Rel w σ H) (hL : LR w q.2.2.2.1 ls arr) (hlo : ∀ z ∈ locs, (wH w).size ≤ z.base) {g : Bool} {br : List (Bool × Nat)} {f : Nat} {ls' st' : List MV} {σ' : HP} (ha : act0 pc (.i2b, len, r1, r2, r3, r4, sw) ls st σ = some (.inl (g, br, f, ls', st', σ'))) (hg : g = true) (hrc : cells + (σ' (-1) 0 - σ (-1) 0).toNat ≤ R.cells) (hrs : slots + (σ' (-1) 1 - σ (-1) 1).toNat ≤ R.slots)
    (kk : ∀ (H' : Heap) (locs' : List Loc) (arr' : Array Slot) (cells' slots' : Nat), Rel w σ' H' → LR w q.2.2.2.1 ls' arr' → (∀ z ∈ locs', (wH w).size ≤ z.base) → cells' = cells + (σ' (-1) 0 - σ (-1) 0).toNat → slots' = slots + (σ' (-1) 1 - σ (-1) 1).toNat → W p l e R s m args below meth c H' locs' cells' slots' Q (F0 m (brTT f br) arr' (st'.map (cv w)))) : W p l e R s m args below meth c H locs cells slots Q (F0 m pc arr (st.map (cv w))) := by
  obtain ⟨hx, hb, hml, hown, hts, hK, hin, how⟩ := C
  have hl : len = 1 := Nat.eq_of_beq_eq_true hc
  subst hl
  simp only [act0] at ha
  split at ha
  · cases ha
    refine lv_i2b hx hb hd (o32 _).symm ?_
    exact kk H locs arr cells slots hR hL hlo (by simp) (by simp)
  · cases ha
set_option maxHeartbeats 4000000 in
set_option maxRecDepth 100000 in
theorem go_l2i {w : WD} {q : MR} {p : Program} {l : Launch} {e : Env} {R : Room} {s : State} {m : MethodId} {args : Array Value} {below : List Frame} {meth : Method} {c : Code} (C : CX w q p s m args meth c) {pc : Nat} {len r1 r2 r3 r4 : Nat} {sw : List (Int × Nat)} (hd : decode q.2.2.1 pc = .ok (.l2i, len)) (hc : chkI q pc (.l2i, len, r1, r2, r3, r4, sw) = true) {ls st : List MV} {σ : HP} {arr : Array Slot} {H : Heap} {locs : List Loc} {cells slots : Nat} {Q : State → Prop} (hR : Rel w σ H) (hL : LR w q.2.2.2.1 ls arr) (hlo : ∀ z ∈ locs, (wH w).size ≤ z.base) {g : Bool} {br : List (Bool × Nat)} {f : Nat} {ls' st' : List MV} {σ' : HP} (ha : act0 pc (.l2i, len, r1, r2, r3, r4, sw) ls st σ = some (.inl (g, br, f, ls', st', σ'))) (hg : g = true) (hrc : cells + (σ' (-1) 0 - σ (-1) 0).toNat ≤ R.cells) (hrs : slots + (σ' (-1) 1 - σ (-1) 1).toNat ≤ R.slots)
    (kk : ∀ (H' : Heap) (locs' : List Loc) (arr' : Array Slot) (cells' slots' : Nat), Rel w σ' H' → LR w q.2.2.2.1 ls' arr' → (∀ z ∈ locs', (wH w).size ≤ z.base) → cells' = cells + (σ' (-1) 0 - σ (-1) 0).toNat → slots' = slots + (σ' (-1) 1 - σ (-1) 1).toNat → W p l e R s m args below meth c H' locs' cells' slots' Q (F0 m (brTT f br) arr' (st'.map (cv w)))) : W p l e R s m args below meth c H locs cells slots Q (F0 m pc arr (st.map (cv w))) := by
  obtain ⟨hx, hb, hml, hown, hts, hK, hin, how⟩ := C
  have hl : len = 1 := Nat.eq_of_beq_eq_true hc
  subst hl
  simp only [act0] at ha
  split at ha
  · cases ha
    refine lv_l2i hx hb hd Int64.toInt32_ofInt ?_
    exact kk H locs arr cells slots hR hL hlo (by simp) (by simp)
  · cases ha
set_option maxHeartbeats 4000000 in
set_option maxRecDepth 100000 in
theorem go_lcmp {w : WD} {q : MR} {p : Program} {l : Launch} {e : Env} {R : Room} {s : State} {m : MethodId} {args : Array Value} {below : List Frame} {meth : Method} {c : Code} (C : CX w q p s m args meth c) {pc : Nat} {len r1 r2 r3 r4 : Nat} {sw : List (Int × Nat)} (hd : decode q.2.2.1 pc = .ok (.lcmp, len)) (hc : chkI q pc (.lcmp, len, r1, r2, r3, r4, sw) = true) {ls st : List MV} {σ : HP} {arr : Array Slot} {H : Heap} {locs : List Loc} {cells slots : Nat} {Q : State → Prop} (hR : Rel w σ H) (hL : LR w q.2.2.2.1 ls arr) (hlo : ∀ z ∈ locs, (wH w).size ≤ z.base) {g : Bool} {br : List (Bool × Nat)} {f : Nat} {ls' st' : List MV} {σ' : HP} (ha : act0 pc (.lcmp, len, r1, r2, r3, r4, sw) ls st σ = some (.inl (g, br, f, ls', st', σ'))) (hg : g = true) (hrc : cells + (σ' (-1) 0 - σ (-1) 0).toNat ≤ R.cells) (hrs : slots + (σ' (-1) 1 - σ (-1) 1).toNat ≤ R.slots)
    (kk : ∀ (H' : Heap) (locs' : List Loc) (arr' : Array Slot) (cells' slots' : Nat), Rel w σ' H' → LR w q.2.2.2.1 ls' arr' → (∀ z ∈ locs', (wH w).size ≤ z.base) → cells' = cells + (σ' (-1) 0 - σ (-1) 0).toNat → slots' = slots + (σ' (-1) 1 - σ (-1) 1).toNat → W p l e R s m args below meth c H' locs' cells' slots' Q (F0 m (brTT f br) arr' (st'.map (cv w)))) : W p l e R s m args below meth c H locs cells slots Q (F0 m pc arr (st.map (cv w))) := by
  obtain ⟨hx, hb, hml, hown, hts, hK, hin, how⟩ := C
  have hl : len = 1 := Nat.eq_of_beq_eq_true hc
  subst hl
  simp only [act0] at ha
  split at ha
  · cases ha
    refine W.lcmp hx hb hd ?_
    rw [← o32 (lg_cmp _ _)]
    exact kk H locs arr cells slots hR hL hlo (by simp) (by simp)
  · cases ha
set_option maxHeartbeats 4000000 in
set_option maxRecDepth 100000 in
theorem go_idiv {w : WD} {q : MR} {p : Program} {l : Launch} {e : Env} {R : Room} {s : State} {m : MethodId} {args : Array Value} {below : List Frame} {meth : Method} {c : Code} (C : CX w q p s m args meth c) {pc : Nat} {len r1 r2 r3 r4 : Nat} {sw : List (Int × Nat)} (hd : decode q.2.2.1 pc = .ok (.idiv, len)) (hc : chkI q pc (.idiv, len, r1, r2, r3, r4, sw) = true) {ls st : List MV} {σ : HP} {arr : Array Slot} {H : Heap} {locs : List Loc} {cells slots : Nat} {Q : State → Prop} (hR : Rel w σ H) (hL : LR w q.2.2.2.1 ls arr) (hlo : ∀ z ∈ locs, (wH w).size ≤ z.base) {g : Bool} {br : List (Bool × Nat)} {f : Nat} {ls' st' : List MV} {σ' : HP} (ha : act0 pc (.idiv, len, r1, r2, r3, r4, sw) ls st σ = some (.inl (g, br, f, ls', st', σ'))) (hg : g = true) (hrc : cells + (σ' (-1) 0 - σ (-1) 0).toNat ≤ R.cells) (hrs : slots + (σ' (-1) 1 - σ (-1) 1).toNat ≤ R.slots)
    (kk : ∀ (H' : Heap) (locs' : List Loc) (arr' : Array Slot) (cells' slots' : Nat), Rel w σ' H' → LR w q.2.2.2.1 ls' arr' → (∀ z ∈ locs', (wH w).size ≤ z.base) → cells' = cells + (σ' (-1) 0 - σ (-1) 0).toNat → slots' = slots + (σ' (-1) 1 - σ (-1) 1).toNat → W p l e R s m args below meth c H' locs' cells' slots' Q (F0 m (brTT f br) arr' (st'.map (cv w)))) : W p l e R s m args below meth c H locs cells slots Q (F0 m pc arr (st.map (cv w))) := by
  obtain ⟨hx, hb, hml, hown, hts, hK, hin, how⟩ := C
  have hl : len = 1 := Nat.eq_of_beq_eq_true hc
  subst hl
  simp only [act0] at ha
  split at ha
  · rename_i y x t
    cases ha
    have hne : ¬ Int32.ofInt y = 0 := fun h => by
      have h2 : wr y = 0 := by unfold wr; rw [h]; rfl
      exact absurd h2 (of_decide_eq_true hg)
    have kz := kk H locs arr cells slots hR hL hlo (by simp) (by simp)
    simp only [List.map_cons, cv_I, i_div, o32] at kz
    exact lv_idiv hx hb hd hne kz
  · cases ha
set_option maxHeartbeats 4000000 in
set_option maxRecDepth 100000 in
theorem go_irem {w : WD} {q : MR} {p : Program} {l : Launch} {e : Env} {R : Room} {s : State} {m : MethodId} {args : Array Value} {below : List Frame} {meth : Method} {c : Code} (C : CX w q p s m args meth c) {pc : Nat} {len r1 r2 r3 r4 : Nat} {sw : List (Int × Nat)} (hd : decode q.2.2.1 pc = .ok (.irem, len)) (hc : chkI q pc (.irem, len, r1, r2, r3, r4, sw) = true) {ls st : List MV} {σ : HP} {arr : Array Slot} {H : Heap} {locs : List Loc} {cells slots : Nat} {Q : State → Prop} (hR : Rel w σ H) (hL : LR w q.2.2.2.1 ls arr) (hlo : ∀ z ∈ locs, (wH w).size ≤ z.base) {g : Bool} {br : List (Bool × Nat)} {f : Nat} {ls' st' : List MV} {σ' : HP} (ha : act0 pc (.irem, len, r1, r2, r3, r4, sw) ls st σ = some (.inl (g, br, f, ls', st', σ'))) (hg : g = true) (hrc : cells + (σ' (-1) 0 - σ (-1) 0).toNat ≤ R.cells) (hrs : slots + (σ' (-1) 1 - σ (-1) 1).toNat ≤ R.slots)
    (kk : ∀ (H' : Heap) (locs' : List Loc) (arr' : Array Slot) (cells' slots' : Nat), Rel w σ' H' → LR w q.2.2.2.1 ls' arr' → (∀ z ∈ locs', (wH w).size ≤ z.base) → cells' = cells + (σ' (-1) 0 - σ (-1) 0).toNat → slots' = slots + (σ' (-1) 1 - σ (-1) 1).toNat → W p l e R s m args below meth c H' locs' cells' slots' Q (F0 m (brTT f br) arr' (st'.map (cv w)))) : W p l e R s m args below meth c H locs cells slots Q (F0 m pc arr (st.map (cv w))) := by
  obtain ⟨hx, hb, hml, hown, hts, hK, hin, how⟩ := C
  have hl : len = 1 := Nat.eq_of_beq_eq_true hc
  subst hl
  simp only [act0] at ha
  split at ha
  · rename_i y x t
    cases ha
    have hne : ¬ Int32.ofInt y = 0 := fun h => by
      have h2 : wr y = 0 := by unfold wr; rw [h]; rfl
      exact absurd h2 (of_decide_eq_true hg)
    have kz := kk H locs arr cells slots hR hL hlo (by simp) (by simp)
    simp only [List.map_cons, cv_I, i_rem, o32] at kz
    exact lv_irem hx hb hd hne kz
  · cases ha
