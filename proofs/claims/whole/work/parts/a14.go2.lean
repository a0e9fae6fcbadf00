theorem wz_eq (x : Int) : wr x = 0 ↔ Int32.ofInt x = 0 := by rw [← wr_0]; exact wr_eq x 0
theorem wz_lt (x : Int) : wr x < 0 ↔ Int32.ofInt x < 0 := by rw [← wr_0]; exact wr_lt x 0
theorem wz_ge (x : Int) : 0 ≤ wr x ↔ 0 ≤ Int32.ofInt x := by rw [← wr_0]; exact wr_le 0 x
theorem wz_gt (x : Int) : 0 < wr x ↔ 0 < Int32.ofInt x := by rw [← wr_0]; exact wr_lt 0 x
theorem wz_le (x : Int) : wr x ≤ 0 ↔ Int32.ofInt x ≤ 0 := by rw [← wr_0]; exact wr_le x 0
theorem brT_1 {b : Bool} {f t : Nat} (h : b = true) : brTT f [(b, t)] = t := by rw [h]; rfl
theorem brT_0 {b : Bool} {f t : Nat} (h : b = false) : brTT f [(b, t)] = f := by rw [h]; rfl
theorem cv_Rc (w : WD) (x : Int) : (cv w (vR x)).category = 1 := by
  by_cases h : x ≤ 0
  · rw [cv_R0 w h]; rfl
  · rw [cv_R w (by omega)]; rfl
theorem ac_int : Jvm.Cond.arrayClass .int ∈ gtb := gw (List.mem_append_right _ (List.mem_of_getElem? (i := 88) (by decide +kernel))) rfl
theorem ac_byte : Jvm.Cond.arrayClass .byte ∈ gtb := gw (List.mem_append_right _ (List.mem_of_getElem? (i := 135) (by decide +kernel))) rfl
theorem ac_boolean : Jvm.Cond.arrayClass .boolean ∈ gtb := gw (List.mem_append_right _ (List.mem_of_getElem? (i := 1103) (by decide +kernel))) rfl
set_option maxHeartbeats 4000000 in
set_option maxRecDepth 100000 in
theorem go_dup {w : WD} {q : MR} {p : Program} {l : Launch} {e : Env} {R : Room} {s : State} {m : MethodId} {args : Array Value} {below : List Frame} {meth : Method} {c : Code} (C : CX w q p s m args meth c) {pc : Nat} {len r1 r2 r3 r4 : Nat} {sw : List (Int × Nat)} (hd : decode q.2.2.1 pc = .ok (.dup, len)) (hc : chkI q pc (.dup, len, r1, r2, r3, r4, sw) = true) {ls st : List MV} {σ : HP} {arr : Array Slot} {H : Heap} {locs : List Loc} {cells slots : Nat} {Q : State → Prop} (hR : Rel w σ H) (hL : LR w q.2.2.2.1 ls arr) (hlo : ∀ z ∈ locs, (wH w).size ≤ z.base) {g : Bool} {br : List (Bool × Nat)} {f : Nat} {ls' st' : List MV} {σ' : HP} (ha : act0 pc (.dup, len, r1, r2, r3, r4, sw) ls st σ = some (.inl (g, br, f, ls', st', σ'))) (hg : g = true) (hrc : cells + (σ' (-1) 0 - σ (-1) 0).toNat ≤ R.cells) (hrs : slots + (σ' (-1) 1 - σ (-1) 1).toNat ≤ R.slots)
    (kk : ∀ (H' : Heap) (locs' : List Loc) (arr' : Array Slot) (cells' slots' : Nat), Rel w σ' H' → LR w q.2.2.2.1 ls' arr' → (∀ z ∈ locs', (wH w).size ≤ z.base) → cells' = cells + (σ' (-1) 0 - σ (-1) 0).toNat → slots' = slots + (σ' (-1) 1 - σ (-1) 1).toNat → W p l e R s m args below meth c H' locs' cells' slots' Q (F0 m (brTT f br) arr' (st'.map (cv w)))) : W p l e R s m args below meth c H locs cells slots Q (F0 m pc arr (st.map (cv w))) := by
  obtain ⟨hx, hb, hml, hown, hts, hK, hin, how⟩ := C
  have hl : len = 1 := Nat.eq_of_beq_eq_true hc
  subst hl
  simp only [act0] at ha
  split at ha
  · cases ha
    refine lv_dup hx hb hd rfl ?_
    exact kk H locs arr cells slots hR hL hlo (by simp) (by simp)
  · rename_i x t
    cases ha
    refine lv_dup hx hb hd (cv_Rc w x) ?_
    exact kk H locs arr cells slots hR hL hlo (by simp) (by simp)
  · cases ha
set_option maxHeartbeats 4000000 in
set_option maxRecDepth 100000 in
theorem go_dup2 {w : WD} {q : MR} {p : Program} {l : Launch} {e : Env} {R : Room} {s : State} {m : MethodId} {args : Array Value} {below : List Frame} {meth : Method} {c : Code} (C : CX w q p s m args meth c) {pc : Nat} {len r1 r2 r3 r4 : Nat} {sw : List (Int × Nat)} (hd : decode q.2.2.1 pc = .ok (.dup2, len)) (hc : chkI q pc (.dup2, len, r1, r2, r3, r4, sw) = true) {ls st : List MV} {σ : HP} {arr : Array Slot} {H : Heap} {locs : List Loc} {cells slots : Nat} {Q : State → Prop} (hR : Rel w σ H) (hL : LR w q.2.2.2.1 ls arr) (hlo : ∀ z ∈ locs, (wH w).size ≤ z.base) {g : Bool} {br : List (Bool × Nat)} {f : Nat} {ls' st' : List MV} {σ' : HP} (ha : act0 pc (.dup2, len, r1, r2, r3, r4, sw) ls st σ = some (.inl (g, br, f, ls', st', σ'))) (hg : g = true) (hrc : cells + (σ' (-1) 0 - σ (-1) 0).toNat ≤ R.cells) (hrs : slots + (σ' (-1) 1 - σ (-1) 1).toNat ≤ R.slots)
    (kk : ∀ (H' : Heap) (locs' : List Loc) (arr' : Array Slot) (cells' slots' : Nat), Rel w σ' H' → LR w q.2.2.2.1 ls' arr' → (∀ z ∈ locs', (wH w).size ≤ z.base) → cells' = cells + (σ' (-1) 0 - σ (-1) 0).toNat → slots' = slots + (σ' (-1) 1 - σ (-1) 1).toNat → W p l e R s m args below meth c H' locs' cells' slots' Q (F0 m (brTT f br) arr' (st'.map (cv w)))) : W p l e R s m args below meth c H locs cells slots Q (F0 m pc arr (st.map (cv w))) := by
  obtain ⟨hx, hb, hml, hown, hts, hK, hin, how⟩ := C
  have hl : len = 1 := Nat.eq_of_beq_eq_true hc
  subst hl
  simp only [act0] at ha
  split at ha
  · rename_i x y t
    cases ha
    refine lv_dup2_11 hx hb hd rfl (cv_Rc w y) ?_
    exact kk H locs arr cells slots hR hL hlo (by simp) (by simp)
  · cases ha
set_option maxHeartbeats 4000000 in
set_option maxRecDepth 100000 in
theorem go_pop {w : WD} {q : MR} {p : Program} {l : Launch} {e : Env} {R : Room} {s : State} {m : MethodId} {args : Array Value} {below : List Frame} {meth : Method} {c : Code} (C : CX w q p s m args meth c) {pc : Nat} {len r1 r2 r3 r4 : Nat} {sw : List (Int × Nat)} (hd : decode q.2.2.1 pc = .ok (.pop, len)) (hc : chkI q pc (.pop, len, r1, r2, r3, r4, sw) = true) {ls st : List MV} {σ : HP} {arr : Array Slot} {H : Heap} {locs : List Loc} {cells slots : Nat} {Q : State → Prop} (hR : Rel w σ H) (hL : LR w q.2.2.2.1 ls arr) (hlo : ∀ z ∈ locs, (wH w).size ≤ z.base) {g : Bool} {br : List (Bool × Nat)} {f : Nat} {ls' st' : List MV} {σ' : HP} (ha : act0 pc (.pop, len, r1, r2, r3, r4, sw) ls st σ = some (.inl (g, br, f, ls', st', σ'))) (hg : g = true) (hrc : cells + (σ' (-1) 0 - σ (-1) 0).toNat ≤ R.cells) (hrs : slots + (σ' (-1) 1 - σ (-1) 1).toNat ≤ R.slots)
    (kk : ∀ (H' : Heap) (locs' : List Loc) (arr' : Array Slot) (cells' slots' : Nat), Rel w σ' H' → LR w q.2.2.2.1 ls' arr' → (∀ z ∈ locs', (wH w).size ≤ z.base) → cells' = cells + (σ' (-1) 0 - σ (-1) 0).toNat → slots' = slots + (σ' (-1) 1 - σ (-1) 1).toNat → W p l e R s m args below meth c H' locs' cells' slots' Q (F0 m (brTT f br) arr' (st'.map (cv w)))) : W p l e R s m args below meth c H locs cells slots Q (F0 m pc arr (st.map (cv w))) := by
  obtain ⟨hx, hb, hml, hown, hts, hK, hin, how⟩ := C
  have hl : len = 1 := Nat.eq_of_beq_eq_true hc
  subst hl
  simp only [act0] at ha
  split at ha
  · cases ha
    refine lv_pop hx hb hd rfl ?_
    exact kk H locs arr cells slots hR hL hlo (by simp) (by simp)
  · rename_i x t
    cases ha
    refine lv_pop hx hb hd (cv_Rc w x) ?_
    exact kk H locs arr cells slots hR hL hlo (by simp) (by simp)
  · cases ha
set_option maxHeartbeats 4000000 in
set_option maxRecDepth 100000 in
theorem go_goto {w : WD} {q : MR} {p : Program} {l : Launch} {e : Env} {R : Room} {s : State} {m : MethodId} {args : Array Value} {below : List Frame} {meth : Method} {c : Code} (C : CX w q p s m args meth c) {pc : Nat} {len r1 r2 r3 r4 : Nat} {sw : List (Int × Nat)} {o : Int} (hd : decode q.2.2.1 pc = .ok (.goto o, len)) (hc : chkI q pc (.goto o, len, r1, r2, r3, r4, sw) = true) {ls st : List MV} {σ : HP} {arr : Array Slot} {H : Heap} {locs : List Loc} {cells slots : Nat} {Q : State → Prop} (hR : Rel w σ H) (hL : LR w q.2.2.2.1 ls arr) (hlo : ∀ z ∈ locs, (wH w).size ≤ z.base) {g : Bool} {br : List (Bool × Nat)} {f : Nat} {ls' st' : List MV} {σ' : HP} (ha : act0 pc (.goto o, len, r1, r2, r3, r4, sw) ls st σ = some (.inl (g, br, f, ls', st', σ'))) (hg : g = true) (hrc : cells + (σ' (-1) 0 - σ (-1) 0).toNat ≤ R.cells) (hrs : slots + (σ' (-1) 1 - σ (-1) 1).toNat ≤ R.slots)
    (kk : ∀ (H' : Heap) (locs' : List Loc) (arr' : Array Slot) (cells' slots' : Nat), Rel w σ' H' → LR w q.2.2.2.1 ls' arr' → (∀ z ∈ locs', (wH w).size ≤ z.base) → cells' = cells + (σ' (-1) 0 - σ (-1) 0).toNat → slots' = slots + (σ' (-1) 1 - σ (-1) 1).toNat → W p l e R s m args below meth c H' locs' cells' slots' Q (F0 m (brTT f br) arr' (st'.map (cv w)))) : W p l e R s m args below meth c H locs cells slots Q (F0 m pc arr (st.map (cv w))) := by
  obtain ⟨hx, hb, hml, hown, hts, hK, hin, how⟩ := C
  simp only [chkI, Bool.and_eq_true, decide_eq_true_eq] at hc
  have hl : len = 3 := Nat.eq_of_beq_eq_true hc.1
  have ht := hc.2
  subst hl
  simp only [act0] at ha
  cases ha
  refine lv_goto (tgt := r1) hx hb hd ht ?_
  exact kk H locs arr cells slots hR hL hlo (by simp) (by simp)
set_option maxHeartbeats 4000000 in
set_option maxRecDepth 100000 in
theorem go_ic_eq {w : WD} {q : MR} {p : Program} {l : Launch} {e : Env} {R : Room} {s : State} {m : MethodId} {args : Array Value} {below : List Frame} {meth : Method} {c : Code} (C : CX w q p s m args meth c) {pc : Nat} {len r1 r2 r3 r4 : Nat} {sw : List (Int × Nat)} {o : Int} (hd : decode q.2.2.1 pc = .ok (.if_icmp .eq o, len)) (hc : chkI q pc (.if_icmp .eq o, len, r1, r2, r3, r4, sw) = true) {ls st : List MV} {σ : HP} {arr : Array Slot} {H : Heap} {locs : List Loc} {cells slots : Nat} {Q : State → Prop} (hR : Rel w σ H) (hL : LR w q.2.2.2.1 ls arr) (hlo : ∀ z ∈ locs, (wH w).size ≤ z.base) {g : Bool} {br : List (Bool × Nat)} {f : Nat} {ls' st' : List MV} {σ' : HP} (ha : act0 pc (.if_icmp .eq o, len, r1, r2, r3, r4, sw) ls st σ = some (.inl (g, br, f, ls', st', σ'))) (hg : g = true) (hrc : cells + (σ' (-1) 0 - σ (-1) 0).toNat ≤ R.cells) (hrs : slots + (σ' (-1) 1 - σ (-1) 1).toNat ≤ R.slots)
    (kk : ∀ (H' : Heap) (locs' : List Loc) (arr' : Array Slot) (cells' slots' : Nat), Rel w σ' H' → LR w q.2.2.2.1 ls' arr' → (∀ z ∈ locs', (wH w).size ≤ z.base) → cells' = cells + (σ' (-1) 0 - σ (-1) 0).toNat → slots' = slots + (σ' (-1) 1 - σ (-1) 1).toNat → W p l e R s m args below meth c H' locs' cells' slots' Q (F0 m (brTT f br) arr' (st'.map (cv w)))) : W p l e R s m args below meth c H locs cells slots Q (F0 m pc arr (st.map (cv w))) := by
  obtain ⟨hx, hb, hml, hown, hts, hK, hin, how⟩ := C
  simp only [chkI, Bool.and_eq_true, decide_eq_true_eq] at hc
  have hl : len = 3 := Nat.eq_of_beq_eq_true hc.1
  have ht := hc.2
  subst hl
  simp only [act0] at ha
  split at ha
  · rename_i y x t
    cases ha
    have kz := kk H locs arr cells slots hR hL hlo (by simp) (by simp)
    refine lv_icmp_eq (tgt := r1) hx hb hd ht (fun h => ?_) (fun h => ?_)
    · rw [brT_1 (show cmpB .eq (wr x) (wr y) = true from decide_eq_true ((wr_eq x y).mpr h))] at kz
      exact kz
    · rw [brT_0 (show cmpB .eq (wr x) (wr y) = false from decide_eq_false (fun z => h ((wr_eq x y).mp z)))] at kz
      exact kz
  · cases ha
set_option maxHeartbeats 4000000 in
set_option maxRecDepth 100000 in
theorem go_ic_ne {w : WD} {q : MR} {p : Program} {l : Launch} {e : Env} {R : Room} {s : State} {m : MethodId} {args : Array Value} {below : List Frame} {meth : Method} {c : Code} (C : CX w q p s m args meth c) {pc : Nat} {len r1 r2 r3 r4 : Nat} {sw : List (Int × Nat)} {o : Int} (hd : decode q.2.2.1 pc = .ok (.if_icmp .ne o, len)) (hc : chkI q pc (.if_icmp .ne o, len, r1, r2, r3, r4, sw) = true) {ls st : List MV} {σ : HP} {arr : Array Slot} {H : Heap} {locs : List Loc} {cells slots : Nat} {Q : State → Prop} (hR : Rel w σ H) (hL : LR w q.2.2.2.1 ls arr) (hlo : ∀ z ∈ locs, (wH w).size ≤ z.base) {g : Bool} {br : List (Bool × Nat)} {f : Nat} {ls' st' : List MV} {σ' : HP} (ha : act0 pc (.if_icmp .ne o, len, r1, r2, r3, r4, sw) ls st σ = some (.inl (g, br, f, ls', st', σ'))) (hg : g = true) (hrc : cells + (σ' (-1) 0 - σ (-1) 0).toNat ≤ R.cells) (hrs : slots + (σ' (-1) 1 - σ (-1) 1).toNat ≤ R.slots)
    (kk : ∀ (H' : Heap) (locs' : List Loc) (arr' : Array Slot) (cells' slots' : Nat), Rel w σ' H' → LR w q.2.2.2.1 ls' arr' → (∀ z ∈ locs', (wH w).size ≤ z.base) → cells' = cells + (σ' (-1) 0 - σ (-1) 0).toNat → slots' = slots + (σ' (-1) 1 - σ (-1) 1).toNat → W p l e R s m args below meth c H' locs' cells' slots' Q (F0 m (brTT f br) arr' (st'.map (cv w)))) : W p l e R s m args below meth c H locs cells slots Q (F0 m pc arr (st.map (cv w))) := by
  obtain ⟨hx, hb, hml, hown, hts, hK, hin, how⟩ := C
  simp only [chkI, Bool.and_eq_true, decide_eq_true_eq] at hc
  have hl : len = 3 := Nat.eq_of_beq_eq_true hc.1
  have ht := hc.2
  subst hl
  simp only [act0] at ha
  split at ha
  · rename_i y x t
    cases ha
    have kz := kk H locs arr cells slots hR hL hlo (by simp) (by simp)
    refine lv_icmp_ne (tgt := r1) hx hb hd ht (fun h => ?_) (fun h => ?_)
    · rw [brT_1 (show cmpB .ne (wr x) (wr y) = true from decide_eq_true ((not_congr (wr_eq x y)).mpr h))] at kz
      exact kz
    · rw [brT_0 (show cmpB .ne (wr x) (wr y) = false from decide_eq_false (fun z => ((not_congr (wr_eq x y)).mp z) h))] at kz
      exact kz
  · cases ha
set_option maxHeartbeats 4000000 in
set_option maxRecDepth 100000 in
theorem go_ic_lt {w : WD} {q : MR} {p : Program} {l : Launch} {e : Env} {R : Room} {s : State} {m : MethodId} {args : Array Value} {below : List Frame} {meth : Method} {c : Code} (C : CX w q p s m args meth c) {pc : Nat} {len r1 r2 r3 r4 : Nat} {sw : List (Int × Nat)} {o : Int} (hd : decode q.2.2.1 pc = .ok (.if_icmp .lt o, len)) (hc : chkI q pc (.if_icmp .lt o, len, r1, r2, r3, r4, sw) = true) {ls st : List MV} {σ : HP} {arr : Array Slot} {H : Heap} {locs : List Loc} {cells slots : Nat} {Q : State → Prop} (hR : Rel w σ H) (hL : LR w q.2.2.2.1 ls arr) (hlo : ∀ z ∈ locs, (wH w).size ≤ z.base) {g : Bool} {br : List (Bool × Nat)} {f : Nat} {ls' st' : List MV} {σ' : HP} (ha : act0 pc (.if_icmp .lt o, len, r1, r2, r3, r4, sw) ls st σ = some (.inl (g, br, f, ls', st', σ'))) (hg : g = true) (hrc : cells + (σ' (-1) 0 - σ (-1) 0).toNat ≤ R.cells) (hrs : slots + (σ' (-1) 1 - σ (-1) 1).toNat ≤ R.slots)
    (kk : ∀ (H' : Heap) (locs' : List Loc) (arr' : Array Slot) (cells' slots' : Nat), Rel w σ' H' → LR w q.2.2.2.1 ls' arr' → (∀ z ∈ locs', (wH w).size ≤ z.base) → cells' = cells + (σ' (-1) 0 - σ (-1) 0).toNat → slots' = slots + (σ' (-1) 1 - σ (-1) 1).toNat → W p l e R s m args below meth c H' locs' cells' slots' Q (F0 m (brTT f br) arr' (st'.map (cv w)))) : W p l e R s m args below meth c H locs cells slots Q (F0 m pc arr (st.map (cv w))) := by
  obtain ⟨hx, hb, hml, hown, hts, hK, hin, how⟩ := C
  simp only [chkI, Bool.and_eq_true, decide_eq_true_eq] at hc
  have hl : len = 3 := Nat.eq_of_beq_eq_true hc.1
  have ht := hc.2
  subst hl
  simp only [act0] at ha
  split at ha
  · rename_i y x t
    cases ha
    have kz := kk H locs arr cells slots hR hL hlo (by simp) (by simp)
    refine lv_icmp_lt (tgt := r1) hx hb hd ht (fun h => ?_) (fun h => ?_)
    · rw [brT_1 (show cmpB .lt (wr x) (wr y) = true from decide_eq_true ((wr_lt x y).mpr h))] at kz
      exact kz
    · rw [brT_0 (show cmpB .lt (wr x) (wr y) = false from decide_eq_false (fun z => h ((wr_lt x y).mp z)))] at kz
      exact kz
  · cases ha
set_option maxHeartbeats 4000000 in
set_option maxRecDepth 100000 in
theorem go_ic_ge {w : WD} {q : MR} {p : Program} {l : Launch} {e : Env} {R : Room} {s : State} {m : MethodId} {args : Array Value} {below : List Frame} {meth : Method} {c : Code} (C : CX w q p s m args meth c) {pc : Nat} {len r1 r2 r3 r4 : Nat} {sw : List (Int × Nat)} {o : Int} (hd : decode q.2.2.1 pc = .ok (.if_icmp .ge o, len)) (hc : chkI q pc (.if_icmp .ge o, len, r1, r2, r3, r4, sw) = true) {ls st : List MV} {σ : HP} {arr : Array Slot} {H : Heap} {locs : List Loc} {cells slots : Nat} {Q : State → Prop} (hR : Rel w σ H) (hL : LR w q.2.2.2.1 ls arr) (hlo : ∀ z ∈ locs, (wH w).size ≤ z.base) {g : Bool} {br : List (Bool × Nat)} {f : Nat} {ls' st' : List MV} {σ' : HP} (ha : act0 pc (.if_icmp .ge o, len, r1, r2, r3, r4, sw) ls st σ = some (.inl (g, br, f, ls', st', σ'))) (hg : g = true) (hrc : cells + (σ' (-1) 0 - σ (-1) 0).toNat ≤ R.cells) (hrs : slots + (σ' (-1) 1 - σ (-1) 1).toNat ≤ R.slots)
    (kk : ∀ (H' : Heap) (locs' : List Loc) (arr' : Array Slot) (cells' slots' : Nat), Rel w σ' H' → LR w q.2.2.2.1 ls' arr' → (∀ z ∈ locs', (wH w).size ≤ z.base) → cells' = cells + (σ' (-1) 0 - σ (-1) 0).toNat → slots' = slots + (σ' (-1) 1 - σ (-1) 1).toNat → W p l e R s m args below meth c H' locs' cells' slots' Q (F0 m (brTT f br) arr' (st'.map (cv w)))) : W p l e R s m args below meth c H locs cells slots Q (F0 m pc arr (st.map (cv w))) := by
  obtain ⟨hx, hb, hml, hown, hts, hK, hin, how⟩ := C
  simp only [chkI, Bool.and_eq_true, decide_eq_true_eq] at hc
  have hl : len = 3 := Nat.eq_of_beq_eq_true hc.1
  have ht := hc.2
  subst hl
  simp only [act0] at ha
  split at ha
  · rename_i y x t
    cases ha
    have kz := kk H locs arr cells slots hR hL hlo (by simp) (by simp)
    refine lv_icmp_ge (tgt := r1) hx hb hd ht (fun h => ?_) (fun h => ?_)
    · rw [brT_1 (show cmpB .ge (wr x) (wr y) = true from decide_eq_true ((wr_le y x).mpr h))] at kz
      exact kz
    · rw [brT_0 (show cmpB .ge (wr x) (wr y) = false from decide_eq_false (fun z => h ((wr_le y x).mp z)))] at kz
      exact kz
  · cases ha
set_option maxHeartbeats 4000000 in
set_option maxRecDepth 100000 in
theorem go_ic_gt {w : WD} {q : MR} {p : Program} {l : Launch} {e : Env} {R : Room} {s : State} {m : MethodId} {args : Array Value} {below : List Frame} {meth : Method} {c : Code} (C : CX w q p s m args meth c) {pc : Nat} {len r1 r2 r3 r4 : Nat} {sw : List (Int × Nat)} {o : Int} (hd : decode q.2.2.1 pc = .ok (.if_icmp .gt o, len)) (hc : chkI q pc (.if_icmp .gt o, len, r1, r2, r3, r4, sw) = true) {ls st : List MV} {σ : HP} {arr : Array Slot} {H : Heap} {locs : List Loc} {cells slots : Nat} {Q : State → Prop} (hR : Rel w σ H) (hL : LR w q.2.2.2.1 ls arr) (hlo : ∀ z ∈ locs, (wH w).size ≤ z.base) {g : Bool} {br : List (Bool × Nat)} {f : Nat} {ls' st' : List MV} {σ' : HP} (ha : act0 pc (.if_icmp .gt o, len, r1, r2, r3, r4, sw) ls st σ = some (.inl (g, br, f, ls', st', σ'))) (hg : g = true) (hrc : cells + (σ' (-1) 0 - σ (-1) 0).toNat ≤ R.cells) (hrs : slots + (σ' (-1) 1 - σ (-1) 1).toNat ≤ R.slots)
    (kk : ∀ (H' : Heap) (locs' : List Loc) (arr' : Array Slot) (cells' slots' : Nat), Rel w σ' H' → LR w q.2.2.2.1 ls' arr' → (∀ z ∈ locs', (wH w).size ≤ z.base) → cells' = cells + (σ' (-1) 0 - σ (-1) 0).toNat → slots' = slots + (σ' (-1) 1 - σ (-1) 1).toNat → W p l e R s m args below meth c H' locs' cells' slots' Q (F0 m (brTT f br) arr' (st'.map (cv w)))) : W p l e R s m args below meth c H locs cells slots Q (F0 m pc arr (st.map (cv w))) := by
  obtain ⟨hx, hb, hml, hown, hts, hK, hin, how⟩ := C
  simp only [chkI, Bool.and_eq_true, decide_eq_true_eq] at hc
  have hl : len = 3 := Nat.eq_of_beq_eq_true hc.1
  have ht := hc.2
  subst hl
  simp only [act0] at ha
  split at ha
  · rename_i y x t
    cases ha
    have kz := kk H locs arr cells slots hR hL hlo (by simp) (by simp)
    refine lv_icmp_gt (tgt := r1) hx hb hd ht (fun h => ?_) (fun h => ?_)
    · rw [brT_1 (show cmpB .gt (wr x) (wr y) = true from decide_eq_true ((wr_lt y x).mpr h))] at kz
      exact kz
    · rw [brT_0 (show cmpB .gt (wr x) (wr y) = false from decide_eq_false (fun z => h ((wr_lt y x).mp z)))] at kz
      exact kz
  · cases ha
set_option maxHeartbeats 4000000 in
set_option maxRecDepth 100000 in
theorem go_ic_le {w : WD} {q : MR} {p : Program} {l : Launch} {e : Env} {R : Room} {s : State} {m : MethodId} {args : Array Value} {below : List Frame} {meth : Method} {c : Code} (C : CX w q p s m args meth c) {pc : Nat} {len r1 r2 r3 r4 : Nat} {sw : List (Int × Nat)} {o : Int} (hd : decode q.2.2.1 pc = .ok (.if_icmp .le o, len)) (hc : chkI q pc (.if_icmp .le o, len, r1, r2, r3, r4, sw) = true) {ls st : List MV} {σ : HP} {arr : Array Slot} {H : Heap} {locs : List Loc} {cells slots : Nat} {Q : State → Prop} (hR : Rel w σ H) (hL : LR w q.2.2.2.1 ls arr) (hlo : ∀ z ∈ locs, (wH w).size ≤ z.base) {g : Bool} {br : List (Bool × Nat)} {f : Nat} {ls' st' : List MV} {σ' : HP} (ha : act0 pc (.if_icmp .le o, len, r1, r2, r3, r4, sw) ls st σ = some (.inl (g, br, f, ls', st', σ'))) (hg : g = true) (hrc : cells + (σ' (-1) 0 - σ (-1) 0).toNat ≤ R.cells) (hrs : slots + (σ' (-1) 1 - σ (-1) 1).toNat ≤ R.slots)
    (kk : ∀ (H' : Heap) (locs' : List Loc) (arr' : Array Slot) (cells' slots' : Nat), Rel w σ' H' → LR w q.2.2.2.1 ls' arr' → (∀ z ∈ locs', (wH w).size ≤ z.base) → cells' = cells + (σ' (-1) 0 - σ (-1) 0).toNat → slots' = slots + (σ' (-1) 1 - σ (-1) 1).toNat → W p l e R s m args below meth c H' locs' cells' slots' Q (F0 m (brTT f br) arr' (st'.map (cv w)))) : W p l e R s m args below meth c H locs cells slots Q (F0 m pc arr (st.map (cv w))) := by
  obtain ⟨hx, hb, hml, hown, hts, hK, hin, how⟩ := C
  simp only [chkI, Bool.and_eq_true, decide_eq_true_eq] at hc
  have hl : len = 3 := Nat.eq_of_beq_eq_true hc.1
  have ht := hc.2
  subst hl
  simp only [act0] at ha
  split at ha
  · rename_i y x t
    cases ha
    have kz := kk H locs arr cells slots hR hL hlo (by simp) (by simp)
    refine lv_icmp_le (tgt := r1) hx hb hd ht (fun h => ?_) (fun h => ?_)
    · rw [brT_1 (show cmpB .le (wr x) (wr y) = true from decide_eq_true ((wr_le x y).mpr h))] at kz
      exact kz
    · rw [brT_0 (show cmpB .le (wr x) (wr y) = false from decide_eq_false (fun z => h ((wr_le x y).mp z)))] at kz
      exact kz
  · cases ha
set_option maxHeartbeats 4000000 in
set_option maxRecDepth 100000 in
theorem go_if_eq {w : WD} {q : MR} {p : Program} {l : Launch} {e : Env} {R : Room} {s : State} {m : MethodId} {args : Array Value} {below : List Frame} {meth : Method} {c : Code} (C : CX w q p s m args meth c) {pc : Nat} {len r1 r2 r3 r4 : Nat} {sw : List (Int × Nat)} {o : Int} (hd : decode q.2.2.1 pc = .ok (.ifCond .eq o, len)) (hc : chkI q pc (.ifCond .eq o, len, r1, r2, r3, r4, sw) = true) {ls st : List MV} {σ : HP} {arr : Array Slot} {H : Heap} {locs : List Loc} {cells slots : Nat} {Q : State → Prop} (hR : Rel w σ H) (hL : LR w q.2.2.2.1 ls arr) (hlo : ∀ z ∈ locs, (wH w).size ≤ z.base) {g : Bool} {br : List (Bool × Nat)} {f : Nat} {ls' st' : List MV} {σ' : HP} (ha : act0 pc (.ifCond .eq o, len, r1, r2, r3, r4, sw) ls st σ = some (.inl (g, br, f, ls', st', σ'))) (hg : g = true) (hrc : cells + (σ' (-1) 0 - σ (-1) 0).toNat ≤ R.cells) (hrs : slots + (σ' (-1) 1 - σ (-1) 1).toNat ≤ R.slots)
    (kk : ∀ (H' : Heap) (locs' : List Loc) (arr' : Array Slot) (cells' slots' : Nat), Rel w σ' H' → LR w q.2.2.2.1 ls' arr' → (∀ z ∈ locs', (wH w).size ≤ z.base) → cells' = cells + (σ' (-1) 0 - σ (-1) 0).toNat → slots' = slots + (σ' (-1) 1 - σ (-1) 1).toNat → W p l e R s m args below meth c H' locs' cells' slots' Q (F0 m (brTT f br) arr' (st'.map (cv w)))) : W p l e R s m args below meth c H locs cells slots Q (F0 m pc arr (st.map (cv w))) := by
  obtain ⟨hx, hb, hml, hown, hts, hK, hin, how⟩ := C
  simp only [chkI, Bool.and_eq_true, decide_eq_true_eq] at hc
  have hl : len = 3 := Nat.eq_of_beq_eq_true hc.1
  have ht := hc.2
  subst hl
  simp only [act0] at ha
  split at ha
  · rename_i x t
    cases ha
    have kz := kk H locs arr cells slots hR hL hlo (by simp) (by simp)
    refine lv_if_eq (tgt := r1) hx hb hd ht (fun h => ?_) (fun h => ?_)
    · rw [brT_1 (show cmpB .eq (wr x) 0 = true from decide_eq_true ((wz_eq x).mpr h))] at kz
      exact kz
    · rw [brT_0 (show cmpB .eq (wr x) 0 = false from decide_eq_false (fun z => h ((wz_eq x).mp z)))] at kz
      exact kz
  · cases ha
set_option maxHeartbeats 4000000 in
set_option maxRecDepth 100000 in
theorem go_if_ne {w : WD} {q : MR} {p : Program} {l : Launch} {e : Env} {R : Room} {s : State} {m : MethodId} {args : Array Value} {below : List Frame} {meth : Method} {c : Code} (C : CX w q p s m args meth c) {pc : Nat} {len r1 r2 r3 r4 : Nat} {sw : List (Int × Nat)} {o : Int} (hd : decode q.2.2.1 pc = .ok (.ifCond .ne o, len)) (hc : chkI q pc (.ifCond .ne o, len, r1, r2, r3, r4, sw) = true) {ls st : List MV} {σ : HP} {arr : Array Slot} {H : Heap} {locs : List Loc} {cells slots : Nat} {Q : State → Prop} (hR : Rel w σ H) (hL : LR w q.2.2.2.1 ls arr) (hlo : ∀ z ∈ locs, (wH w).size ≤ z.base) {g : Bool} {br : List (Bool × Nat)} {f : Nat} {ls' st' : List MV} {σ' : HP} (ha : act0 pc (.ifCond .ne o, len, r1, r2, r3, r4, sw) ls st σ = some (.inl (g, br, f, ls', st', σ'))) (hg : g = true) (hrc : cells + (σ' (-1) 0 - σ (-1) 0).toNat ≤ R.cells) (hrs : slots + (σ' (-1) 1 - σ (-1) 1).toNat ≤ R.slots)
    (kk : ∀ (H' : Heap) (locs' : List Loc) (arr' : Array Slot) (cells' slots' : Nat), Rel w σ' H' → LR w q.2.2.2.1 ls' arr' → (∀ z ∈ locs', (wH w).size ≤ z.base) → cells' = cells + (σ' (-1) 0 - σ (-1) 0).toNat → slots' = slots + (σ' (-1) 1 - σ (-1) 1).toNat → W p l e R s m args below meth c H' locs' cells' slots' Q (F0 m (brTT f br) arr' (st'.map (cv w)))) : W p l e R s m args below meth c H locs cells slots Q (F0 m pc arr (st.map (cv w))) := by
  obtain ⟨hx, hb, hml, hown, hts, hK, hin, how⟩ := C
  simp only [chkI, Bool.and_eq_true, decide_eq_true_eq] at hc
  have hl : len = 3 := Nat.eq_of_beq_eq_true hc.1
  have ht := hc.2
  subst hl
  simp only [act0] at ha
  split at ha
  · rename_i x t
    cases ha
    have kz := kk H locs arr cells slots hR hL hlo (by simp) (by simp)
    refine lv_if_ne (tgt := r1) hx hb hd ht (fun h => ?_) (fun h => ?_)
    · rw [brT_1 (show cmpB .ne (wr x) 0 = true from decide_eq_true ((not_congr (wz_eq x)).mpr h))] at kz
      exact kz
    · rw [brT_0 (show cmpB .ne (wr x) 0 = false from decide_eq_false (fun z => ((not_congr (wz_eq x)).mp z) h))] at kz
      exact kz
  · cases ha
set_option maxHeartbeats 4000000 in
set_option maxRecDepth 100000 in
theorem go_if_lt {w : WD} {q : MR} {p : Program} {l : Launch} {e : Env} {R : Room} {s : State} {m : MethodId} {args : Array Value} {below : List Frame} {meth : Method} {c : Code} (C : CX w q p s m args meth c) {pc : Nat} {len r1 r2 r3 r4 : Nat} {sw : List (Int × Nat)} {o : Int} (hd : decode q.2.2.1 pc = .ok (.ifCond .lt o, len)) (hc : chkI q pc (.ifCond .lt o, len, r1, r2, r3, r4, sw) = true) {ls st : List MV} {σ : HP} {arr : Array Slot} {H : Heap} {locs : List Loc} {cells slots : Nat} {Q : State → Prop} (hR : Rel w σ H) (hL : LR w q.2.2.2.1 ls arr) (hlo : ∀ z ∈ locs, (wH w).size ≤ z.base) {g : Bool} {br : List (Bool × Nat)} {f : Nat} {ls' st' : List MV} {σ' : HP} (ha : act0 pc (.ifCond .lt o, len, r1, r2, r3, r4, sw) ls st σ = some (.inl (g, br, f, ls', st', σ'))) (hg : g = true) (hrc : cells + (σ' (-1) 0 - σ (-1) 0).toNat ≤ R.cells) (hrs : slots + (σ' (-1) 1 - σ (-1) 1).toNat ≤ R.slots)
    (kk : ∀ (H' : Heap) (locs' : List Loc) (arr' : Array Slot) (cells' slots' : Nat), Rel w σ' H' → LR w q.2.2.2.1 ls' arr' → (∀ z ∈ locs', (wH w).size ≤ z.base) → cells' = cells + (σ' (-1) 0 - σ (-1) 0).toNat → slots' = slots + (σ' (-1) 1 - σ (-1) 1).toNat → W p l e R s m args below meth c H' locs' cells' slots' Q (F0 m (brTT f br) arr' (st'.map (cv w)))) : W p l e R s m args below meth c H locs cells slots Q (F0 m pc arr (st.map (cv w))) := by
  obtain ⟨hx, hb, hml, hown, hts, hK, hin, how⟩ := C
  simp only [chkI, Bool.and_eq_true, decide_eq_true_eq] at hc
  have hl : len = 3 := Nat.eq_of_beq_eq_true hc.1
  have ht := hc.2
  subst hl
  simp only [act0] at ha
  split at ha
  · rename_i x t
    cases ha
    have kz := kk H locs arr cells slots hR hL hlo (by simp) (by simp)
    refine lv_if_lt (tgt := r1) hx hb hd ht (fun h => ?_) (fun h => ?_)
    · rw [brT_1 (show cmpB .lt (wr x) 0 = true from decide_eq_true ((wz_lt x).mpr h))] at kz
      exact kz
    · rw [brT_0 (show cmpB .lt (wr x) 0 = false from decide_eq_false (fun z => h ((wz_lt x).mp z)))] at kz
      exact kz
  · cases ha
set_option maxHeartbeats 4000000 in
set_option maxRecDepth 100000 in
theorem go_if_ge {w : WD} {q : MR} {p : Program} {l : Launch} {e : Env} {R : Room} {s : State} {m : MethodId} {args : Array Value} {below : List Frame} {meth : Method} {c : Code} (C : CX w q p s m args meth c) {pc : Nat} {len r1 r2 r3 r4 : Nat} {sw : List (Int × Nat)} {o : Int} (hd : decode q.2.2.1 pc = .ok (.ifCond .ge o, len)) (hc : chkI q pc (.ifCond .ge o, len, r1, r2, r3, r4, sw) = true) {ls st : List MV} {σ : HP} {arr : Array Slot} {H : Heap} {locs : List Loc} {cells slots : Nat} {Q : State → Prop} (hR : Rel w σ H) (hL : LR w q.2.2.2.1 ls arr) (hlo : ∀ z ∈ locs, (wH w).size ≤ z.base) {g : Bool} {br : List (Bool × Nat)} {f : Nat} {ls' st' : List MV} {σ' : HP} (ha : act0 pc (.ifCond .ge o, len, r1, r2, r3, r4, sw) ls st σ = some (.inl (g, br, f, ls', st', σ'))) (hg : g = true) (hrc : cells + (σ' (-1) 0 - σ (-1) 0).toNat ≤ R.cells) (hrs : slots + (σ' (-1) 1 - σ (-1) 1).toNat ≤ R.slots)
    (kk : ∀ (H' : Heap) (locs' : List Loc) (arr' : Array Slot) (cells' slots' : Nat), Rel w σ' H' → LR w q.2.2.2.1 ls' arr' → (∀ z ∈ locs', (wH w).size ≤ z.base) → cells' = cells + (σ' (-1) 0 - σ (-1) 0).toNat → slots' = slots + (σ' (-1) 1 - σ (-1) 1).toNat → W p l e R s m args below meth c H' locs' cells' slots' Q (F0 m (brTT f br) arr' (st'.map (cv w)))) : W p l e R s m args below meth c H locs cells slots Q (F0 m pc arr (st.map (cv w))) := by
  obtain ⟨hx, hb, hml, hown, hts, hK, hin, how⟩ := C
  simp only [chkI, Bool.and_eq_true, decide_eq_true_eq] at hc
  have hl : len = 3 := Nat.eq_of_beq_eq_true hc.1
  have ht := hc.2
  subst hl
  simp only [act0] at ha
  split at ha
  · rename_i x t
    cases ha
    have kz := kk H locs arr cells slots hR hL hlo (by simp) (by simp)
    refine lv_if_ge (tgt := r1) hx hb hd ht (fun h => ?_) (fun h => ?_)
    · rw [brT_1 (show cmpB .ge (wr x) 0 = true from decide_eq_true ((wz_ge x).mpr h))] at kz
      exact kz
    · rw [brT_0 (show cmpB .ge (wr x) 0 = false from decide_eq_false (fun z => h ((wz_ge x).mp z)))] at kz
      exact kz
  · cases ha
set_option maxHeartbeats 4000000 in
set_option maxRecDepth 100000 in
theorem go_if_gt {w : WD} {q : MR} {p : Program} {l : Launch} {e : Env} {R : Room} {s : State} {m : MethodId} {args : Array Value} {below : List Frame} {meth : Method} {c : Code} (C : CX w q p s m args meth c) {pc : Nat} {len r1 r2 r3 r4 : Nat} {sw : List (Int × Nat)} {o : Int} (hd : decode q.2.2.1 pc = .ok (.ifCond .gt o, len)) (hc : chkI q pc (.ifCond .gt o, len, r1, r2, r3, r4, sw) = true) {ls st : List MV} {σ : HP} {arr : Array Slot} {H : Heap} {locs : List Loc} {cells slots : Nat} {Q : State → Prop} (hR : Rel w σ H) (hL : LR w q.2.2.2.1 ls arr) (hlo : ∀ z ∈ locs, (wH w).size ≤ z.base) {g : Bool} {br : List (Bool × Nat)} {f : Nat} {ls' st' : List MV} {σ' : HP} (ha : act0 pc (.ifCond .gt o, len, r1, r2, r3, r4, sw) ls st σ = some (.inl (g, br, f, ls', st', σ'))) (hg : g = true) (hrc : cells + (σ' (-1) 0 - σ (-1) 0).toNat ≤ R.cells) (hrs : slots + (σ' (-1) 1 - σ (-1) 1).toNat ≤ R.slots)
    (kk : ∀ (H' : Heap) (locs' : List Loc) (arr' : Array Slot) (cells' slots' : Nat), Rel w σ' H' → LR w q.2.2.2.1 ls' arr' → (∀ z ∈ locs', (wH w).size ≤ z.base) → cells' = cells + (σ' (-1) 0 - σ (-1) 0).toNat → slots' = slots + (σ' (-1) 1 - σ (-1) 1).toNat → W p l e R s m args below meth c H' locs' cells' slots' Q (F0 m (brTT f br) arr' (st'.map (cv w)))) : W p l e R s m args below meth c H locs cells slots Q (F0 m pc arr (st.map (cv w))) := by
  obtain ⟨hx, hb, hml, hown, hts, hK, hin, how⟩ := C
  simp only [chkI, Bool.and_eq_true, decide_eq_true_eq] at hc
  have hl : len = 3 := Nat.eq_of_beq_eq_true hc.1
  have ht := hc.2
  subst hl
  simp only [act0] at ha
  split at ha
  · rename_i x t
    cases ha
    have kz := kk H locs arr cells slots hR hL hlo (by simp) (by simp)
    refine lv_if_gt (tgt := r1) hx hb hd ht (fun h => ?_) (fun h => ?_)
    · rw [brT_1 (show cmpB .gt (wr x) 0 = true from decide_eq_true ((wz_gt x).mpr h))] at kz
      exact kz
    · rw [brT_0 (show cmpB .gt (wr x) 0 = false from decide_eq_false (fun z => h ((wz_gt x).mp z)))] at kz
      exact kz
  · cases ha
set_option maxHeartbeats 4000000 in
set_option maxRecDepth 100000 in
theorem go_if_le {w : WD} {q : MR} {p : Program} {l : Launch} {e : Env} {R : Room} {s : State} {m : MethodId} {args : Array Value} {below : List Frame} {meth : Method} {c : Code} (C : CX w q p s m args meth c) {pc : Nat} {len r1 r2 r3 r4 : Nat} {sw : List (Int × Nat)} {o : Int} (hd : decode q.2.2.1 pc = .ok (.ifCond .le o, len)) (hc : chkI q pc (.ifCond .le o, len, r1, r2, r3, r4, sw) = true) {ls st : List MV} {σ : HP} {arr : Array Slot} {H : Heap} {locs : List Loc} {cells slots : Nat} {Q : State → Prop} (hR : Rel w σ H) (hL : LR w q.2.2.2.1 ls arr) (hlo : ∀ z ∈ locs, (wH w).size ≤ z.base) {g : Bool} {br : List (Bool × Nat)} {f : Nat} {ls' st' : List MV} {σ' : HP} (ha : act0 pc (.ifCond .le o, len, r1, r2, r3, r4, sw) ls st σ = some (.inl (g, br, f, ls', st', σ'))) (hg : g = true) (hrc : cells + (σ' (-1) 0 - σ (-1) 0).toNat ≤ R.cells) (hrs : slots + (σ' (-1) 1 - σ (-1) 1).toNat ≤ R.slots)
    (kk : ∀ (H' : Heap) (locs' : List Loc) (arr' : Array Slot) (cells' slots' : Nat), Rel w σ' H' → LR w q.2.2.2.1 ls' arr' → (∀ z ∈ locs', (wH w).size ≤ z.base) → cells' = cells + (σ' (-1) 0 - σ (-1) 0).toNat → slots' = slots + (σ' (-1) 1 - σ (-1) 1).toNat → W p l e R s m args below meth c H' locs' cells' slots' Q (F0 m (brTT f br) arr' (st'.map (cv w)))) : W p l e R s m args below meth c H locs cells slots Q (F0 m pc arr (st.map (cv w))) := by
  obtain ⟨hx, hb, hml, hown, hts, hK, hin, how⟩ := C
  simp only [chkI, Bool.and_eq_true, decide_eq_true_eq] at hc
  have hl : len = 3 := Nat.eq_of_beq_eq_true hc.1
  have ht := hc.2
  subst hl
  simp only [act0] at ha
  split at ha
  · rename_i x t
    cases ha
    have kz := kk H locs arr cells slots hR hL hlo (by simp) (by simp)
    refine lv_if_le (tgt := r1) hx hb hd ht (fun h => ?_) (fun h => ?_)
    · rw [brT_1 (show cmpB .le (wr x) 0 = true from decide_eq_true ((wz_le x).mpr h))] at kz
      exact kz
    · rw [brT_0 (show cmpB .le (wr x) 0 = false from decide_eq_false (fun z => h ((wz_le x).mp z)))] at kz
      exact kz
  · cases ha
set_option maxHeartbeats 4000000 in
set_option maxRecDepth 100000 in
theorem go_ifnull {w : WD} {q : MR} {p : Program} {l : Launch} {e : Env} {R : Room} {s : State} {m : MethodId} {args : Array Value} {below : List Frame} {meth : Method} {c : Code} (C : CX w q p s m args meth c) {pc : Nat} {len r1 r2 r3 r4 : Nat} {sw : List (Int × Nat)} {o : Int} (hd : decode q.2.2.1 pc = .ok (.ifnull o, len)) (hc : chkI q pc (.ifnull o, len, r1, r2, r3, r4, sw) = true) {ls st : List MV} {σ : HP} {arr : Array Slot} {H : Heap} {locs : List Loc} {cells slots : Nat} {Q : State → Prop} (hR : Rel w σ H) (hL : LR w q.2.2.2.1 ls arr) (hlo : ∀ z ∈ locs, (wH w).size ≤ z.base) {g : Bool} {br : List (Bool × Nat)} {f : Nat} {ls' st' : List MV} {σ' : HP} (ha : act0 pc (.ifnull o, len, r1, r2, r3, r4, sw) ls st σ = some (.inl (g, br, f, ls', st', σ'))) (hg : g = true) (hrc : cells + (σ' (-1) 0 - σ (-1) 0).toNat ≤ R.cells) (hrs : slots + (σ' (-1) 1 - σ (-1) 1).toNat ≤ R.slots)
    (kk : ∀ (H' : Heap) (locs' : List Loc) (arr' : Array Slot) (cells' slots' : Nat), Rel w σ' H' → LR w q.2.2.2.1 ls' arr' → (∀ z ∈ locs', (wH w).size ≤ z.base) → cells' = cells + (σ' (-1) 0 - σ (-1) 0).toNat → slots' = slots + (σ' (-1) 1 - σ (-1) 1).toNat → W p l e R s m args below meth c H' locs' cells' slots' Q (F0 m (brTT f br) arr' (st'.map (cv w)))) : W p l e R s m args below meth c H locs cells slots Q (F0 m pc arr (st.map (cv w))) := by
  obtain ⟨hx, hb, hml, hown, hts, hK, hin, how⟩ := C
  simp only [chkI, Bool.and_eq_true, decide_eq_true_eq] at hc
  have hl : len = 3 := Nat.eq_of_beq_eq_true hc.1
  have ht := hc.2
  subst hl
  simp only [act0] at ha
  split at ha
  · rename_i x t
    cases ha
    have kz := kk H locs arr cells slots hR hL hlo (by simp) (by simp)
    simp only [List.map_cons]
    by_cases hx0 : x ≤ 0
    · rw [cv_R0 w hx0]
      rw [brT_1 (show decide (x ≤ 0) = true from decide_eq_true (by omega))] at kz
      exact lv_ifnullN (tgt := r1) hx hb hd ht kz
    · rw [cv_R w (x := x) (by omega)]
      rw [brT_0 (show decide (x ≤ 0) = false from decide_eq_false (by omega))] at kz
      exact lv_ifnull hx hb hd kz
  · cases ha
set_option maxHeartbeats 4000000 in
set_option maxRecDepth 100000 in
theorem go_ifnonnull {w : WD} {q : MR} {p : Program} {l : Launch} {e : Env} {R : Room} {s : State} {m : MethodId} {args : Array Value} {below : List Frame} {meth : Method} {c : Code} (C : CX w q p s m args meth c) {pc : Nat} {len r1 r2 r3 r4 : Nat} {sw : List (Int × Nat)} {o : Int} (hd : decode q.2.2.1 pc = .ok (.ifnonnull o, len)) (hc : chkI q pc (.ifnonnull o, len, r1, r2, r3, r4, sw) = true) {ls st : List MV} {σ : HP} {arr : Array Slot} {H : Heap} {locs : List Loc} {cells slots : Nat} {Q : State → Prop} (hR : Rel w σ H) (hL : LR w q.2.2.2.1 ls arr) (hlo : ∀ z ∈ locs, (wH w).size ≤ z.base) {g : Bool} {br : List (Bool × Nat)} {f : Nat} {ls' st' : List MV} {σ' : HP} (ha : act0 pc (.ifnonnull o, len, r1, r2, r3, r4, sw) ls st σ = some (.inl (g, br, f, ls', st', σ'))) (hg : g = true) (hrc : cells + (σ' (-1) 0 - σ (-1) 0).toNat ≤ R.cells) (hrs : slots + (σ' (-1) 1 - σ (-1) 1).toNat ≤ R.slots)
    (kk : ∀ (H' : Heap) (locs' : List Loc) (arr' : Array Slot) (cells' slots' : Nat), Rel w σ' H' → LR w q.2.2.2.1 ls' arr' → (∀ z ∈ locs', (wH w).size ≤ z.base) → cells' = cells + (σ' (-1) 0 - σ (-1) 0).toNat → slots' = slots + (σ' (-1) 1 - σ (-1) 1).toNat → W p l e R s m args below meth c H' locs' cells' slots' Q (F0 m (brTT f br) arr' (st'.map (cv w)))) : W p l e R s m args below meth c H locs cells slots Q (F0 m pc arr (st.map (cv w))) := by
  obtain ⟨hx, hb, hml, hown, hts, hK, hin, how⟩ := C
  simp only [chkI, Bool.and_eq_true, decide_eq_true_eq] at hc
  have hl : len = 3 := Nat.eq_of_beq_eq_true hc.1
  have ht := hc.2
  subst hl
  simp only [act0] at ha
  split at ha
  · rename_i x t
    cases ha
    have kz := kk H locs arr cells slots hR hL hlo (by simp) (by simp)
    simp only [List.map_cons]
    by_cases hx0 : x ≤ 0
    · rw [cv_R0 w hx0]
      rw [brT_0 (show decide (0 < x) = false from decide_eq_false (by omega))] at kz
      exact lv_ifnonnullN hx hb hd kz
    · rw [cv_R w (x := x) (by omega)]
      rw [brT_1 (show decide (0 < x) = true from decide_eq_true (by omega))] at kz
      exact lv_ifnonnull (tgt := r1) hx hb hd ht kz
  · cases ha
set_option maxHeartbeats 4000000 in
set_option maxRecDepth 100000 in
theorem go_tsw {w : WD} {q : MR} {p : Program} {l : Launch} {e : Env} {R : Room} {s : State} {m : MethodId} {args : Array Value} {below : List Frame} {meth : Method} {c : Code} (C : CX w q p s m args meth c) {pc : Nat} {len r1 r2 r3 r4 : Nat} {sw : List (Int × Nat)} {d lo hi : Int} {offs : Array Int} (hd : decode q.2.2.1 pc = .ok (.tableswitch d lo hi offs, len)) (hc : chkI q pc (.tableswitch d lo hi offs, len, r1, r2, r3, r4, sw) = true) {ls st : List MV} {σ : HP} {arr : Array Slot} {H : Heap} {locs : List Loc} {cells slots : Nat} {Q : State → Prop} (hR : Rel w σ H) (hL : LR w q.2.2.2.1 ls arr) (hlo : ∀ z ∈ locs, (wH w).size ≤ z.base) {g : Bool} {br : List (Bool × Nat)} {f : Nat} {ls' st' : List MV} {σ' : HP} (ha : act0 pc (.tableswitch d lo hi offs, len, r1, r2, r3, r4, sw) ls st σ = some (.inl (g, br, f, ls', st', σ'))) (hg : g = true) (hrc : cells + (σ' (-1) 0 - σ (-1) 0).toNat ≤ R.cells) (hrs : slots + (σ' (-1) 1 - σ (-1) 1).toNat ≤ R.slots)
    (kk : ∀ (H' : Heap) (locs' : List Loc) (arr' : Array Slot) (cells' slots' : Nat), Rel w σ' H' → LR w q.2.2.2.1 ls' arr' → (∀ z ∈ locs', (wH w).size ≤ z.base) → cells' = cells + (σ' (-1) 0 - σ (-1) 0).toNat → slots' = slots + (σ' (-1) 1 - σ (-1) 1).toNat → W p l e R s m args below meth c H' locs' cells' slots' Q (F0 m (brTT f br) arr' (st'.map (cv w)))) : W p l e R s m args below meth c H locs cells slots Q (F0 m pc arr (st.map (cv w))) := by
  obtain ⟨hx, hb, hml, hown, hts, hK, hin, how⟩ := C
  simp only [chkI, Bool.and_eq_true, decide_eq_true_eq, List.all_eq_true] at hc
  obtain ⟨⟨⟨h1, h2⟩, h3⟩, h4⟩ := hc
  subst h3
  simp only [act0] at ha
  split at ha
  · rename_i x t
    cases ha
    have kz := kk H locs arr cells slots hR hL hlo (by simp) (by simp)
    rw [brT_sw] at kz
    simp only [List.map_cons]
    have hw : (Int32.ofInt x).toInt = wr x := rfl
    have hsz : offs.toList.length = offs.size := Array.length_toList
    by_cases hin : lo ≤ wr x ∧ wr x < lo + offs.toList.length
    · rw [if_pos hin] at kz
      have hlt : (wr x - lo).toNat < offs.toList.length := by omega
      have hg : offs.toList[(wr x - lo).toNat]? = some (offs.toList.getD (wr x - lo).toNat 0) := by rw [List.getD_eq_getElem?_getD, List.getElem?_eq_getElem hlt]; rfl
      have hm : offs.toList.getD (wr x - lo).toNat 0 ∈ offs.toList := List.mem_of_getElem? hg
      refine lv_tableIn (off := offs.toList.getD (wr x - lo).toNat 0) hx hb hd (by rw [hw]; omega) (by rw [hw]; omega) (by rw [hw, ← Array.getElem?_toList]; exact hg) ?_ kz
      rw [Int.toNat_of_nonneg (h4 _ hm)]
    · rw [if_neg hin] at kz
      exact lv_tableOut hx hb hd (by rw [hw]; omega) h1 kz
  · cases ha
set_option maxHeartbeats 4000000 in
set_option maxRecDepth 100000 in
theorem go_lsw {w : WD} {q : MR} {p : Program} {l : Launch} {e : Env} {R : Room} {s : State} {m : MethodId} {args : Array Value} {below : List Frame} {meth : Method} {c : Code} (C : CX w q p s m args meth c) {pc : Nat} {len r1 r2 r3 r4 : Nat} {sw : List (Int × Nat)} {d : Int} {ps : Array (Int × Int)} (hd : decode q.2.2.1 pc = .ok (.lookupswitch d ps, len)) (hc : chkI q pc (.lookupswitch d ps, len, r1, r2, r3, r4, sw) = true) {ls st : List MV} {σ : HP} {arr : Array Slot} {H : Heap} {locs : List Loc} {cells slots : Nat} {Q : State → Prop} (hR : Rel w σ H) (hL : LR w q.2.2.2.1 ls arr) (hlo : ∀ z ∈ locs, (wH w).size ≤ z.base) {g : Bool} {br : List (Bool × Nat)} {f : Nat} {ls' st' : List MV} {σ' : HP} (ha : act0 pc (.lookupswitch d ps, len, r1, r2, r3, r4, sw) ls st σ = some (.inl (g, br, f, ls', st', σ'))) (hg : g = true) (hrc : cells + (σ' (-1) 0 - σ (-1) 0).toNat ≤ R.cells) (hrs : slots + (σ' (-1) 1 - σ (-1) 1).toNat ≤ R.slots)
    (kk : ∀ (H' : Heap) (locs' : List Loc) (arr' : Array Slot) (cells' slots' : Nat), Rel w σ' H' → LR w q.2.2.2.1 ls' arr' → (∀ z ∈ locs', (wH w).size ≤ z.base) → cells' = cells + (σ' (-1) 0 - σ (-1) 0).toNat → slots' = slots + (σ' (-1) 1 - σ (-1) 1).toNat → W p l e R s m args below meth c H' locs' cells' slots' Q (F0 m (brTT f br) arr' (st'.map (cv w)))) : W p l e R s m args below meth c H locs cells slots Q (F0 m pc arr (st.map (cv w))) := by
  obtain ⟨hx, hb, hml, hown, hts, hK, hin, how⟩ := C
  simp only [chkI, Bool.and_eq_true, decide_eq_true_eq] at hc
  obtain ⟨⟨⟨h1, h2⟩, h3⟩, h4⟩ := hc
  subst h2
  simp only [act0] at ha
  split at ha
  · rename_i x t
    cases ha
    have kz := kk H locs arr cells slots hR hL hlo (by simp) (by simp)
    exact lv_lookup (off := Op.lookupswitch.offset ps.toList d (wr x)) hx hb hd h4 rfl (brT_lk pc r1 d (wr x) h1 ps.toList h3) kz
  · cases ha
theorem ft_use {q : MR} {x r1 r2 r3 : Nat} {sw : List (Int × Nat)} (how : ownL[q.1]? = some q.2.1.cls) (h : (match sw with
      | [(_, p)] => decide (ftL[p]? = some (q.1, x, r1, r2, r3))
      | _ => false) = true) : ∃ r : vw_C, cls0[r1]? = some r ∧ r2 < r.2.2 ∧ Jvm.Cond.fieldLink q.2.1.cls x (r.2.1 r2).1 (r.2.1 r2).2.1 (r.2.1 r2).2.2.1 ∈ gtb ∧ fkd r1 r2 = r3 := by
  split at h
  · have h1 := ft_ok _ (List.mem_of_getElem? (of_decide_eq_true h))
    obtain ⟨own, r, e1, e2, e3, e4, e5⟩ := h1
    rw [how] at e1
    cases e1
    exact ⟨r, e2, e3, e4, e5⟩
  · cases h
set_option maxHeartbeats 4000000 in
set_option maxRecDepth 100000 in
theorem go_getfield {w : WD} {q : MR} {p : Program} {l : Launch} {e : Env} {R : Room} {s : State} {m : MethodId} {args : Array Value} {below : List Frame} {meth : Method} {c : Code} (C : CX w q p s m args meth c) {pc : Nat} {len r1 r2 r3 r4 : Nat} {sw : List (Int × Nat)} {x : Nat} (hd : decode q.2.2.1 pc = .ok (.getfield x, len)) (hc : chkI q pc (.getfield x, len, r1, r2, r3, r4, sw) = true) {ls st : List MV} {σ : HP} {arr : Array Slot} {H : Heap} {locs : List Loc} {cells slots : Nat} {Q : State → Prop} (hR : Rel w σ H) (hL : LR w q.2.2.2.1 ls arr) (hlo : ∀ z ∈ locs, (wH w).size ≤ z.base) {g : Bool} {br : List (Bool × Nat)} {f : Nat} {ls' st' : List MV} {σ' : HP} (ha : act0 pc (.getfield x, len, r1, r2, r3, r4, sw) ls st σ = some (.inl (g, br, f, ls', st', σ'))) (hg : g = true) (hrc : cells + (σ' (-1) 0 - σ (-1) 0).toNat ≤ R.cells) (hrs : slots + (σ' (-1) 1 - σ (-1) 1).toNat ≤ R.slots)
    (kk : ∀ (H' : Heap) (locs' : List Loc) (arr' : Array Slot) (cells' slots' : Nat), Rel w σ' H' → LR w q.2.2.2.1 ls' arr' → (∀ z ∈ locs', (wH w).size ≤ z.base) → cells' = cells + (σ' (-1) 0 - σ (-1) 0).toNat → slots' = slots + (σ' (-1) 1 - σ (-1) 1).toNat → W p l e R s m args below meth c H' locs' cells' slots' Q (F0 m (brTT f br) arr' (st'.map (cv w)))) : W p l e R s m args below meth c H locs cells slots Q (F0 m pc arr (st.map (cv w))) := by
  obtain ⟨hx, hb, hml, hown, hts, hK, hin, how⟩ := C
  simp only [chkI, Bool.and_eq_true] at hc
  have hl : len = 3 := Nat.eq_of_beq_eq_true hc.1
  subst hl
  obtain ⟨r, f1, f2, f3, f4⟩ := ft_use how hc.2
  simp only [act0] at ha
  split at ha
  · rename_i a t
    cases ha
    obtain ⟨g1, g2, g3⟩ := of_decide_eq_true hg
    obtain ⟨cell, q1, q2, q3, q4⟩ := (celR_ob g3 f1).mp (hR.2.2.1 a g1 g2)
    obtain ⟨hS, hfc, kC, hkC, hkind⟩ := hK.1.1 r1 _ f1
    obtain ⟨cf, kf, fi, fd, hi, hsl⟩ := hS r2 f2
    obtain ⟨ty, hu, -⟩ := cls_ok r1 r f1
    simp only [List.map_cons]
    rw [cv_R w (x := a) (by omega)]
    refine W.getf hx hb hown (hts _ f3) hi (u_facts hfc hkC (u_lays hts hu f2) hi).1 q1 (by rw [q3]; exact fun h => by cases h) (v := cv w (tagV r3 (σ a r2))) ?_ rfl rfl hd ?_
    · rw [hsl, q4 r2 f2, ← f4]
    · exact kk H locs arr cells slots hR hL hlo (by simp) (by simp)
  · cases ha
theorem ty_ok {w : WD} {kd : Nat} {t : FieldType} (h : tyK kd t = true) : defaultValue t = cv w (tagV kd 0) ∧ ∀ x : Int, (kd = 1 → x = 0 ∨ x = 1) → narrow t (cv w (tagV kd x)) = cv w (tagV kd x) ∧ fits t (cv w (tagV kd x)) = true := by
  unfold tyK at h
  split at h
  · exact ⟨rfl, fun x _ => ⟨rfl, rfl⟩⟩
  · refine ⟨rfl, fun x hx => ?_⟩
    rcases hx rfl with e | e
    · subst e; exact ⟨by rfl, by rfl⟩
    · subst e
      exact ⟨(show narrow .boolean (.int (Int32.ofInt 1)) = .int (Int32.ofInt 1) by decide), (show fits .boolean (.int (Int32.ofInt 1)) = true by decide)⟩
  · refine ⟨rfl, fun x _ => ?_⟩
    show narrow _ (cv w (vR x)) = cv w (vR x) ∧ fits _ (cv w (vR x)) = true
    by_cases h0 : x ≤ 0
    · rw [cv_R0 w h0]; exact ⟨rfl, rfl⟩
    · rw [cv_R w (by omega)]; exact ⟨rfl, rfl⟩
  · refine ⟨rfl, fun x _ => ?_⟩
    show narrow _ (cv w (vR x)) = cv w (vR x) ∧ fits _ (cv w (vR x)) = true
    by_cases h0 : x ≤ 0
    · rw [cv_R0 w h0]; exact ⟨rfl, rfl⟩
    · rw [cv_R w (by omega)]; exact ⟨rfl, rfl⟩
  · exact ⟨rfl, fun x _ => ⟨rfl, rfl⟩⟩
  · cases h
set_option maxHeartbeats 4000000 in
/-- a field is written -/
theorem put_one {w : WD} {q : MR} {p : Program} {l : Launch} {e : Env} {R : Room} {s : State} {m : MethodId} {args : Array Value} {below : List Frame} {meth : Method} {c : Code} (C : CX w q p s m args meth c) {pc x r1 r2 : Nat} {r : vw_C} (hd : decode q.2.2.1 pc = .ok (.putfield x, 3)) (f1 : cls0[r1]? = some r) (f2 : r2 < r.2.2) (f3 : Jvm.Cond.fieldLink q.2.1.cls x (r.2.1 r2).1 (r.2.1 r2).2.1 (r.2.1 r2).2.2.1 ∈ gtb) (hfi : (!(finI r1 r2) || decide (q.2.1.name = "<init>")) = true) (hfo : finI r1 r2 = true → r.1 = q.2.1.cls) {σ : HP} {arr : Array Slot} {H : Heap} {locs : List Loc} {cells slots : Nat} {Q : State → Prop} (hR : Rel w σ H) (hlo : ∀ z ∈ locs, (wH w).size ≤ z.base) {a v : Int} {t : List Value} (g1 : 32 ≤ a) (g2 : a < σ (-1) 0) (g3 : σ a (-1) = r1) (hv : fkd r1 r2 = 1 → v = 0 ∨ v = 1)
    (kk : ∀ (H' : Heap) (locs' : List Loc), Rel w (up σ a r2 v) H' → (∀ z ∈ locs', (wH w).size ≤ z.base) → W p l e R s m args below meth c H' locs' cells slots Q (F0 m (pc + 3) arr t)) : W p l e R s m args below meth c H locs cells slots Q (F0 m pc arr (cv w (tagV (fkd r1 r2) v) :: .ref (adr w a) :: t)) := by
  obtain ⟨hx, hb, hml, hown, hts, hK, hin, how⟩ := C
  obtain ⟨cell, q1, q2, q3, q4⟩ := (celR_ob g3 f1).mp (hR.2.2.1 a g1 g2)
  obtain ⟨hS, hfc, kC, hkC, hkind⟩ := hK.1.1 r1 _ f1
  obtain ⟨cf, kf, fi, fd, hi, hsl⟩ := hS r2 f2
  obtain ⟨ty, hu, hnm, -, -, hty, htk, hdc⟩ := cls_ok r1 r f1
  obtain ⟨-, hnf⟩ := ty_ok (w := w) (htk r2 f2)
  obtain ⟨hn, hfit⟩ := hnf v hv
  have hst := (u_facts hfc hkC (u_lays hts hu f2) hi).1
  have hap := va_apart (own := q.2.1.cls) (C := r.1) (T := r.2.1) (N := r.2.2) hts hu ty hty hnm hK.1 f1
  have fin : ∀ H' : Heap, H'[adr w a]? = some (cell.setSlot fd.slot (cv w (tagV (fkd r1 r2) v))) → H'.size = H.size → (∀ z, z ≠ adr w a → H'[z]? = H[z]?) → W p l e R s m args below meth c H' (locs ++ [⟨adr w a, fd.slot⟩]) cells slots Q (F0 m (pc + 3) arr t) := by
    intro H' e1 e2 e3
    rw [hsl] at e1 ⊢
    refine kk H' _ (hR.put g1 e2 e3 ?_) (fun z hz => ?_)
    · refine (celR_ob (c := r1) (r := r) (by show (if (-1 : Int) = (r2 : Int) then v else σ a (-1)) = r1; rw [if_neg (by omega)]; exact g3) f1).mpr ?_
      refine t_OB.to (V := updV (fun k => cv w (tagV (fkd r1 k) (σ a k))) r2 (cv w (tagV (fkd r1 r2) v))) ⟨_, e1, q2, q3, t_set q4 hap f2 _⟩ (fun k _ => ?_)
      by_cases hk : k = r2
      · subst hk
        simp [updV]
      · have hk2 : ¬ ((k : Int) = (r2 : Int)) := by omega
        simp [updV, hk, hk2]
    · rcases List.mem_append.mp hz with h | h
      · exact hlo z h
      · cases List.mem_singleton.mp h
        exact adr_ge w g1
  have hlay := hts _ (hu _ (u_in_lay f2))
  unfold u_lay at hlay
  have hfe : finI r1 r2 = (r.2.1 r2).2.2.2 := by unfold finI; rw [f1]
  by_cases hf : (r.2.1 r2).2.2.2 = true
  · rw [if_pos hf] at hlay
    rw [hfe, hf] at hfi hfo
    have hnm2 : meth.name = "<init>" := hin (by simpa using hfi)
    have hcf : m.cls = cf := by
      obtain ⟨_, _, c', _, _, _, -, -, hf', -, -, -, hown2, -⟩ := Cond.laysFinal_spec hlay
      have e1 : c' = cf := by have := hi.symm.trans hf'; simp at this; exact this.1.symm
      rw [hdc r2 f2, hfo rfl] at hown2
      rw [← e1]; exact Option.some.inj (hown.symm.trans hown2)
    have h6 := u_fits hfc hkC hkind (Or.inr hlay) hi (hty r2 f2) hn hfit
    exact W.putFinK hx hb hown (hts _ f3) hi hst hcf hnm2 (by rw [q2]; exact h6) q1 q3 (by rw [hsl]; exact k2_hasslot (q4 r2 f2)) rfl rfl hd fin
  · rw [if_neg hf] at hlay
    have h6 := u_store hfc hkC hkind hlay hi (hty r2 f2) hn hfit
    exact W.putK hx hb (f := fd) ⟨hown, hts _ f3, ⟨_, _, _, hi⟩, hst⟩ (by rw [q2]; exact h6) q1 q3 (by rw [hsl]; exact k2_hasslot (q4 r2 f2)) rfl rfl hd fin
theorem up_m1 (σ : HP) {a : Int} (j x : Int) (k : Int) (h : 32 ≤ a) : up σ a j x (-1) k = σ (-1) k := by rw [up_off σ j x (by omega)]
set_option maxHeartbeats 4000000 in
set_option maxRecDepth 100000 in
theorem go_putfield {w : WD} {q : MR} {p : Program} {l : Launch} {e : Env} {R : Room} {s : State} {m : MethodId} {args : Array Value} {below : List Frame} {meth : Method} {c : Code} (C : CX w q p s m args meth c) {pc : Nat} {len r1 r2 r3 r4 : Nat} {sw : List (Int × Nat)} {x : Nat} (hfo' : ∀ r : vw_C, cls0[r1]? = some r → finI r1 r2 = true → r.1 = q.2.1.cls) (hd : decode q.2.2.1 pc = .ok (.putfield x, len)) (hc : chkI q pc (.putfield x, len, r1, r2, r3, r4, sw) = true) {ls st : List MV} {σ : HP} {arr : Array Slot} {H : Heap} {locs : List Loc} {cells slots : Nat} {Q : State → Prop} (hR : Rel w σ H) (hL : LR w q.2.2.2.1 ls arr) (hlo : ∀ z ∈ locs, (wH w).size ≤ z.base) {g : Bool} {br : List (Bool × Nat)} {f : Nat} {ls' st' : List MV} {σ' : HP} (ha : act0 pc (.putfield x, len, r1, r2, r3, r4, sw) ls st σ = some (.inl (g, br, f, ls', st', σ'))) (hg : g = true) (hrc : cells + (σ' (-1) 0 - σ (-1) 0).toNat ≤ R.cells) (hrs : slots + (σ' (-1) 1 - σ (-1) 1).toNat ≤ R.slots)
    (kk : ∀ (H' : Heap) (locs' : List Loc) (arr' : Array Slot) (cells' slots' : Nat), Rel w σ' H' → LR w q.2.2.2.1 ls' arr' → (∀ z ∈ locs', (wH w).size ≤ z.base) → cells' = cells + (σ' (-1) 0 - σ (-1) 0).toNat → slots' = slots + (σ' (-1) 1 - σ (-1) 1).toNat → W p l e R s m args below meth c H' locs' cells' slots' Q (F0 m (brTT f br) arr' (st'.map (cv w)))) : W p l e R s m args below meth c H locs cells slots Q (F0 m pc arr (st.map (cv w))) := by
  obtain ⟨hx, hb, hml, hown, hts, hK, hin, how⟩ := C
  simp only [chkI, Bool.and_eq_true] at hc
  obtain ⟨⟨hl, hc1⟩, hc2⟩ := hc
  have hl : len = 3 := Nat.eq_of_beq_eq_true hl
  subst hl
  obtain ⟨r, f1, f2, f3, f4⟩ := ft_use how hc1
  have hfo : finI r1 r2 = true → r.1 = q.2.1.cls := hfo' r f1
  simp only [act0] at ha
  split at ha
  · rename_i v a t
    cases ha
    simp only [Bool.and_eq_true] at hg
    obtain ⟨⟨hk, hfx⟩, hg⟩ := hg
    obtain ⟨g1, g2, g3⟩ := of_decide_eq_true hg
    have hk3 : r3 < 2 := by simpa [Nat.blt_eq] using hk
    have ev : vI v = tagV (fkd r1 r2) v := by rw [f4]; match r3, hk3 with
      | 0, _ => rfl
      | 1, _ => rfl
    simp only [List.map_cons]
    rw [cv_R w (x := a) (by omega)]
    show W p l e R s m args below meth c H locs cells slots Q (F0 m pc arr (cv w (vI v) :: _))
    rw [ev]
    refine put_one ⟨hx, hb, hml, hown, hts, hK, hin, how⟩ hd f1 f2 f3 hc2 hfo hR hlo g1 g2 g3 (fun h1 => ?_) (fun H' locs' hR' hlo' => kk H' locs' arr cells slots hR' hL hlo' (by rw [up_m1 σ _ _ _ g1]; simp) (by rw [up_m1 σ _ _ _ g1]; simp))
    rw [f4] at h1
    subst h1
    exact of_decide_eq_true hfx
  · rename_i v a t
    cases ha
    simp only [Bool.and_eq_true] at hg
    obtain ⟨hk, hg⟩ := hg
    obtain ⟨g1, g2, g3⟩ := of_decide_eq_true hg
    have hk3 : r3 = 2 := Nat.eq_of_beq_eq_true hk
    subst hk3
    have ev : vR v = tagV (fkd r1 r2) v := by rw [f4]; rfl
    simp only [List.map_cons]
    rw [cv_R w (x := a) (by omega)]
    show W p l e R s m args below meth c H locs cells slots Q (F0 m pc arr (cv w (vR v) :: _))
    rw [ev]
    exact put_one ⟨hx, hb, hml, hown, hts, hK, hin, how⟩ hd f1 f2 f3 hc2 hfo hR hlo g1 g2 g3 (fun h1 => by rw [f4] at h1; cases h1) (fun H' locs' hR' hlo' => kk H' locs' arr cells slots hR' hL hlo' (by rw [up_m1 σ _ _ _ g1]; simp) (by rw [up_m1 σ _ _ _ g1]; simp))
  · rename_i v a t
    cases ha
    simp only [Bool.and_eq_true] at hg
    obtain ⟨hk, hg⟩ := hg
    obtain ⟨g1, g2, g3⟩ := of_decide_eq_true hg
    have hk3 : r3 = 3 := Nat.eq_of_beq_eq_true hk
    subst hk3
    have ev : vL v = tagV (fkd r1 r2) v := by rw [f4]; rfl
    simp only [List.map_cons]
    rw [cv_R w (x := a) (by omega)]
    show W p l e R s m args below meth c H locs cells slots Q (F0 m pc arr (cv w (vL v) :: _))
    rw [ev]
    exact put_one ⟨hx, hb, hml, hown, hts, hK, hin, how⟩ hd f1 f2 f3 hc2 hfo hR hlo g1 g2 g3 (fun h1 => by rw [f4] at h1; cases h1) (fun H' locs' hR' hlo' => kk H' locs' arr cells slots hR' hL hlo' (by rw [up_m1 σ _ _ _ g1]; simp) (by rw [up_m1 σ _ _ _ g1]; simp))
  · cases ha
