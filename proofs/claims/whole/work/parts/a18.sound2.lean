/-- what a run of the small machine says of the machine -/
def SND (w : WD) (l : Launch) (d k pc : Nat) (ls st : List MV) (σ : HP) (r : Int) (σ' : HP) : Prop := ∀ q : MR, prog[k]? = some q → ∀ (p : Program) (e : Env) (R : Room) (s : State) (m : MethodId) (args : Array Value) (below : List Frame) (meth : Method) (c : Code), CX w q p s m args meth c → ∀ (H : Heap) (locs : List Loc) (cells slots : Nat) (arr : Array Slot) (Q : State → Prop), Rel w σ H → LR w q.2.2.2.1 ls arr → (∀ z ∈ locs, (wH w).size ≤ z.base) → d ≤ R.frames → 40 * d ≤ R.locals → cells + (σ' (-1) 0 - σ (-1) 0).toNat ≤ R.cells → slots + (σ' (-1) 1 - σ (-1) 1).toNat ≤ R.slots →
  (∀ (H' : Heap) (locs' : List Loc) (cells' slots' pc' : Nat) (arr' : Array Slot) (st' : List MV), Rel w σ' H' → (∀ z ∈ locs', (wH w).size ≤ z.base) → cells' ≤ cells + (σ' (-1) 0 - σ (-1) 0).toNat → slots' ≤ slots + (σ' (-1) 1 - σ (-1) 1).toNat → RetAt q pc' st' r → W p l e R s m args below meth c H' locs' cells' slots' Q (F0 m pc' arr' (st'.map (cv w)))) → W p l e R s m args below meth c H locs cells slots Q (F0 m pc arr (st.map (cv w)))
def ws0 (q : MR) : List Cond := Jvm.Cond.code q.2.1 q.2.2.1 q.2.2.2.1 q.2.2.2.2.1 :: gtb
theorem ws0_good {q : MR} {n : Nat} (h : MFr q n) : GoodIn gtb (ws0 q) := by
  intro w hw
  rcases List.mem_cons.mp hw with e | e
  · subst e
    exact ⟨h.1, good_of_word (List.mem_filter.mp h.1).2⟩
  · exact ⟨e, good_of_word (List.mem_filter.mp e).2⟩
def rm0' (d mc ms : Nat) : Room := { frames := d, cells := mc, slots := ms, locals := 40 * d }
def PcW (w : WD) (as : List MV) (σ : HP) : Array Value → State → Prop := va_Pc (as.map (cv w)) (fun U => Rel w σ U.heap ∧ KB w U)
def QcW (w : WD) (rk : Nat) (r : Int) (σ' : HP) : Array Value → State → Outcome → State → Prop := fun _ _ oc t => oc = .returned (rvK w rk r) ∧ Rel w σ' t.heap
set_option maxHeartbeats 4000000 in
/-- a method's contract out of its run -/
theorem met_of {w : WD} {l : Launch} {d k n : Nat} {as : List MV} {σ σ' : HP} {r : Int} {q : MR} (hq : prog[k]? = some q) (hown : ownL[q.1]? = some q.2.1.cls) (hM : MFr q n) (hS : SND w l d k 0 (padA q.2.2.2.1 as) [] σ r σ') (hlen : (exA as).length ≤ q.2.2.2.1) : Met l q.2.1 (ws0 q) (rm0' d (σ' (-1) 0 - σ (-1) 0).toNat (σ' (-1) 1 - σ (-1) 1).toNat) (PcW w as σ) (QcW w (retK q.2.2.2.2.1) r σ') (σ' (-1) 0 - σ (-1) 0).toNat (σ' (-1) 1 - σ (-1) 1).toNat (fun z => (wH w).size ≤ z) := by
  refine Met.ofW (cc := q.2.2.1) (maxL := q.2.2.2.1) (ret := q.2.2.2.2.1) hM.2.2.2 rfl ?_
  intro p e s m args below meth c s₁ B hml hv
  obtain ⟨rfl, hR, hK⟩ := hv
  have hx := B.exec
  have hb := B.bytes
  have hr := B.returns
  have hts0 := atoms_spec (ws := ws0 q) B.pre
  have hts : ∀ w ∈ gtb, w.before _ s = true := fun w hw => hts0 w (List.mem_cons_of_mem _ hw)
  have hfc : s.vm.findClass q.2.1.cls = some m.cls := findClass_of_methodNamed B.named
  have hlocks := B.notSynchronized
  have hnm : meth.name = q.2.1.name := (name_of_methodNamed B.named B.method).1
  have hL := entry_LR w as q.2.2.2.1 hlen
  rw [lg_entry_eq]
  refine hS q hq p e _ s m _ below meth c ⟨hx, hb, hml, hfc, hts, hK, fun h => hnm.trans h, hown⟩ s.heap [] 0 0 _ _ hR hL (fun z h => by cases h) (Nat.le_refl d) (Nat.le_refl (40 * d)) (by rw [Nat.zero_add]; exact Nat.le_refl _) (by rw [Nat.zero_add]; exact Nat.le_refl _) ?_
  intro H' locs' cells' slots' pc' arr' st' hR' hlo' hc' hs' hret
  rw [Nat.zero_add] at hc' hs'
  refine W.widen hc' hs' ?_
  rcases hret with ⟨h1, h2, h3⟩ | ⟨h1, h2, C, h3⟩ | ⟨h1, h2, h3⟩ | ⟨h1, h2, h3, h4⟩
  · subst h2
    rcases h3 with h3 | ⟨h3, h4⟩
    · refine W.iret hx hb (hr.trans h3) (fun t ht hW => ⟨by rw [h3]; rfl, by rw [ht]; exact hR'⟩) hlo' h1
    · refine W.zret (ty := .boolean) hx hb (hr.trans h3) ?_ (fun t ht hW => ⟨by rw [h3]; rfl, by rw [ht]; exact hR'⟩) hlo' h1
      rcases h4 with e | e
      · subst e; decide
      · subst e; decide
  · subst h2
    refine W.aret (rt := .object C) hx hb (hr.trans h3) (Or.inl ⟨C, rfl⟩) ?_ (fun t ht hW => ⟨by rw [h3]; rfl, by rw [ht]; exact hR'⟩) hlo' h1
    by_cases h0 : r ≤ 0
    · exact Or.inl (cv_R0 w h0)
    · exact Or.inr ⟨_, cv_R w (by omega)⟩
  · subst h2
    exact W.lret hx hb (hr.trans h3) (fun t ht hW => ⟨by rw [h3]; rfl, by rw [ht]; exact hR'⟩) hlo' h1
  · subst h2
    exact W.vret hx hb (hr.trans h3) (fun t ht hW => ⟨by rw [h3]; rfl, by rw [ht]; exact hR'⟩) hlo' h1
theorem pc_blind (w : WD) (as : List MV) (σ : HP) : FrameBlind (PcW w as σ) := fun a U g mk h => ⟨h.1, h.2.1, KB.same rfl h.2.2⟩
theorem wds_cat (w : WD) : ∀ t : List MV, ((t.map (cv w)).map fun v => v.category).sum = wds t := by
  intro t
  induction t with
  | nil => rfl
  | cons v l ih =>
    rw [List.map_cons, List.map_cons, List.sum_cons, ih]
    match v with
    | .inl x => rfl
    | .inr (.inl x) =>
      show (cv w (vR x)).category + _ = 1 + _
      rw [cv_Rc]
    | .inr (.inr (.inl x)) => rfl
    | .inr (.inr (.inr ())) => rfl
set_option maxHeartbeats 4000000 in
/-- behind a call -/
theorem run_W {w : WD} {p : Program} {l : Launch} {e : Env} {R : Room} {s : State} {m : MethodId} {args : Array Value} {below : List Frame} {meth : Method} {c : Code} {H : Heap} {locs : List Loc} {cells slots mc ms pc : Nat} {arr : Array Slot} {st0 : List Value} {t : List MV} {Q : State → Prop} {rk : Nat} {r : Int} {σ' : HP} {a : Array Value} (hr : va_Run p l e R s m args below meth c H locs cells slots mc ms (F0 m pc arr st0) (t.map (cv w)) (QcW w rk r σ' a) (fun z => (wH w).size ≤ z)) (hlo : ∀ z ∈ locs, (wH w).size ≤ z.base)
    (kk : ∀ (H' : Heap) (locs' : List Loc), Rel w σ' H' → (∀ z ∈ locs', (wH w).size ≤ z.base) → W p l e R s m args below meth c H' locs' (cells + mc) (slots + ms) Q (F0 m (pc + 3) arr ((pshR rk r t).map (cv w)))) : W p l e R s m args below meth c H locs cells slots Q (F0 m pc arr st0) := by
  intro T hT X
  obtain ⟨v, st₀, t', T', L, h0, X', hL, e1, e2, ⟨hv, hrel⟩, st⟩ := hr T hT X
  have hv : v = rvK w rk r := Outcome.returned.inj hv
  subst hv
  have k2 := kk T'.heap (locs ++ L) (by rw [e1]; exact hrel) (fun z hz => by
    rcases List.mem_append.mp hz with h | h
    · exact hlo z h
    · exact hL z h)
  rw [← rvK_psh] at k2
  obtain ⟨t2, a1, b1⟩ := k2 T' rfl X'
  exact ⟨t2, st t2 a1, b1⟩
/-- what a call of the library does, where it is no method of the program -/
def PRM (w : WD) (l : Launch) : Prop := ∀ (q : MR) (p : Program) (e : Env) (R : Room) (s : State) (m : MethodId) (args : Array Value) (below : List Frame) (meth : Method) (c : Code), CX w q p s m args meth c → ∀ (k pc : Nat) (as t st : List MV) (rk : Nat) (σ σ1 : HP) (r : Int) (H : Heap) (locs : List Loc) (cells slots : Nat) (arr : Array Slot) (Q : State → Prop), CallAt q pc st σ k as t rk → 1000 ≤ k → prm k as σ = some (r, σ1) → Rel w σ H → arr.size = q.2.2.2.1 → (∀ z ∈ locs, (wH w).size ≤ z.base) → 6 ≤ R.frames → 240 ≤ R.locals → cells ≤ R.cells → slots ≤ R.slots → (∀ (H' : Heap) (locs' : List Loc), Rel w σ1 H' → (∀ z ∈ locs', (wH w).size ≤ z.base) → W p l e R s m args below meth c H' locs' cells slots Q (F0 m (pc + 3) arr ((pshR rk r t).map (cv w)))) → W p l e R s m args below meth c H locs cells slots Q (F0 m pc arr (st.map (cv w)))
theorem MX_of {k : Nat} {q : MR} (h : prog[k]? = some q) : MX k = q.2.2.2.1 := by unfold MX; rw [h]
theorem prog_own {k : Nat} {q : MR} (h : prog[k]? = some q) : ownL[q.1]? = some q.2.1.cls := by
  have h1 := prog_ok q (List.mem_of_getElem? h)
  unfold chkM at h1
  rw [Bool.and_eq_true] at h1
  exact of_decide_eq_true h1.2
theorem own_ok : ∀ c ∈ ownL, c ≠ "java/lang/invoke/MethodHandle" ∧ c ≠ "java/lang/invoke/VarHandle" := by decide +kernel
theorem prog_nh {k : Nat} {q : MR} (h : prog[k]? = some q) : q.2.1.cls ≠ "java/lang/invoke/MethodHandle" ∧ q.2.1.cls ≠ "java/lang/invoke/VarHandle" := own_ok _ (List.mem_of_getElem? (prog_own h))
theorem mx40 : prog.all (fun q => Nat.ble q.2.2.2.1 21) = true := by decide +kernel
theorem mx_le {k : Nat} {q : MR} (h : prog[k]? = some q) : q.2.2.2.1 ≤ 21 := Nat.le_of_ble_eq_true (List.all_eq_true.mp mx40 q (List.mem_of_getElem? h))
theorem MPr_0 {o x k n r r4 : Nat} (h : MPr [o, x, 0, k, n, r, r4]) (hk : k < 1000) : ∃ (own : String) (q : MR), ownL[o]? = some own ∧ prog[k]? = some q ∧ Jvm.Cond.methodLink own x q.2.1 ∈ gtb ∧ Jvm.Cond.static q.2.1 ∈ gtb ∧ MFr q n ∧ retK q.2.2.2.2.1 = r := by
  unfold MPr at h
  split at h
  all_goals (rename_i e; simp only [List.cons.injEq, and_true] at e)
  all_goals (try omega)
  all_goals (try exact h.elim)
  obtain ⟨e1, e2, e3, e4, e5, e6, e7⟩ := e
  subst e1; subst e2; subst e4; subst e5; subst e6
  obtain ⟨own, q, h1, h2, h3, h4, h5, h6, h7⟩ := h
  exact ⟨own, q, h1, h2, h3, h4, h5, h6⟩
theorem MPr_1 {o x k n r r4 : Nat} (h : MPr [o, x, 1, k, n + 1, r, r4]) (hk : k < 1000) : ∃ (own : String) (q : MR) (c : vw_C), ownL[o]? = some own ∧ prog[k]? = some q ∧ cls0[r4]? = some c ∧ c.1 = q.2.1.cls ∧ Jvm.Cond.methodLink own x q.2.1 ∈ gtb ∧ (Jvm.Cond.instanceMethod q.2.1 ∈ gtb ∧ Jvm.Cond.selects q.2.1.cls q.2.1 q.2.1 ∈ gtb) ∧ MFr q n ∧ retK q.2.2.2.2.1 = r := by
  unfold MPr at h
  split at h
  all_goals (rename_i e; simp only [List.cons.injEq, and_true] at e)
  all_goals (try omega)
  all_goals (try exact h.elim)
  obtain ⟨e1, e2, e3, e4, e5, e6, e7⟩ := e
  have e5 := Nat.succ.inj e5
  subst e1; subst e2; subst e4; subst e5; subst e6; subst e7
  obtain ⟨own, q, c, h1, h2, h3, h4, h5, h6, h7, h8, h9⟩ := h
  exact ⟨own, q, c, h1, h2, h3, h4, h5, h6, h7, h8⟩
theorem MPr_2 {o x k n r r4 : Nat} (h : MPr [o, x, 2, k, n + 1, r, r4]) (hk : k < 1000) : ∃ (own : String) (q : MR), ownL[o]? = some own ∧ prog[k]? = some q ∧ q.2.1.name = "<init>" ∧ Jvm.Cond.methodLink own x q.2.1 ∈ gtb ∧ Jvm.Cond.instanceMethod q.2.1 ∈ gtb ∧ MFr q n ∧ q.2.2.2.2.1 = none ∧ r = 0 := by
  unfold MPr at h
  split at h
  all_goals (rename_i e; simp only [List.cons.injEq, and_true] at e)
  all_goals (try omega)
  all_goals (try exact h.elim)
  obtain ⟨e1, e2, e3, e4, e5, e6, e7⟩ := e
  have e5 := Nat.succ.inj e5
  subst e1; subst e2; subst e4; subst e5
  obtain ⟨own, q, h1, h2, h3, h4, h5, h6, h7, h8⟩ := h
  exact ⟨own, q, h1, h2, h3, h4, h5, h6, h7, e6⟩
set_option maxHeartbeats 8000000 in
theorem sound {w : WD} {l : Launch} (hP : PRM w l) : ∀ (n d k pc : Nat) (ls st : List MV) (σ : HP) (r : Int) (σ' : HP), 32 ≤ σ (-1) 0 → evP PG0 MX n d k pc ls st σ = some (r, σ') → SND w l d k pc ls st σ r σ' := by
  intro n
  induction n with
  | zero => intro d k pc ls st σ r σ' _ h; cases h
  | succ n ih =>
    intro d k pc ls st σ r σ' h0 h q hq p e R s m args below meth c C H locs cells slots arr Q hR hL hlo hfr hlr hrc hrs hret
    rw [evP_succ] at h
    cases he : lkP (PG0 k) pc with
    | none => rw [he] at h; cases h
    | some en =>
      rw [he] at h
      have h : stp (clP PG0 MX n d) (evP PG0 MX n d k) pc ls σ (act0 pc en (klS en ls) st σ) = some (r, σ') := h
      obtain ⟨hE, hpf, hnw, hown⟩ := lkP_ok hq he
      have hL' := klS_LR en hL
      match ha : act0 pc en (klS en ls) st σ with
      | none => rw [ha] at h; cases h
      | some (.inl (g, br, f, ls', st', σ1)) =>
        rw [ha] at h
        cases g with
        | false => cases h
        | true =>
          have h1 : brs (evP PG0 MX n d k) ls' st' σ1 f br = some (r, σ') := h
          rw [brs_T] at h1
          have g1 := act_gro h0 ha rfl
          have h01 := Int.le_trans h0 g1.1
          have g2 : gro σ1 σ' := ev_gro n d k _ ls' st' σ1 _ h01 h1
          have a1 := g1.1; have a2 := g1.2; have a3 := g2.1; have a4 := g2.2
          obtain ⟨i, len, r1, r2, r3, r4, sw⟩ := en
          obtain ⟨hd, hc⟩ := chkE_use hE
          refine go_all C (hpf := fun x hx => hpf x r1 r2 r3 r4 sw len (by rw [hx])) (hnw := fun x hx => hnw x r1 r2 r3 r4 sw len (by rw [hx])) hd hc hR hL' hlo ha rfl (by omega) (by omega) ?_
          intro H' locs' arr' cells' slots' hR' hL1 hlo' hce hse
          refine ih d k _ ls' st' σ1 r σ' h01 h1 q hq p e R s m args below meth c C H' locs' cells' slots' arr' Q hR' hL1 hlo' hfr hlr (by omega) (by omega) ?_
          intro H2 locs2 cells2 slots2 pc2 arr2 st2 hR2 hlo2 hc2 hs2 hret2
          exact hret H2 locs2 cells2 slots2 pc2 arr2 st2 hR2 hlo2 (by omega) (by omega) hret2
      | some (.inr (.inl (g, k', as, t, rk))) =>
        rw [ha] at h
        cases g with
        | false => cases h
        | true =>
          have h1 : bnd (clP PG0 MX n d k' as σ) (fun q => evP PG0 MX n d k (pc + 3) ls (pshR rk q.1 t) q.2) = some (r, σ') := h
          have hca := call_at hE ha rfl
          cases hq1 : clP PG0 MX n d k' as σ with
          | none => rw [hq1] at h1; cases h1
          | some q1 =>
            rw [hq1] at h1
            have h1 : evP PG0 MX n d k (pc + 3) ls (pshR rk q1.1 t) q1.2 = some (r, σ') := h1
            unfold clP at hq1
            cases hb : Nat.ble 1000 k' with
            | true =>
              rw [hb] at hq1
              cases hb6 : Nat.ble 6 d with
              | false => rw [hb6] at hq1; cases hq1
              | true =>
                rw [hb6] at hq1
                have hq1 : prm k' as σ = some (q1.1, q1.2) := hq1
                have h6 := Nat.le_of_ble_eq_true hb6
                have g1 := prm_gro hq1
                have h01 := Int.le_trans h0 g1.1
                have g2 : gro q1.2 σ' := ev_gro n d k _ _ _ q1.2 _ h01 h1
                have a1 := g1.1; have a2 := g1.2; have a3 := g2.1; have a4 := g2.2
                dsimp only at a1 a2 a3 a4
                refine hP q p e R s m args below meth c C k' pc as t st rk σ q1.2 q1.1 H locs cells slots arr Q hca (Nat.le_of_ble_eq_true hb) hq1 hR hL.2.1 hlo (by omega) (by omega) (by omega) (by omega) ?_
                intro H' locs' hR' hlo'
                refine ih d k _ _ _ q1.2 r σ' h01 h1 q hq p e R s m args below meth c C H' locs' cells slots arr Q hR' hL hlo' hfr hlr (by omega) (by omega) ?_
                intro H2 locs2 cells2 slots2 pc2 arr2 st2 hR2 hlo2 hc2 hs2 hret2
                exact hret H2 locs2 cells2 slots2 pc2 arr2 st2 hR2 hlo2 (by omega) (by omega) hret2
            | false =>
              rw [hb] at hq1
              have hk' : k' < 1000 := by
                rcases Nat.lt_or_ge k' 1000 with z | z
                · exact z
                · rw [Nat.ble_eq_true_of_le z] at hb; cases hb
              match d, hq1, hfr, hlr, h1 with
              | 0, hq1, _, _, _ => cases hq1
              | d' + 1, hq1, hfr, hlr, h1 =>
                have hq1 : (bif Nat.ble (exA as).length (MX k') then evP PG0 MX n d' k' 0 (padA (MX k') as) [] σ else none) = some q1 := hq1
                cases hb2 : Nat.ble (exA as).length (MX k') with
                | false => rw [hb2] at hq1; cases hq1
                | true =>
                  rw [hb2] at hq1
                  have hq1 : evP PG0 MX n d' k' 0 (padA (MX k') as) [] σ = some (q1.1, q1.2) := hq1
                  have hlen := Nat.le_of_ble_eq_true hb2
                  have g1 : gro σ q1.2 := ev_gro n d' k' _ _ _ σ _ h0 hq1
                  have h01 := Int.le_trans h0 g1.1
                  have g2 : gro q1.2 σ' := ev_gro n (d' + 1) k _ _ _ q1.2 _ h01 h1
                  have a1 := g1.1; have a2 := g1.2; have a3 := g2.1; have a4 := g2.2
                  try dsimp only at a1 a2 a3 a4
                  have hs1 := ih d' k' 0 _ [] σ q1.1 q1.2 h0 hq1
                  have fin : ∀ (H' : Heap) (locs' : List Loc), Rel w q1.2 H' → (∀ z ∈ locs', (wH w).size ≤ z.base) → W p l e R s m args below meth c H' locs' (cells + (q1.2 (-1) 0 - σ (-1) 0).toNat) (slots + (q1.2 (-1) 1 - σ (-1) 1).toNat) Q (F0 m (pc + 3) arr ((pshR rk q1.1 t).map (cv w))) := by
                    intro H' locs' hR' hlo'
                    refine ih (d' + 1) k _ _ _ q1.2 r σ' h01 h1 q hq p e R s m args below meth c C H' locs' _ _ arr Q hR' hL hlo' hfr hlr (by omega) (by omega) ?_
                    intro H2 locs2 cells2 slots2 pc2 arr2 st2 hR2 hlo2 hc2 hs2 hret2
                    exact hret H2 locs2 cells2 slots2 pc2 arr2 st2 hR2 hlo2 (by omega) (by omega) hret2
                  obtain ⟨hx, hbb, hml, hfc, hts, hK, hin, how⟩ := C
                  obtain ⟨hwd, x, r4, hcc⟩ := hca
                  rw [← wds_cat w] at hwd
                  have hsz : arr.size = q.2.2.2.1 := hL.2.1
                  rcases hcc with ⟨hd, hst, hm⟩ | ⟨a, as', has, ha0, hst, ⟨hd, hm⟩ | ⟨hd, hm, hn1, hn2⟩⟩
                  · obtain ⟨own, q', m1, m2, m3, m4, m5, m6⟩ := MPr_0 hm hk'
                    rw [how] at m1
                    cases m1
                    rw [MX_of m2] at hlen hs1
                    have hM := met_of m2 (prog_own m2) m5 hs1 hlen
                    rw [m6] at hM
                    have hml' := mx_le m2
                    subst hst
                    rw [List.map_append, List.map_reverse]
                    refine run_W (va_runS (n := as.length) (As := as.map (cv w)) (rest := t.map (cv w)) ⟨hx, hbb, hml, hfc, hts⟩ hM ⟨callB_of (own := q.2.1.cls) (index := x) as.length hts (ws0_good m5) rfl rfl rfl (hts _ m5.2.1) (hts _ m3) ⟨(prog_nh m2).1, (prog_nh m2).2, m5.2.2.1⟩ ⟨hfr, by show 8 + (q'.2.2.2.1 + 11) + 40 * d' ≤ R.locals; omega⟩, hts _ m4⟩ ⟨pc_blind w as σ, fun U hU hW => ⟨rfl, by rw [hU]; exact hR, hK.warm hW⟩⟩ rfl (by simp) hsz rfl (lv_room hwd) hd ⟨by omega, by omega⟩) hlo fin
                  · obtain ⟨own, q', m1, m2, m3, m4, m5, m6, m7, m8⟩ := MPr_2 hm hk'
                    rw [how] at m1
                    cases m1
                    rw [MX_of m2] at hlen hs1
                    have hM := met_of m2 (prog_own m2) m6 hs1 hlen
                    rw [m7] at hM
                    subst m8
                    have hml' := mx_le m2
                    subst has
                    subst hst
                    rw [List.map_append, List.map_reverse, List.map_cons, cv_R w ha0]
                    refine run_W (va_runI (n := as'.length) (As := as'.map (cv w)) (rest := t.map (cv w)) ⟨hx, hbb, hml, hfc, hts⟩ hM ⟨callB_of (own := q.2.1.cls) (index := x) (ret := none) as'.length hts (ws0_good m6) (by unfold ws0; rw [m7]) rfl rfl (hts _ m6.2.1) (hts _ m4) ⟨(prog_nh m2).1, (prog_nh m2).2, m6.2.2.1⟩ ⟨hfr, by show 8 + (q'.2.2.2.1 + 11) + 40 * d' ≤ R.locals; omega⟩, m3, hts _ m5⟩ ⟨pc_blind w _ σ, fun U hU hW => ⟨by rw [List.map_cons, cv_R w ha0], by rw [hU]; exact hR, hK.warm hW⟩⟩ rfl (by simp) hsz rfl (lv_room hwd) hd ⟨by omega, by omega⟩) hlo fin
                  · obtain ⟨own, q', c0, m1, m2, m3, m4, m5, m6, m7, m8⟩ := MPr_1 hm hk'
                    rw [how] at m1
                    cases m1
                    rw [MX_of m2] at hlen hs1
                    have hM := met_of m2 (prog_own m2) m7 hs1 hlen
                    rw [m8] at hM
                    have hml' := mx_le m2
                    subst has
                    subst hst
                    rw [List.map_append, List.map_reverse, List.map_cons, cv_R w ha0]
                    have hr4 : r4 < 10 := (List.getElem?_eq_some_iff.mp m3).1
                    have h32 : 32 ≤ a := by
                      rcases Int.lt_or_le a 32 with z | z
                      · exfalso
                        have := hR.2.2.2.2 a (-1) ha0 z
                        exact old_no hK.2.1 ha0 z (this.symm.trans hn2) (by omega) (by omega) (by omega)
                      · exact z
                    obtain ⟨cell, q1', q2', q3', q4'⟩ := (celR_ob hn2 m3).mp (hR.2.2.1 a h32 hn1)
                    have hcl := (hK.1.1 r4 _ m3).2.1
                    rw [m4] at hcl
                    refine run_W (va_runV (C := q'.2.1.cls) (n := as'.length) (As := as'.map (cv w)) (rest := t.map (cv w)) ⟨hx, hbb, hml, hfc, hts⟩ hM ⟨callB_of (own := q.2.1.cls) (index := x) as'.length hts (ws0_good m7) rfl rfl rfl (hts _ m7.2.1) (hts _ m5) ⟨(prog_nh m2).1, (prog_nh m2).2, m7.2.2.1⟩ ⟨hfr, by show 8 + (q'.2.2.2.1 + 11) + 40 * d' ≤ R.locals; omega⟩, hts _ m6.1, hts _ m6.2⟩ ⟨pc_blind w _ σ, ⟨cell, q1', by rw [q3']; rfl, by rw [q2']; exact hcl⟩, fun U hU hW => ⟨by rw [List.map_cons, cv_R w ha0], by rw [hU]; exact hR, hK.warm hW⟩⟩ rfl (by simp) hsz rfl (lv_room hwd) hd ⟨by omega, by omega⟩) hlo fin
      | some (.inr (.inr (g, y))) =>
        rw [ha] at h
        cases g with
        | false => cases h
        | true =>
          cases h
          exact hret H locs cells slots pc arr st hR hlo (by omega) (by omega) (ret_at hE ha rfl)
