-- @after
/-! TEXTS: length() and charAt() of the constants (the first rows printed by wip/whole/gen19s.py) -/
abbrev jc_len : ByteArray := prog_16_method_54_code
def jy_len : MethodName := ⟨"java/lang/String", "length", "()I"⟩
theorem jw_len : Jvm.Cond.code jy_len jc_len 1 (some .int) ∈ gtb := (gw (List.mem_append_right _ (List.mem_append_right _ (List.mem_append_left _ (List.mem_of_getElem? (l := tables_1_2) (i := 84) rfl)))) rfl)
theorem jd_len_0 : decode jc_len 0 = .ok (.aload_n 0, 1) := by decide +kernel
theorem jd_len_1 : decode jc_len 1 = .ok (.getfield 9, 3) := by decide +kernel
theorem jd_len_4 : decode jc_len 4 = .ok (.arraylength, 1) := by decide +kernel
theorem jd_len_5 : decode jc_len 5 = .ok (.aload_n 0, 1) := by decide +kernel
theorem jd_len_6 : decode jc_len 6 = .ok (.invokevirtual 335, 3) := by decide +kernel
theorem jd_len_9 : decode jc_len 9 = .ok (.ishr, 1) := by decide +kernel
theorem jd_len_10 : decode jc_len 10 = .ok (.ireturn, 1) := by decide +kernel
theorem ji_len : Jvm.Cond.instanceMethod jy_len ∈ gtb := (gw (List.mem_append_right _ (List.mem_append_right _ (List.mem_append_left _ (List.mem_of_getElem? (l := tables_1_2) (i := 82) rfl)))) rfl)
theorem je_len : Jvm.Cond.selects "java/lang/String" jy_len jy_len ∈ gtb := (gw (List.mem_append_right _ (List.mem_append_right _ (List.mem_append_left _ (List.mem_of_getElem? (l := tables_1_2) (i := 83) rfl)))) rfl)
abbrev jc_cod : ByteArray := prog_16_method_152_code
def jy_cod : MethodName := ⟨"java/lang/String", "coder", "()B"⟩
theorem jw_cod : Jvm.Cond.code jy_cod jc_cod 1 (some .byte) ∈ gtb := (gw (List.mem_append_right _ (List.mem_append_right _ (List.mem_append_left _ (List.mem_of_getElem? (l := tables_1_2) (i := 88) rfl)))) rfl)
theorem jd_cod_0 : decode jc_cod 0 = .ok (.getstatic 38, 3) := by decide +kernel
theorem jd_cod_3 : decode jc_cod 3 = .ok (.ifCond .eq 10, 3) := by decide +kernel
theorem jd_cod_6 : decode jc_cod 6 = .ok (.aload_n 0, 1) := by decide +kernel
theorem jd_cod_7 : decode jc_cod 7 = .ok (.getfield 15, 3) := by decide +kernel
theorem jd_cod_10 : decode jc_cod 10 = .ok (.goto 4, 3) := by decide +kernel
theorem jd_cod_13 : decode jc_cod 13 = .ok (.iconst 1, 1) := by decide +kernel
theorem jd_cod_14 : decode jc_cod 14 = .ok (.ireturn, 1) := by decide +kernel
theorem ji_cod : Jvm.Cond.instanceMethod jy_cod ∈ gtb := (gw (List.mem_append_right _ (List.mem_append_right _ (List.mem_append_left _ (List.mem_of_getElem? (l := tables_1_2) (i := 86) rfl)))) rfl)
theorem je_cod : Jvm.Cond.selects "java/lang/String" jy_cod jy_cod ∈ gtb := (gw (List.mem_append_right _ (List.mem_append_right _ (List.mem_append_left _ (List.mem_of_getElem? (l := tables_1_2) (i := 87) rfl)))) rfl)
abbrev jc_cha : ByteArray := prog_16_method_56_code
def jy_cha : MethodName := ⟨"java/lang/String", "charAt", "(I)C"⟩
theorem jw_cha : Jvm.Cond.code jy_cha jc_cha 2 (some .char) ∈ gtb := (gw (List.mem_append_right _ (List.mem_append_right _ (List.mem_append_left _ (List.mem_of_getElem? (l := tables_1_2) (i := 94) rfl)))) rfl)
theorem jd_cha_0 : decode jc_cha 0 = .ok (.aload_n 0, 1) := by decide +kernel
theorem jd_cha_1 : decode jc_cha 1 = .ok (.invokevirtual 492, 3) := by decide +kernel
theorem jd_cha_4 : decode jc_cha 4 = .ok (.ifCond .eq 12, 3) := by decide +kernel
theorem jd_cha_7 : decode jc_cha 7 = .ok (.aload_n 0, 1) := by decide +kernel
theorem jd_cha_8 : decode jc_cha 8 = .ok (.getfield 9, 3) := by decide +kernel
theorem jd_cha_11 : decode jc_cha 11 = .ok (.iload_n 1, 1) := by decide +kernel
theorem jd_cha_12 : decode jc_cha 12 = .ok (.invokestatic 495, 3) := by decide +kernel
theorem jd_cha_15 : decode jc_cha 15 = .ok (.ireturn, 1) := by decide +kernel
theorem jd_cha_16 : decode jc_cha 16 = .ok (.aload_n 0, 1) := by decide +kernel
theorem jd_cha_17 : decode jc_cha 17 = .ok (.getfield 9, 3) := by decide +kernel
theorem jd_cha_20 : decode jc_cha 20 = .ok (.iload_n 1, 1) := by decide +kernel
theorem jd_cha_21 : decode jc_cha 21 = .ok (.invokestatic 498, 3) := by decide +kernel
theorem jd_cha_24 : decode jc_cha 24 = .ok (.ireturn, 1) := by decide +kernel
theorem ji_cha : Jvm.Cond.instanceMethod jy_cha ∈ gtb := (gw (List.mem_append_right _ (List.mem_append_right _ (List.mem_append_left _ (List.mem_of_getElem? (l := tables_1_2) (i := 92) rfl)))) rfl)
theorem je_cha : Jvm.Cond.selects "java/lang/String" jy_cha jy_cha ∈ gtb := (gw (List.mem_append_right _ (List.mem_append_right _ (List.mem_append_left _ (List.mem_of_getElem? (l := tables_1_2) (i := 93) rfl)))) rfl)
abbrev jc_lat : ByteArray := prog_16_method_154_code
def jy_lat : MethodName := ⟨"java/lang/String", "isLatin1", "()Z"⟩
theorem jw_lat : Jvm.Cond.code jy_lat jc_lat 1 (some .boolean) ∈ gtb := (gw (List.mem_append_right _ (List.mem_append_right _ (List.mem_append_left _ (List.mem_of_getElem? (l := tables_1_2) (i := 98) rfl)))) rfl)
theorem jd_lat_0 : decode jc_lat 0 = .ok (.getstatic 38, 3) := by decide +kernel
theorem jd_lat_3 : decode jc_lat 3 = .ok (.ifCond .eq 14, 3) := by decide +kernel
theorem jd_lat_6 : decode jc_lat 6 = .ok (.aload_n 0, 1) := by decide +kernel
theorem jd_lat_7 : decode jc_lat 7 = .ok (.getfield 15, 3) := by decide +kernel
theorem jd_lat_10 : decode jc_lat 10 = .ok (.ifCond .ne 7, 3) := by decide +kernel
theorem jd_lat_13 : decode jc_lat 13 = .ok (.iconst 1, 1) := by decide +kernel
theorem jd_lat_14 : decode jc_lat 14 = .ok (.goto 4, 3) := by decide +kernel
theorem jd_lat_17 : decode jc_lat 17 = .ok (.iconst 0, 1) := by decide +kernel
theorem jd_lat_18 : decode jc_lat 18 = .ok (.ireturn, 1) := by decide +kernel
theorem ji_lat : Jvm.Cond.instanceMethod jy_lat ∈ gtb := (gw (List.mem_append_right _ (List.mem_append_right _ (List.mem_append_left _ (List.mem_of_getElem? (l := tables_1_2) (i := 96) rfl)))) rfl)
theorem je_lat : Jvm.Cond.selects "java/lang/String" jy_lat jy_lat ∈ gtb := (gw (List.mem_append_right _ (List.mem_append_right _ (List.mem_append_left _ (List.mem_of_getElem? (l := tables_1_2) (i := 97) rfl)))) rfl)
abbrev jc_chl : ByteArray := prog_17_method_2_code
def jy_chl : MethodName := ⟨"java/lang/StringLatin1", "charAt", "([BI)C"⟩
theorem jw_chl : Jvm.Cond.code jy_chl jc_chl 2 (some .char) ∈ gtb := (gw (List.mem_append_right _ (List.mem_append_right _ (List.mem_append_left _ (List.mem_of_getElem? (l := tables_1_2) (i := 101) rfl)))) rfl)
theorem jd_chl_0 : decode jc_chl 0 = .ok (.iload_n 1, 1) := by decide +kernel
theorem jd_chl_1 : decode jc_chl 1 = .ok (.aload_n 0, 1) := by decide +kernel
theorem jd_chl_2 : decode jc_chl 2 = .ok (.arraylength, 1) := by decide +kernel
theorem jd_chl_3 : decode jc_chl 3 = .ok (.invokestatic 9, 3) := by decide +kernel
theorem jd_chl_6 : decode jc_chl 6 = .ok (.aload_n 0, 1) := by decide +kernel
theorem jd_chl_7 : decode jc_chl 7 = .ok (.iload_n 1, 1) := by decide +kernel
theorem jd_chl_8 : decode jc_chl 8 = .ok (.baload, 1) := by decide +kernel
theorem jd_chl_9 : decode jc_chl 9 = .ok (.sipush 255, 3) := by decide +kernel
theorem jd_chl_12 : decode jc_chl 12 = .ok (.iand, 1) := by decide +kernel
theorem jd_chl_13 : decode jc_chl 13 = .ok (.i2c, 1) := by decide +kernel
theorem jd_chl_14 : decode jc_chl 14 = .ok (.ireturn, 1) := by decide +kernel
theorem jt_chl : Jvm.Cond.static jy_chl ∈ gtb := (gw (List.mem_append_right _ (List.mem_append_right _ (List.mem_append_left _ (List.mem_of_getElem? (l := tables_1_2) (i := 100) rfl)))) rfl)
abbrev jc_chk : ByteArray := prog_16_method_155_code
def jy_chk : MethodName := ⟨"java/lang/String", "checkIndex", "(II)V"⟩
theorem jw_chk : Jvm.Cond.code jy_chk jc_chk 2 none ∈ gtb := (gw (List.mem_append_right _ (List.mem_append_right _ (List.mem_append_left _ (List.mem_of_getElem? (l := tables_1_2) (i := 104) rfl)))) rfl)
theorem jd_chk_0 : decode jc_chk 0 = .ok (.iload_n 0, 1) := by decide +kernel
theorem jd_chk_1 : decode jc_chk 1 = .ok (.iload_n 1, 1) := by decide +kernel
theorem jd_chk_2 : decode jc_chk 2 = .ok (.getstatic 1053, 3) := by decide +kernel
theorem jd_chk_5 : decode jc_chk 5 = .ok (.invokestatic 1059, 3) := by decide +kernel
theorem jd_chk_8 : decode jc_chk 8 = .ok (.pop, 1) := by decide +kernel
theorem jd_chk_9 : decode jc_chk 9 = .ok (.return_, 1) := by decide +kernel
theorem jt_chk : Jvm.Cond.static jy_chk ∈ gtb := (gw (List.mem_append_right _ (List.mem_append_right _ (List.mem_append_left _ (List.mem_of_getElem? (l := tables_1_2) (i := 103) rfl)))) rfl)
abbrev jc_pre : ByteArray := prog_21_method_11_code
def jy_pre : MethodName := ⟨"jdk/internal/util/Preconditions", "checkIndex", "(IILjava/util/function/BiFunction;)I"⟩
theorem jw_pre : Jvm.Cond.code jy_pre jc_pre 3 (some .int) ∈ gtb := (gw (List.mem_append_right _ (List.mem_append_right _ (List.mem_append_left _ (List.mem_of_getElem? (l := tables_1_2) (i := 109) rfl)))) rfl)
theorem jd_pre_0 : decode jc_pre 0 = .ok (.iload_n 0, 1) := by decide +kernel
theorem jd_pre_1 : decode jc_pre 1 = .ok (.ifCond .lt 8, 3) := by decide +kernel
theorem jd_pre_4 : decode jc_pre 4 = .ok (.iload_n 0, 1) := by decide +kernel
theorem jd_pre_5 : decode jc_pre 5 = .ok (.iload_n 1, 1) := by decide +kernel
theorem jd_pre_6 : decode jc_pre 6 = .ok (.if_icmp .lt 10, 3) := by decide +kernel
theorem jd_pre_9 : decode jc_pre 9 = .ok (.aload_n 2, 1) := by decide +kernel
theorem jd_pre_10 : decode jc_pre 10 = .ok (.iload_n 0, 1) := by decide +kernel
theorem jd_pre_11 : decode jc_pre 11 = .ok (.iload_n 1, 1) := by decide +kernel
theorem jd_pre_12 : decode jc_pre 12 = .ok (.invokestatic 95, 3) := by decide +kernel
theorem jd_pre_15 : decode jc_pre 15 = .ok (.athrow, 1) := by decide +kernel
theorem jd_pre_16 : decode jc_pre 16 = .ok (.iload_n 0, 1) := by decide +kernel
theorem jd_pre_17 : decode jc_pre 17 = .ok (.ireturn, 1) := by decide +kernel
theorem jt_pre : Jvm.Cond.static jy_pre ∈ gtb := (gw (List.mem_append_right _ (List.mem_append_right _ (List.mem_append_left _ (List.mem_of_getElem? (l := tables_1_2) (i := 108) rfl)))) rfl)
theorem jn_S : Jvm.Cond.initialized "java/lang/String" ∈ gtb := (gw (List.mem_append_right _ (List.mem_append_left _ (List.mem_of_getElem? (l := tables_1_1) (i := 12) rfl))) rfl)
theorem jn_L : Jvm.Cond.initialized "java/lang/StringLatin1" ∈ gtb := (gw (List.mem_append_right _ (List.mem_append_left _ (List.mem_of_getElem? (l := tables_1_1) (i := 13) rfl))) rfl)
theorem jn_P : Jvm.Cond.initialized "jdk/internal/util/Preconditions" ∈ gtb := (gw (List.mem_append_right _ (List.mem_append_left _ (List.mem_of_getElem? (l := tables_1_1) (i := 14) rfl))) rfl)
theorem jf_val : Jvm.Cond.fieldLink "java/lang/String" 9 "java/lang/String" "value" "[B" ∈ gtb := (gw (List.mem_append_right _ (List.mem_append_right _ (List.mem_append_right _ (List.mem_append_right _ (List.mem_append_right _ (List.mem_append_right _ (List.mem_append_right _ (List.mem_of_getElem? (l := tables_1_7) (i := 121) rfl)))))))) rfl)
theorem jf_cdr : Jvm.Cond.fieldLink "java/lang/String" 15 "java/lang/String" "coder" "B" ∈ gtb := (gw (List.mem_append_right _ (List.mem_append_right _ (List.mem_append_right _ (List.mem_append_right _ (List.mem_append_right _ (List.mem_append_right _ (List.mem_append_right _ (List.mem_of_getElem? (l := tables_1_7) (i := 122) rfl)))))))) rfl)
theorem jf_cmp : Jvm.Cond.fieldLink "java/lang/String" 38 "java/lang/String" "COMPACT_STRINGS" "Z" ∈ gtb := (gw (List.mem_append_right _ (List.mem_append_right _ (List.mem_append_left _ (List.mem_of_getElem? (l := tables_1_2) (i := 89) rfl)))) rfl)
theorem jf_fmt : Jvm.Cond.fieldLink "java/lang/String" 1053 "jdk/internal/util/Preconditions" "SIOOBE_FORMATTER" "Ljava/util/function/BiFunction;" ∈ gtb := (gw (List.mem_append_right _ (List.mem_append_right _ (List.mem_append_left _ (List.mem_of_getElem? (l := tables_1_2) (i := 105) rfl)))) rfl)
theorem jl_cod : Jvm.Cond.methodLink "java/lang/String" 335 jy_cod ∈ gtb := (gw (List.mem_append_right _ (List.mem_append_right _ (List.mem_append_left _ (List.mem_of_getElem? (l := tables_1_2) (i := 85) rfl)))) rfl)
theorem jl_lat : Jvm.Cond.methodLink "java/lang/String" 492 jy_lat ∈ gtb := (gw (List.mem_append_right _ (List.mem_append_right _ (List.mem_append_left _ (List.mem_of_getElem? (l := tables_1_2) (i := 95) rfl)))) rfl)
theorem jl_chl : Jvm.Cond.methodLink "java/lang/String" 495 jy_chl ∈ gtb := (gw (List.mem_append_right _ (List.mem_append_right _ (List.mem_append_left _ (List.mem_of_getElem? (l := tables_1_2) (i := 99) rfl)))) rfl)
theorem jl_chk : Jvm.Cond.methodLink "java/lang/StringLatin1" 9 jy_chk ∈ gtb := (gw (List.mem_append_right _ (List.mem_append_right _ (List.mem_append_left _ (List.mem_of_getElem? (l := tables_1_2) (i := 102) rfl)))) rfl)
theorem jl_pre : Jvm.Cond.methodLink "java/lang/String" 1059 jy_pre ∈ gtb := (gw (List.mem_append_right _ (List.mem_append_right _ (List.mem_append_left _ (List.mem_of_getElem? (l := tables_1_2) (i := 107) rfl)))) rfl)
def PSt (w : WD) (vs : List Value) (σ : HP) : Array Value → State → Prop := va_Pc vs (fun U => Rel w σ U.heap ∧ KB w U)
def QSt (w : WD) (v : Option Value) (σ : HP) : Array Value → State → Outcome → State → Prop := fun _ _ oc t => oc = .returned v ∧ Rel w σ t.heap
def MSt (l : Launch) (w : WD) (y : MethodName) (cc : ByteArray) (n : Nat) (rt : Option FieldType) (d : Nat) (vs : List Value) (σ : HP) (v : Option Value) : Prop := Met l y (Jvm.Cond.code y cc n rt :: gtb) (rm0' d 0 0) (PSt w vs σ) (QSt w v σ) 0 0 (fun z => (wH w).size ≤ z)
def PSx (w : WD) (vs : List Value) (σ : HP) (a : Int) (vv : Nat) : Array Value → State → Prop := va_Pc vs (fun U => Rel w σ U.heap ∧ KB w U ∧ va_T .byte vv (wX w a (-2)).toNat (fun j => .int (Int32.ofInt (wX w a j))) (Aw w) U (wH w))
theorem px_blind (w : WD) (vs : List Value) (σ : HP) (a : Int) (vv : Nat) : FrameBlind (PSx w vs σ a vv) := fun a U g mk h => ⟨h.1, h.2.1, KB.same rfl h.2.2.1, h.2.2.2⟩
theorem ps_blind (w : WD) (vs : List Value) (σ : HP) : FrameBlind (PSt w vs σ) := fun a U g mk h => ⟨h.1, h.2.1, KB.same rfl h.2.2⟩
theorem gd_str {y : MethodName} {cc : ByteArray} {n : Nat} {rt : Option FieldType} (h : Jvm.Cond.code y cc n rt ∈ gtb) : GoodIn gtb (Jvm.Cond.code y cc n rt :: gtb) := by
  intro w hw
  rcases List.mem_cons.mp hw with e | e
  · subst e
    exact ⟨h, good_of_word (List.mem_filter.mp h).2⟩
  · exact ⟨e, good_of_word (List.mem_filter.mp e).2⟩
set_option maxHeartbeats 4000000 in
theorem run_S {w : WD} {p : Program} {l : Launch} {e : Env} {R : Room} {s : State} {m : MethodId} {args : Array Value} {below : List Frame} {meth : Method} {c : Code} {H : Heap} {locs : List Loc} {cells slots pc : Nat} {arr : Array Slot} {st0 rest : List Value} {Q : State → Prop} {v : Option Value} {σ : HP} {a : Array Value} (hr : va_Run p l e R s m args below meth c H locs cells slots 0 0 (F0 m pc arr st0) rest (QSt w v σ a) (fun z => (wH w).size ≤ z)) (hlo : ∀ z ∈ locs, (wH w).size ≤ z.base)
    (kk : ∀ (H' : Heap) (locs' : List Loc), Rel w σ H' → (∀ z ∈ locs', (wH w).size ≤ z.base) → W p l e R s m args below meth c H' locs' cells slots Q (F0 m (pc + 3) arr (v.toList ++ rest))) : W p l e R s m args below meth c H locs cells slots Q (F0 m pc arr st0) := by
  intro T hT X
  obtain ⟨v', st₀, t', T', L, h0, X', hL, e1, e2, ⟨hv, hrel⟩, st⟩ := hr T hT X
  have hv : v' = v := Outcome.returned.inj hv
  subst hv
  have k2 := kk T'.heap (locs ++ L) (by rw [e1]; exact hrel) (fun z hz => by
    rcases List.mem_append.mp hz with h | h
    · exact hlo z h
    · exact hL z h)
  obtain ⟨t2, a1, b1⟩ := k2 T' rfl X'
  exact ⟨t2, st t2 a1, b1⟩
theorem keepO {w : WD} {σ : HP} {H : Heap} (hR : Rel w σ H) : ∀ a : Nat, a < (wH w).size → ¬ Aw w a → H[a]? = (wH w)[a]? := fun a h _ => hR.2.2.2.1 a h
set_option maxHeartbeats 4000000 in
theorem m_cod {l : Launch} {w : WD} {σ : HP} {a : Int} (h1 : 2 ≤ a) (h2 : a < 12) : MSt l w jy_cod jc_cod 1 (some .byte) 0 [.ref (wO w a)] σ (some (.int 0)) := by
  refine Met.ofW (cc := jc_cod) (maxL := 1) (ret := some .byte) (by decide) rfl ?_
  intro p e s m args below meth c s₁ B hml hv
  obtain ⟨rfl, hR, hK⟩ := hv
  have hx := B.exec
  have hb := B.bytes
  have hr := B.returns
  have hts0 := atoms_spec (ws := Jvm.Cond.code jy_cod jc_cod 1 (some .byte) :: gtb) B.pre
  have hts : ∀ w ∈ gtb, w.before _ s = true := fun w hw => hts0 w (List.mem_cons_of_mem _ hw)
  have hown : s.vm.findClass "java/lang/String" = some m.cls := findClass_of_methodNamed B.named
  have hlocks := B.notSynchronized
  have hl := lv_entry ([.ref (wO w a)]) (n := 1) (Nat.le_of_ble_eq_true rfl)
  rw [lg_entry_eq]
  generalize (lg_sl ([.ref (wO w a)]) ++ List.replicate (1 - (lg_sl ([.ref (wO w a)])).length) Slot.unset).toArray = ls at hl ⊢
  have hl : lv_has ls 1 [(0, .ref (wO w a))] := hl
  have hS : va_S (Aw w) s.heap s.heap [] := va_S.rf
  have hZ := hK.2.1.2.2.2.2.1.kept (keepO hR)
  obtain ⟨-, -, -, -, hO, hC, vv, hV, hT⟩ := hK.2.1.2.1 a h1 h2
  refine va_gets hx hb hZ hS hown (hts _ jf_cmp) (fun _ h9 => h9) jd_cod_0 ?_
  refine lv_if_eq (tgt := 13) hx hb jd_cod_3 (by decide) (fun h => absurd h (by decide)) (fun _ => ?_)
  refine lv_aload_n hx hb jd_cod_6 rfl (lv_at hl 0 rfl) ?_
  refine vk_getf hx hb (hC.kept (keepO hR)) hS hown (hts _ jf_cdr) (fun _ h9 => h9) jd_cod_7 ?_
  refine lv_goto (tgt := 14) hx hb jd_cod_10 (by decide) ?_
  exact W.zret (ty := .byte) hx hb hr (by decide) (fun t ht hW => ⟨rfl, by rw [ht]; exact hR⟩) (fun z hz => by cases hz) jd_cod_14
set_option maxHeartbeats 4000000 in
theorem m_lat {l : Launch} {w : WD} {σ : HP} {a : Int} (h1 : 2 ≤ a) (h2 : a < 12) : MSt l w jy_lat jc_lat 1 (some .boolean) 0 [.ref (wO w a)] σ (some (.int 1)) := by
  refine Met.ofW (cc := jc_lat) (maxL := 1) (ret := some .boolean) (by decide) rfl ?_
  intro p e s m args below meth c s₁ B hml hv
  obtain ⟨rfl, hR, hK⟩ := hv
  have hx := B.exec
  have hb := B.bytes
  have hr := B.returns
  have hts0 := atoms_spec (ws := Jvm.Cond.code jy_lat jc_lat 1 (some .boolean) :: gtb) B.pre
  have hts : ∀ w ∈ gtb, w.before _ s = true := fun w hw => hts0 w (List.mem_cons_of_mem _ hw)
  have hown : s.vm.findClass "java/lang/String" = some m.cls := findClass_of_methodNamed B.named
  have hlocks := B.notSynchronized
  have hl := lv_entry ([.ref (wO w a)]) (n := 1) (Nat.le_of_ble_eq_true rfl)
  rw [lg_entry_eq]
  generalize (lg_sl ([.ref (wO w a)]) ++ List.replicate (1 - (lg_sl ([.ref (wO w a)])).length) Slot.unset).toArray = ls at hl ⊢
  have hl : lv_has ls 1 [(0, .ref (wO w a))] := hl
  have hS : va_S (Aw w) s.heap s.heap [] := va_S.rf
  have hZ := hK.2.1.2.2.2.2.1.kept (keepO hR)
  obtain ⟨-, -, -, -, hO, hC, vv, hV, hT⟩ := hK.2.1.2.1 a h1 h2
  refine va_gets hx hb hZ hS hown (hts _ jf_cmp) (fun _ h9 => h9) jd_lat_0 ?_
  refine lv_if_eq (tgt := 17) hx hb jd_lat_3 (by decide) (fun h => absurd h (by decide)) (fun _ => ?_)
  refine lv_aload_n hx hb jd_lat_6 rfl (lv_at hl 0 rfl) ?_
  refine vk_getf hx hb (hC.kept (keepO hR)) hS hown (hts _ jf_cdr) (fun _ h9 => h9) jd_lat_7 ?_
  refine lv_if_ne (tgt := 17) hx hb jd_lat_10 (by decide) (fun h => absurd rfl h) (fun _ => ?_)
  refine lv_iconst (v := 1) hx hb jd_lat_13 (by decide) ?_
  refine lv_goto (tgt := 18) hx hb jd_lat_14 (by decide) ?_
  exact W.zret (ty := .boolean) hx hb hr (by decide) (fun t ht hW => ⟨rfl, by rw [ht]; exact hR⟩) (fun z hz => by cases hz) jd_lat_18
set_option maxHeartbeats 4000000 in
theorem m_pre {l : Launch} {w : WD} {σ : HP} {i n : Int32} {v : Value} (hv0 : v = .null ∨ ∃ q, v = .ref q) (h1 : ¬ i < 0) (h2 : i < n) : MSt l w jy_pre jc_pre 3 (some .int) 0 [.int i, .int n, v] σ (some (.int i)) := by
  refine Met.ofW (cc := jc_pre) (maxL := 3) (ret := some .int) (by decide) rfl ?_
  intro p e s m args below meth c s₁ B hml hv
  obtain ⟨rfl, hR, hK⟩ := hv
  have hx := B.exec
  have hb := B.bytes
  have hr := B.returns
  have hlocks := B.notSynchronized
  rw [lg_entry_eq]
  have hl : lv_has ((lg_sl ([.int i, .int n, v]) ++ List.replicate (3 - (lg_sl ([.int i, .int n, v])).length) Slot.unset).toArray) 3 [(0, .int i), (1, .int n), (2, v)] := by
    rcases hv0 with rfl | ⟨q, rfl⟩
    · exact lv_entry ([.int i, .int n, .null]) (n := 3) (Nat.le_of_ble_eq_true rfl)
    · exact lv_entry ([.int i, .int n, .ref q]) (n := 3) (Nat.le_of_ble_eq_true rfl)
  generalize (lg_sl ([.int i, .int n, v]) ++ List.replicate (3 - (lg_sl ([.int i, .int n, v])).length) Slot.unset).toArray = ls at hl ⊢
  refine lv_iload_n hx hb jd_pre_0 rfl (lv_at hl 0 rfl) ?_
  refine lv_if_lt (tgt := 9) hx hb jd_pre_1 (by decide) (fun h => absurd h h1) (fun _ => ?_)
  refine lv_iload_n hx hb jd_pre_4 rfl (lv_at hl 0 rfl) ?_
  refine lv_iload_n hx hb jd_pre_5 rfl (lv_at hl 1 rfl) ?_
  refine lv_icmp_lt (tgt := 16) hx hb jd_pre_6 (by decide) (fun _ => ?_) (fun h => absurd h2 h)
  refine lv_iload_n hx hb jd_pre_16 rfl (lv_at hl 0 rfl) ?_
  exact W.iret hx hb hr (fun t ht hW => ⟨rfl, by rw [ht]; exact hR⟩) (fun z hz => by cases hz) jd_pre_17
set_option maxHeartbeats 4000000 in
theorem m_chk {l : Launch} {w : WD} {σ : HP} {i n : Int32} (h1 : ¬ i < 0) (h2 : i < n) : MSt l w jy_chk jc_chk 2 none 1 [.int i, .int n] σ none := by
  refine Met.ofW (cc := jc_chk) (maxL := 2) (ret := none) (by decide) rfl ?_
  intro p e s m args below meth c s₁ B hml hv
  obtain ⟨rfl, hR, hK⟩ := hv
  have hx := B.exec
  have hb := B.bytes
  have hr := B.returns
  have hts0 := atoms_spec (ws := Jvm.Cond.code jy_chk jc_chk 2 none :: gtb) B.pre
  have hts : ∀ w ∈ gtb, w.before _ s = true := fun w hw => hts0 w (List.mem_cons_of_mem _ hw)
  have hown : s.vm.findClass "java/lang/String" = some m.cls := findClass_of_methodNamed B.named
  have hlocks := B.notSynchronized
  have hl := lv_entry ([.int i, .int n]) (n := 2) (Nat.le_of_ble_eq_true rfl)
  rw [lg_entry_eq]
  generalize (lg_sl ([.int i, .int n]) ++ List.replicate (2 - (lg_sl ([.int i, .int n])).length) Slot.unset).toArray = ls at hl ⊢
  have hl : lv_has ls 2 [(0, .int i), (1, .int n)] := hl
  have hS : va_S (Aw w) s.heap s.heap [] := va_S.rf
  obtain ⟨v, hv0, hZ0⟩ := hK.2.1.2.2.2.2.2
  have hZ := hZ0.kept (keepO hR)
  have hvc : v.category = 1 := by
    rcases hv0 with e | ⟨q, e⟩
    · rw [e]; rfl
    · rw [e]; rfl
  refine lv_iload_n hx hb jd_chk_0 rfl (lv_at hl 0 rfl) ?_
  refine lv_iload_n hx hb jd_chk_1 rfl (lv_at hl 1 rfl) ?_
  refine va_gets hx hb hZ hS hown (hts _ jf_fmt) (fun _ h9 => h9) jd_chk_2 ?_
  refine run_S (va_runS (n := 3) (As := [.int i, .int n, v]) (rest := []) ⟨hx, hb, hml, hown, hts⟩ (m_pre (w := w) (σ := σ) hv0 h1 h2) ⟨callB_of (own := "java/lang/String") (index := 1059) 3 hts (gd_str jw_pre) rfl rfl rfl (hts _ jn_P) (hts _ jl_pre) ⟨by decide, by decide, by decide +kernel⟩ ⟨Nat.le_of_ble_eq_true rfl, Nat.le_of_ble_eq_true rfl⟩, hts _ jt_pre⟩ ⟨ps_blind w _ σ, fun U hU hW => ⟨rfl, by rw [hU]; exact hR, hK.warm hW⟩⟩ rfl rfl hl.1 rfl (lv_room (Nat.le_of_ble_eq_true rfl)) jd_chk_5 ⟨Nat.le_of_ble_eq_true rfl, Nat.le_of_ble_eq_true rfl⟩) (fun z hz => by cases hz) (fun H' locs' hR' hlo' => ?_)
  refine lv_pop hx hb jd_chk_8 rfl ?_
  exact W.vret hx hb hr (fun t ht hW => ⟨rfl, by rw [ht]; exact hR'⟩) hlo' jd_chk_9
theorem str_row {w : WD} {s : State} (hK : KB w s) {a : Int} (h1 : 2 ≤ a) (h2 : a < 12) {σ : HP} {H : Heap} (hR : Rel w σ H) : ∀ j, σ a j = wX w a j := fun j => hR.2.2.2.2 a j (by omega) (by omega)
theorem byte_ok {x : Int} (h1 : 0 ≤ x) (h2 : x < 128) : ((Int32.ofInt x &&& 255).toUInt32 % 65536).toInt32 = Int32.ofInt x := by
  obtain ⟨n, rfl⟩ : ∃ n : Nat, x = n := ⟨x.toNat, by omega⟩
  have key : ∀ n : Nat, n < 128 → ((Int32.ofInt (n : Int) &&& 255).toUInt32 % 65536).toInt32 = Int32.ofInt (n : Int) := by decide
  exact key n (by omega)
theorem narrow_c {x : Int} (h1 : 0 ≤ x) (h2 : x < 128) : narrow .char (.int (Int32.ofInt x)) = .int (Int32.ofInt x) := by
  obtain ⟨n, rfl⟩ : ∃ n : Nat, x = n := ⟨x.toNat, by omega⟩
  have key : ∀ n : Nat, n < 128 → narrow .char (.int (Int32.ofInt (n : Int))) = .int (Int32.ofInt (n : Int)) := by decide
  exact key n (by omega)
set_option maxHeartbeats 4000000 in
theorem m_chl {l : Launch} {w : WD} {σ : HP} {a i : Int} {vv : Nat} (h1 : 2 ≤ a) (h2 : a < 12) (h3 : 0 ≤ wr i) (h4 : wr i < σ a (-2)) : Met l jy_chl (Jvm.Cond.code jy_chl jc_chl 2 (some .char) :: gtb) (rm0' 2 0 0) (PSx w [.ref vv, .int (Int32.ofInt i)] σ a vv) (QSt w (some (.int (Int32.ofInt (σ a (wr i))))) σ) 0 0 (fun z => (wH w).size ≤ z) := by
  refine Met.ofW (cc := jc_chl) (maxL := 2) (ret := some .char) (by decide) rfl ?_
  intro p e s m args below meth c s₁ B hml hv
  obtain ⟨rfl, hR, hK, hV⟩ := hv
  have hx := B.exec
  have hb := B.bytes
  have hr := B.returns
  have hts0 := atoms_spec (ws := Jvm.Cond.code jy_chl jc_chl 2 (some .char) :: gtb) B.pre
  have hts : ∀ w ∈ gtb, w.before _ s = true := fun w hw => hts0 w (List.mem_cons_of_mem _ hw)
  have hown : s.vm.findClass "java/lang/StringLatin1" = some m.cls := findClass_of_methodNamed B.named
  have hlocks := B.notSynchronized
  have hl := lv_entry ([.ref vv, .int (Int32.ofInt i)]) (n := 2) (Nat.le_of_ble_eq_true rfl)
  rw [lg_entry_eq]
  generalize (lg_sl ([.ref vv, .int (Int32.ofInt i)]) ++ List.replicate (2 - (lg_sl ([.ref vv, .int (Int32.ofInt i)])).length) Slot.unset).toArray = ls at hl ⊢
  have hl : lv_has ls 2 [(0, .ref vv), (1, .int (Int32.ofInt i))] := hl
  have hrow := str_row hK h1 h2 hR
  obtain ⟨g1, g2, g3, g4, -⟩ := hK.2.1.2.1 a h1 h2
  rw [hrow] at h4
  have hT := hV.kept (keepO hR)
  have hi1 : ¬ Int32.ofInt i < 0 := fun z => by have := (wz_lt i).mpr z; omega
  have en : Int32.ofNat (wX w a (-2)).toNat = Int32.ofInt (wX w a (-2)) := by
    rw [show Int32.ofNat (wX w a (-2)).toNat = Int32.ofInt ((wX w a (-2)).toNat : Int) from rfl, Int.toNat_of_nonneg g2]
  have hi2 : Int32.ofInt i < Int32.ofInt (wX w a (-2)) := (wr_lt _ _).mp (by rw [show wr (wX w a (-2)) = wX w a (-2) from Int32.toInt_ofInt_of_le (by omega) (by omega)]; exact h4)
  have hS : va_S (Aw w) s.heap s.heap [] := va_S.rf
  refine lv_iload_n hx hb jd_chl_0 rfl (lv_at hl 1 rfl) ?_
  refine lv_aload_n hx hb jd_chl_1 rfl (lv_at hl 0 rfl) ?_
  refine va_tlen hx hb hT hS en jd_chl_2 ?_
  refine run_S (va_runS (n := 2) (As := [.int (Int32.ofInt i), .int (Int32.ofInt (wX w a (-2)))]) (rest := []) ⟨hx, hb, hml, hown, hts⟩ (m_chk (w := w) (σ := σ) hi1 hi2) ⟨callB_of (own := "java/lang/StringLatin1") (index := 9) 2 hts (gd_str jw_chk) rfl rfl rfl (hts _ jn_S) (hts _ jl_chk) ⟨by decide, by decide, by decide +kernel⟩ ⟨Nat.le_of_ble_eq_true rfl, Nat.le_of_ble_eq_true rfl⟩, hts _ jt_chk⟩ ⟨ps_blind w _ σ, fun U hU hW => ⟨rfl, by rw [hU]; exact hR, hK.warm hW⟩⟩ rfl rfl hl.1 rfl (lv_room (Nat.le_of_ble_eq_true rfl)) jd_chl_3 ⟨Nat.le_of_ble_eq_true rfl, Nat.le_of_ble_eq_true rfl⟩) (fun z hz => by cases hz) (fun H' locs' hR' hlo' => ?_)
  have hS' : va_S (Aw w) s.heap H' locs' := by
    refine ⟨?_, fun q hq hn => ?_, hlo'⟩
    · rw [hR.2.1, hR'.2.1]; exact Nat.le_refl _
    · have hq' : q < (wH w).size := Nat.lt_of_not_le hn
      rw [hR'.2.2.2.1 q hq', hR.2.2.2.1 q hq']
  refine lv_aload_n hx hb jd_chl_6 rfl (lv_at hl 0 rfl) ?_
  refine lv_iload_n hx hb jd_chl_7 rfl (lv_at hl 1 rfl) ?_
  have hin : vp_in (Int32.ofInt i) (wX w a (-2)).toNat := idx_in h3 h4
  have ev : Value.int (Int32.ofInt (wX w a (((Int32.ofInt i).toNatClampNeg : Nat) : Int))) = .int (Int32.ofInt (σ a (wr i))) := by
    rw [hrow, show (((Int32.ofInt i).toNatClampNeg : Nat) : Int) = wr i from nat_wr h3]
  refine va_tb hx hb hT hS' hin (v := .int (Int32.ofInt (σ a (wr i)))) ev jd_chl_8 ?_
  refine lv_sipush hx hb jd_chl_9 (v := 255) (by decide) ?_
  refine lv_iand hx hb jd_chl_12 ?_
  have gb := g4 (wr i) h3 h4
  rw [← hrow] at gb
  refine lv_i2c hx hb jd_chl_13 (byte_ok gb.1 gb.2) ?_
  exact W.zret (ty := .char) hx hb hr (narrow_c gb.1 gb.2) (fun t ht hW => ⟨rfl, by rw [ht]; exact hR'⟩) hlo' jd_chl_14
set_option maxHeartbeats 4000000 in
theorem m_len {l : Launch} {w : WD} {σ : HP} {a : Int} (h1 : 2 ≤ a) (h2 : a < 12) : MSt l w jy_len jc_len 1 (some .int) 1 [.ref (wO w a)] σ (some (.int (Int32.ofInt (σ a (-2))))) := by
  refine Met.ofW (cc := jc_len) (maxL := 1) (ret := some .int) (by decide) rfl ?_
  intro p e s m args below meth c s₁ B hml hv
  obtain ⟨rfl, hR, hK⟩ := hv
  have hx := B.exec
  have hb := B.bytes
  have hr := B.returns
  have hts0 := atoms_spec (ws := Jvm.Cond.code jy_len jc_len 1 (some .int) :: gtb) B.pre
  have hts : ∀ w ∈ gtb, w.before _ s = true := fun w hw => hts0 w (List.mem_cons_of_mem _ hw)
  have hown : s.vm.findClass "java/lang/String" = some m.cls := findClass_of_methodNamed B.named
  have hlocks := B.notSynchronized
  have hl := lv_entry ([.ref (wO w a)]) (n := 1) (Nat.le_of_ble_eq_true rfl)
  rw [lg_entry_eq]
  generalize (lg_sl ([.ref (wO w a)]) ++ List.replicate (1 - (lg_sl ([.ref (wO w a)])).length) Slot.unset).toArray = ls at hl ⊢
  have hl : lv_has ls 1 [(0, .ref (wO w a))] := hl
  have hS : va_S (Aw w) s.heap s.heap [] := va_S.rf
  have hrow := str_row hK h1 h2 hR
  obtain ⟨g1, g2, g3, g4, hO, hC, vv, hV, hT0⟩ := hK.2.1.2.1 a h1 h2
  have hT := hT0.kept (keepO hR)
  have en : Int32.ofNat (wX w a (-2)).toNat = Int32.ofInt (wX w a (-2)) := by
    rw [show Int32.ofNat (wX w a (-2)).toNat = Int32.ofInt ((wX w a (-2)).toNat : Int) from rfl, Int.toNat_of_nonneg g2]
  obtain ⟨cell, q1, q2, q3, q4⟩ := hO.kept (keepO hR)
  refine lv_aload_n hx hb jd_len_0 rfl (lv_at hl 0 rfl) ?_
  refine vk_getf hx hb (hV.kept (keepO hR)) hS hown (hts _ jf_val) (fun _ h9 => h9) jd_len_1 ?_
  refine va_tlen hx hb hT hS en jd_len_4 ?_
  refine lv_aload_n hx hb jd_len_5 rfl (lv_at hl 0 rfl) ?_
  refine run_S (va_runV (C := "java/lang/String") (n := 0) (As := []) (rest := [.int (Int32.ofInt (wX w a (-2)))]) ⟨hx, hb, hml, hown, hts⟩ (m_cod (w := w) (σ := σ) h1 h2) ⟨callB_of (own := "java/lang/String") (index := 335) 0 hts (gd_str jw_cod) rfl rfl rfl (hts _ jn_S) (hts _ jl_cod) ⟨by decide, by decide, by decide +kernel⟩ ⟨Nat.le_of_ble_eq_true rfl, Nat.le_of_ble_eq_true rfl⟩, hts _ ji_cod, hts _ je_cod⟩ ⟨ps_blind w _ σ, ⟨cell, q1, q2, q3⟩, fun U hU hW => ⟨rfl, by rw [hU]; exact hR, hK.warm hW⟩⟩ rfl rfl hl.1 rfl (lv_room (Nat.le_of_ble_eq_true rfl)) jd_len_6 ⟨Nat.le_of_ble_eq_true rfl, Nat.le_of_ble_eq_true rfl⟩) (fun z hz => by cases hz) (fun H' locs' hR' hlo' => ?_)
  refine lv_ishr hx hb jd_len_9 ?_
  have ez : Int32.ofInt (wX w a (-2)) >>> ((0 : Int32) &&& 31) = Int32.ofInt (σ a (-2)) := by
    rw [hrow]
    obtain ⟨n, hn⟩ : ∃ n : Nat, wX w a (-2) = n := ⟨(wX w a (-2)).toNat, by omega⟩
    rw [hn]
    have key : ∀ n : Nat, n < 100 → Int32.ofInt (n : Int) >>> ((0 : Int32) &&& 31) = Int32.ofInt (n : Int) := by decide
    exact key n (by omega)
  exact W.iret hx hb hr (fun t ht hW => ⟨by rw [ez], by rw [ht]; exact hR'⟩) hlo' jd_len_10
set_option maxHeartbeats 4000000 in
theorem m_cha {l : Launch} {w : WD} {σ : HP} {a i : Int} (h1 : 2 ≤ a) (h2 : a < 12) (h3 : 0 ≤ wr i) (h4 : wr i < σ a (-2)) : MSt l w jy_cha jc_cha 2 (some .char) 3 [.ref (wO w a), .int (Int32.ofInt i)] σ (some (.int (Int32.ofInt (σ a (wr i))))) := by
  refine Met.ofW (cc := jc_cha) (maxL := 2) (ret := some .char) (by decide) rfl ?_
  intro p e s m args below meth c s₁ B hml hv
  obtain ⟨rfl, hR, hK⟩ := hv
  have hx := B.exec
  have hb := B.bytes
  have hr := B.returns
  have hts0 := atoms_spec (ws := Jvm.Cond.code jy_cha jc_cha 2 (some .char) :: gtb) B.pre
  have hts : ∀ w ∈ gtb, w.before _ s = true := fun w hw => hts0 w (List.mem_cons_of_mem _ hw)
  have hown : s.vm.findClass "java/lang/String" = some m.cls := findClass_of_methodNamed B.named
  have hlocks := B.notSynchronized
  have hl := lv_entry ([.ref (wO w a), .int (Int32.ofInt i)]) (n := 2) (Nat.le_of_ble_eq_true rfl)
  rw [lg_entry_eq]
  generalize (lg_sl ([.ref (wO w a), .int (Int32.ofInt i)]) ++ List.replicate (2 - (lg_sl ([.ref (wO w a), .int (Int32.ofInt i)])).length) Slot.unset).toArray = ls at hl ⊢
  have hl : lv_has ls 2 [(0, .ref (wO w a)), (1, .int (Int32.ofInt i))] := hl
  have hS : va_S (Aw w) s.heap s.heap [] := va_S.rf
  have hrow := str_row hK h1 h2 hR
  obtain ⟨g1, g2, g3, g4, hO, hC, vv, hV, hT0⟩ := hK.2.1.2.1 a h1 h2
  obtain ⟨cell, q1, q2, q3, q4⟩ := hO.kept (keepO hR)
  have gb := g4 (wr i) h3 (by rw [← hrow]; exact h4)
  rw [← hrow] at gb
  refine lv_aload_n hx hb jd_cha_0 rfl (lv_at hl 0 rfl) ?_
  refine run_S (va_runV (C := "java/lang/String") (n := 0) (As := []) (rest := []) ⟨hx, hb, hml, hown, hts⟩ (m_lat (w := w) (σ := σ) h1 h2) ⟨callB_of (own := "java/lang/String") (index := 492) 0 hts (gd_str jw_lat) rfl rfl rfl (hts _ jn_S) (hts _ jl_lat) ⟨by decide, by decide, by decide +kernel⟩ ⟨Nat.le_of_ble_eq_true rfl, Nat.le_of_ble_eq_true rfl⟩, hts _ ji_lat, hts _ je_lat⟩ ⟨ps_blind w _ σ, ⟨cell, q1, q2, q3⟩, fun U hU hW => ⟨rfl, by rw [hU]; exact hR, hK.warm hW⟩⟩ rfl rfl hl.1 rfl (lv_room (Nat.le_of_ble_eq_true rfl)) jd_cha_1 ⟨Nat.le_of_ble_eq_true rfl, Nat.le_of_ble_eq_true rfl⟩) (fun z hz => by cases hz) (fun H' locs' hR' hlo' => ?_)
  refine lv_if_eq (tgt := 16) hx hb jd_cha_4 (by decide) (fun h => absurd h (by decide)) (fun _ => ?_)
  have hS' : va_S (Aw w) s.heap H' locs' := by
    refine ⟨?_, fun q hq hn => ?_, hlo'⟩
    · rw [hR.2.1, hR'.2.1]; exact Nat.le_refl _
    · have hq' : q < (wH w).size := Nat.lt_of_not_le hn
      rw [hR'.2.2.2.1 q hq', hR.2.2.2.1 q hq']
  refine lv_aload_n hx hb jd_cha_7 rfl (lv_at hl 0 rfl) ?_
  refine vk_getf hx hb (hV.kept (keepO hR)) hS' hown (hts _ jf_val) (fun _ h9 => h9) jd_cha_8 ?_
  refine lv_iload_n hx hb jd_cha_11 rfl (lv_at hl 1 rfl) ?_
  refine run_S (va_runS (n := 2) (As := [.ref vv, .int (Int32.ofInt i)]) (rest := []) ⟨hx, hb, hml, hown, hts⟩ (m_chl (w := w) (σ := σ) (a := a) (vv := vv) h1 h2 h3 h4) ⟨callB_of (own := "java/lang/String") (index := 495) 2 hts (gd_str jw_chl) rfl rfl rfl (hts _ jn_L) (hts _ jl_chl) ⟨by decide, by decide, by decide +kernel⟩ ⟨Nat.le_of_ble_eq_true rfl, Nat.le_of_ble_eq_true rfl⟩, hts _ jt_chl⟩ ⟨px_blind w _ σ a vv, fun U hU hW => ⟨rfl, by rw [hU]; exact hR', hK.warm hW, hT0.moved hW.alike⟩⟩ rfl rfl hl.1 rfl (lv_room (Nat.le_of_ble_eq_true rfl)) jd_cha_12 ⟨Nat.le_of_ble_eq_true rfl, Nat.le_of_ble_eq_true rfl⟩) hlo' (fun H2 locs2 hR2 hlo2 => ?_)
  exact W.zret (ty := .char) hx hb hr (narrow_c gb.1 gb.2) (fun t ht hW => ⟨rfl, by rw [ht]; exact hR2⟩) hlo2 jd_cha_15
set_option maxHeartbeats 4000000 in
theorem str_ok {w : WD} {l : Launch} : STR w l := by
  intro q p e R s m args below meth c C pc x a t σ H locs cells slots arr Q hwd hR hsz hlo hfr hlr hcc hss h1 h2
  obtain ⟨hx, hb, hml, hown, hts, hK, hin, how⟩ := C
  rw [← wds_cat w] at hwd
  obtain ⟨g1, g2, g3, g4, hO, hC, vv, hV, hT0⟩ := hK.2.1.2.1 a h1 h2
  have kq : ∀ a : Nat, a < (wH w).size → ¬ Aw w a → H[a]? = (wH w)[a]? := keepO hR
  obtain ⟨cell, q1, q2, q3, q4⟩ := hO.kept kq
  have ev : cv w (vR a) = .ref (wO w a) := by
    rw [cv_R w (by omega)]
    unfold adr
    rw [if_pos (by omega)]
  refine ⟨fun hd hm kk => ?_, fun i h3 h4 hd hm kk => ?_⟩
  · rw [List.map_cons, ev]
    exact run_S (va_runV (C := "java/lang/String") (n := 0) (As := []) (rest := t.map (cv w)) ⟨hx, hb, hml, hown, hts⟩ (m_len (w := w) (σ := σ) h1 h2) ⟨callB_of (own := q.2.1.cls) (index := x) 0 hts (gd_str jw_len) rfl rfl rfl (hts _ jn_S) (hts _ hm) ⟨by decide, by decide, by decide +kernel⟩ ⟨by show 1 + 1 ≤ R.frames; omega, by show 8 + (1 + 11) + 40 * 1 ≤ R.locals; omega⟩, hts _ ji_len, hts _ je_len⟩ ⟨ps_blind w _ σ, ⟨cell, q1, q2, q3⟩, fun U hU hW => ⟨rfl, by rw [hU]; exact hR, hK.warm hW⟩⟩ rfl rfl hsz rfl (lv_room hwd) hd ⟨by omega, by omega⟩) hlo (fun H' locs' hR' hlo' => kk H' locs' hR' hlo')
  · rw [List.map_cons, List.map_cons, ev]
    exact run_S (va_runV (C := "java/lang/String") (n := 1) (As := [.int (Int32.ofInt i)]) (rest := t.map (cv w)) ⟨hx, hb, hml, hown, hts⟩ (m_cha (w := w) (σ := σ) h1 h2 h3 h4) ⟨callB_of (own := q.2.1.cls) (index := x) 1 hts (gd_str jw_cha) rfl rfl rfl (hts _ jn_S) (hts _ hm) ⟨by decide, by decide, by decide +kernel⟩ ⟨by show 3 + 1 ≤ R.frames; omega, by show 8 + (2 + 11) + 40 * 3 ≤ R.locals; omega⟩, hts _ ji_cha, hts _ je_cha⟩ ⟨ps_blind w _ σ, ⟨cell, q1, q2, q3⟩, fun U hU hW => ⟨rfl, by rw [hU]; exact hR, hK.warm hW⟩⟩ rfl rfl hsz rfl (lv_room hwd) hd ⟨by omega, by omega⟩) hlo (fun H' locs' hR' hlo' => kk H' locs' hR' hlo')
theorem prm_all {w : WD} {l : Launch} : PRM w l := prm_ok str_ok

