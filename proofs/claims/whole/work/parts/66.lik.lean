/-! LIKENESS -/
def stN (L : LB) (i : Nat) : Nat := (lT L)[i]?.getD 0
theorem stN_at {L : LB} {i : Nat} (h : i < (lT L).length) : (lT L)[i]? = some (stN L i) := by
  unfold stN
  rw [List.getElem?_eq_getElem h]
  rfl
theorem stN_lt {L : LB} (hw : wf0 L) {i : Nat} (h : i < (lT L).length) : stN L i < lN0 L := st_lt hw (stN_at h)
def atN (z : Bool) (k n i : Nat) : Nat := if z = true then (k + i) % n else (k + n - i) % n
def setF (f : Nat → Int) (x : Nat) (v : Int) : Nat → Int := fun y => if y = x then v else f y
theorem setF_s (f : Nat → Int) (x : Nat) (v : Int) : setF f x v x = v := by unfold setF; rw [if_pos rfl]
theorem setF_n (f : Nat → Int) {x y : Nat} (v : Int) (h : y ≠ x) : setF f x v y = f y := by unfold setF; rw [if_neg h]
def agrF (L M : LB) (z : Bool) (k : Nat) : Nat → Nat → (Nat → Int) → (Nat → Int) → Bool
  | 0, _, _, _ => true
  | m + 1, i, f, g => if f (stN L i) = -1 ∧ g (stN M (atN z k (lT M).length i)) = -1 then agrF L M z k m (i + 1) (setF f (stN L i) (stN M (atN z k (lT M).length i))) (setF g (stN M (atN z k (lT M).length i)) (stN L i)) else if f (stN L i) = (stN M (atN z k (lT M).length i) : Nat) then agrF L M z k m (i + 1) f g else false
def agrB (L M : LB) (z : Bool) (k : Nat) : Bool := agrF L M z k (lT L).length 0 (fun _ => -1) (fun _ => -1)
def liF (L M : LB) : Nat → Nat → Bool
  | 0, _ => false
  | m + 1, k => if agrB L M true k = true then true else if agrB L M false k = true then true else liF L M m (k + 1)
def liB (L M : LB) : Bool := if (lT L).length = (lT M).length ∧ lpB L = lpB M then (if lpB L = true then liF L M (lT L).length 0 else agrB L M true 0) else false
def likA (S : AS) (s t : Int) : Int := match gl S s, gl S t with
  | some L, some M => b2i (liB L M)
  | _, _ => -2
theorem at_lt {z : Bool} {k n i : Nat} (hn : 0 < n) : atN z k n i < n := by
  unfold atN
  by_cases q : z = true
  · rw [if_pos q]; exact Nat.mod_lt _ hn
  · rw [if_neg q]; exact Nat.mod_lt _ hn
theorem at_on {k n i : Nat} (hn : 0 < n) : atN true k n (i + 1) = if atN true k n i + 1 < n then atN true k n i + 1 else 0 := by
  unfold atN
  rw [if_pos rfl, if_pos rfl]
  have := md_next (i := i) (k := k) hn
  rw [show i + 1 + k = k + (i + 1) by omega, show i + k = k + i by omega] at this
  exact this
theorem at_bk {k n i : Nat} (hk : k < n) (hi : i < n) : atN false k n (i + 1) = if atN false k n i = 0 then n - 1 else atN false k n i - 1 := by
  have e : ∀ j, atN false k n j = (k + n - j) % n := fun j => by unfold atN; rw [if_neg (by decide)]
  rw [e, e]
  by_cases z : k < i
  · rw [Nat.mod_eq_of_lt (show k + n - i < n by omega), Nat.mod_eq_of_lt (show k + n - (i + 1) < n by omega), if_neg (by omega)]
    omega
  · by_cases z2 : k = i
    · subst z2
      rw [show k + n - k = n by omega, Nat.mod_self, if_pos rfl, Nat.mod_eq_of_lt (show k + n - (k + 1) < n by omega)]
      omega
    · have e1 : (k + n - i) % n = k - i := by
        rw [show k + n - i = (k - i) + n by omega, Nat.add_mod_right, Nat.mod_eq_of_lt (by omega)]
      have e2 : (k + n - (i + 1)) % n = k - (i + 1) := by
        rw [show k + n - (i + 1) = (k - (i + 1)) + n by omega, Nat.add_mod_right, Nat.mod_eq_of_lt (by omega)]
      rw [e1, e2, if_neg (by omega)]
      omega
/-- the class -/
def nmR (σ : HP) (a b : Int) (f g : Nat → Int) : Prop := ∀ x : Nat, x < 8 → σ a x = f x ∧ σ b x = g x ∧ -1 ≤ f x ∧ f x < 8 ∧ -1 ≤ g x ∧ g x < 8
theorem okr_95 : layT.all (fun t => !(decide (t.1 = 95) && decide (0 ≤ t.2.1))) = true := by decide +kernel
theorem okr_96 : layT.all (fun t => !(decide (t.1 = 96) && decide (0 ≤ t.2.1))) = true := by decide +kernel
theorem nm_set {σ : HP} {a b : Int} {f g : Nat → Int} (h : nmR σ a b f g) (hab : a ≠ b) {x y : Nat} (hx : x < 8) (hy : y < 8) : nmR (up (up σ a x y) b y x) a b (setF f x y) (setF g y x) := by
  intro w hw
  obtain ⟨h1, h2, h3, h4, h5, h6⟩ := h w hw
  have e1 : (up (up σ a x y) b y x) a w = setF f x y w := by
    rw [up_n1 _ _ _ _ hab]
    by_cases z : w = x
    · rw [z, up_s, setF_s]
    · rw [up_n2 _ _ _ _ (by omega), setF_n _ _ z]; exact h1
  have e2 : (up (up σ a x y) b y x) b w = setF g y x w := by
    by_cases z : w = y
    · rw [z, up_s, setF_s]
    · rw [up_n2 _ _ _ _ (by omega), up_n1 _ _ _ _ (fun q => hab q.symm), setF_n _ _ z]; exact h2
  refine ⟨e1, e2, ?_, ?_, ?_, ?_⟩
  · by_cases z : w = x
    · rw [z, setF_s]; omega
    · rw [setF_n _ _ z]; exact h3
  · by_cases z : w = x
    · rw [z, setF_s]; omega
    · rw [setF_n _ _ z]; exact h4
  · by_cases z : w = y
    · rw [z, setF_s]; omega
    · rw [setF_n _ _ z]; exact h5
  · by_cases z : w = y
    · rw [z, setF_s]; omega
    · rw [setF_n _ _ z]; exact h6
theorem s163l {d : Nat} {σ0 : HP} {b c : Int} {L M : LB} (hb0 : blr σ0 b L) (hb43 : b + 2 < 43) (hL : wf0 L) (hc0 : blr σ0 c M) (hc43 : c + 2 < 43) (hM : wf0 M) {z : Bool} {k : Nat} (hlm : (lT L).length = (lT M).length) (hk : k ≤ (lT M).length) (hk2 : z = false → k < (lT M).length) : ∀ (m i : Nat) (σ : HP) (f g : Nat → Int) (u3 u7 u8 : MV), i + m = (lT L).length → FS σ0 σ → nmR σ 95 96 f g → ∃ σ', rsP PG0 MX d 163 22 [vR 94, vR b, vR c, u3, vI (b2i z), vI (atN z k (lT M).length i : Nat), vI i, u7, u8] [] σ = some (b2i (agrF L M z k m i f g), σ') ∧ FS σ0 σ' := by
  have hl := wf_len hL
  have hl2 := wf_len hM
  have h9 := hL.1
  have h92 := hM.1
  intro m
  induction m with
  | zero =>
    intro i σ f g u3 u7 u8 hi hF hn
    have hb := hF.blr hb0 (by omega) (by omega)
    obtain ⟨⟨m1, m2, m3, m4, m5, m6, m7, m8, m9⟩, f3, f4, f5, f6, fs, fw⟩ := id hb
    refine ⟨σ, ?_, hF⟩
    rw [sg_163_22]
    (try simp (disch := omega) only [f6, wr_id2])
    repeat (first | ((with_reducible refine step_t ?_ ?_); with_reducible exact True.intro) | ((with_reducible refine step_t ?_ ?_); omega) | ((with_reducible refine step_f ?_ ?_); omega))
    rfl
  | succ m ih =>
    intro i σ f g u3 u7 u8 hi hF hn
    have hy := hF.2
    have hb := hF.blr hb0 (by omega) (by omega)
    have hc := hF.blr hc0 (by omega) (by omega)
    obtain ⟨⟨m1, m2, m3, m4, m5, m6, m7, m8, m9⟩, f3, f4, f5, f6, fs, fw⟩ := id hb
    obtain ⟨⟨n1, n2, n3, n4, n5, n6, n7, n8, n9⟩, p3, -, -, p6, ps, -⟩ := id hc
    have y1 := hy.1
    have a1 := y94_m1 hy
    have a2 := y94_0 hy
    have a3 := y94_1 hy
    have a4 := y95_m1 hy
    have a5 := y95_m2 hy
    have a6 := y96_m1 hy
    have a7 := y96_m2 hy
    have hat := at_lt (z := z) (k := k) (n := (lT M).length) (i := i) (by omega)
    have e1 := fs i _ (stN_at (show i < (lT L).length by omega))
    have e2 := ps (atN z k (lT M).length i) _ (stN_at hat)
    have hx := stN_lt hL (i := i) (by omega)
    have hy2 := stN_lt hM hat
    generalize hX : stN L i = x at *
    generalize hY : stN M (atN z k (lT M).length i) = y at *
    obtain ⟨q1, q2, q3, q4, q5, q6⟩ := hn x (by omega)
    obtain ⟨r1, r2, r3, r4, r5, r6⟩ := hn y (by omega)
    have nxt : ∀ (σ : HP) (f g : Nat → Int) (u7 u8 : MV), FS σ0 σ → nmR σ 95 96 f g → ∃ σ', rsP PG0 MX d 163 106 [vR 94, vR b, vR c, vU, vI (b2i z), vI (atN z k (lT M).length i : Nat), vI i, u7, u8] [] σ = some (b2i (agrF L M z k m (i + 1) f g), σ') ∧ FS σ0 σ' := by
      intro σ f g u7 u8 hF hn
      obtain ⟨σ', k1, k2⟩ := ih (i + 1) σ f g vU vU vU (by omega) hF hn
      refine ⟨σ', ?_, k2⟩
      have hc := hF.blr hc0 (by omega) (by omega)
      obtain ⟨⟨n1, n2, n3, n4, -⟩, -, -, -, p6, -⟩ := id hc
      rw [sg_163_106, wr_b2i]
      cases z with
      | true =>
        rw [at_on (by omega)] at k1
        refine step_f (show ¬ (b2i true = 0) by decide) ?_
        rw [sg_163_122]
        (try simp (disch := omega) only [p6, wr_id2])
        repeat (first | ((with_reducible refine step_t ?_ ?_); with_reducible exact True.intro) | ((with_reducible refine step_t ?_ ?_); omega) | ((with_reducible refine step_f ?_ ?_); omega))
        by_cases w : atN true k (lT M).length i + 1 < (lT M).length
        · rw [if_pos w] at k1
          refine step_t (by omega) ?_
          repeat (first | ((with_reducible refine step_t ?_ ?_); with_reducible exact True.intro) | ((with_reducible refine step_t ?_ ?_); omega) | ((with_reducible refine step_f ?_ ?_); omega))
          exact k1
        · rw [if_neg w] at k1
          refine step_f (by omega) ?_
          exact k1
      | false =>
        rw [at_bk (hk2 rfl) (by omega)] at k1
        refine step_t (show b2i false = 0 by decide) ?_
        rw [sg_163_122]
        (try simp (disch := omega) only [p6, wr_id2])
        repeat (first | ((with_reducible refine step_t ?_ ?_); with_reducible exact True.intro) | ((with_reducible refine step_t ?_ ?_); omega) | ((with_reducible refine step_f ?_ ?_); omega))
        by_cases w : atN false k (lT M).length i = 0
        · rw [if_pos w, show (((lT M).length - 1 : Nat) : Int) = ((lT M).length : Nat) - 1 by omega] at k1
          repeat (first | ((with_reducible refine step_t ?_ ?_); with_reducible exact True.intro) | ((with_reducible refine step_t ?_ ?_); omega) | ((with_reducible refine step_f ?_ ?_); omega))
          exact k1
        · rw [if_neg w, show ((atN false k (lT M).length i - 1 : Nat) : Int) = (atN false k (lT M).length i : Nat) - 1 by omega] at k1
          repeat (first | ((with_reducible refine step_t ?_ ?_); with_reducible exact True.intro) | ((with_reducible refine step_t ?_ ?_); omega) | ((with_reducible refine step_f ?_ ?_); omega))
          exact k1
    have k92 : ¬ (f x = -1 ∧ g y = -1) → ∃ σ', rsP PG0 MX d 163 92 [vR 94, vR b, vR c, vU, vI (b2i z), vI (atN z k (lT M).length i : Nat), vI i, vI x, vI y] [] σ = some (b2i (if f x = (y : Nat) then agrF L M z k m (i + 1) f g else false), σ') ∧ FS σ0 σ' := by
      intro _
      by_cases w : f x = (y : Nat)
      · rw [if_pos w]
        obtain ⟨σ', k1, k2⟩ := nxt σ f g (vI x) (vI y) hF hn
        refine ⟨σ', ?_, k2⟩
        rw [sg_163_92]
        (try simp (disch := omega) only [a2, q1, wr_id2])
        repeat (first | ((with_reducible refine step_t ?_ ?_); with_reducible exact True.intro) | ((with_reducible refine step_t ?_ ?_); omega) | ((with_reducible refine step_f ?_ ?_); omega))
        exact k1
      · rw [if_neg w]
        refine ⟨σ, ?_, hF⟩
        rw [sg_163_92]
        (try simp (disch := omega) only [a2, q1, wr_id2])
        repeat (first | ((with_reducible refine step_t ?_ ?_); with_reducible exact True.intro) | ((with_reducible refine step_t ?_ ?_); omega) | ((with_reducible refine step_f ?_ ?_); omega))
        rfl
    have eF : agrF L M z k (m + 1) i f g = if f x = -1 ∧ g y = -1 then agrF L M z k m (i + 1) (setF f x y) (setF g y x) else if f x = (y : Nat) then agrF L M z k m (i + 1) f g else false := by
      show (if f (stN L i) = -1 ∧ g (stN M (atN z k (lT M).length i)) = -1 then _ else _) = _
      rw [hX, hY]
    rw [eF]
    by_cases w1 : f x = -1
    · by_cases w2 : g y = -1
      · rw [if_pos ⟨w1, w2⟩]
        have hF1 : FS σ0 (up (up σ 95 (x : Nat) (y : Nat)) 96 (y : Nat) (x : Nat)) := (hF.upd (by omega) okr_95 (by omega)).upd (by omega) okr_96 (by omega)
        have hF0 : FS σ0 (up σ 95 (x : Nat) (y : Nat)) := hF.upd (by omega) okr_95 (by omega)
        have hy0 := hF0.2
        have c1 := hy0.1
        have c2 := y94_m1 hy0
        have c3 := y94_1 hy0
        have c4 := y96_m1 hy0
        have c5 := y96_m2 hy0
        obtain ⟨σ', k1, k2⟩ := nxt _ _ _ (vI x) (vI y) hF1 (nm_set hn (by omega) (x := x) (y := y) (by omega) (by omega))
        refine ⟨σ', ?_, k2⟩
        rw [sg_163_22]
        (try simp (disch := omega) only [f6, m4, n4, e1, e2, a2, a3, q1, r2, wr_id2])
        repeat (first | ((with_reducible refine step_t ?_ ?_); with_reducible exact True.intro) | ((with_reducible refine step_t ?_ ?_); omega) | ((with_reducible refine step_f ?_ ?_); omega))
        (try simp (disch := omega) only [c3, wr_id2])
        repeat (first | ((with_reducible refine step_t ?_ ?_); with_reducible exact True.intro) | ((with_reducible refine step_t ?_ ?_); omega) | ((with_reducible refine step_f ?_ ?_); omega))
        exact k1
      · obtain ⟨σ', k1, k2⟩ := k92 (fun q => w2 q.2)
        rw [if_neg (fun q => w2 q.2)]
        refine ⟨σ', ?_, k2⟩
        rw [sg_163_22]
        (try simp (disch := omega) only [f6, m4, n4, e1, e2, a2, a3, q1, r2, wr_id2])
        repeat (first | ((with_reducible refine step_t ?_ ?_); with_reducible exact True.intro) | ((with_reducible refine step_t ?_ ?_); omega) | ((with_reducible refine step_f ?_ ?_); omega))
        exact k1
    · obtain ⟨σ', k1, k2⟩ := k92 (fun q => w1 q.1)
      rw [if_neg (fun q => w1 q.1)]
      refine ⟨σ', ?_, k2⟩
      rw [sg_163_22]
      (try simp (disch := omega) only [f6, m4, n4, e1, e2, a2, a3, q1, r2, wr_id2])
      repeat (first | ((with_reducible refine step_t ?_ ?_); with_reducible exact True.intro) | ((with_reducible refine step_t ?_ ?_); omega) | ((with_reducible refine step_f ?_ ?_); omega))
      exact k1
theorem s163 {d : Nat} (h : 2 ≤ d) {σ0 σ : HP} {b c : Int} {L M : LB} (hF : FS σ0 σ) (hb0 : blr σ0 b L) (hb43 : b + 2 < 43) (hL : wf0 L) (hc0 : blr σ0 c M) (hc43 : c + 2 < 43) (hM : wf0 M) {z : Bool} {k : Nat} (hlm : (lT L).length = (lT M).length) (hk : k < (lT M).length ∨ (k = 0 ∧ z = true)) : ∃ σ', clR PG0 MX d 163 [vR 94, vR b, vR c, vI k, vI (b2i z)] σ = some (b2i (agrB L M z k), σ') ∧ FS σ0 σ' := by
  obtain ⟨d, rfl⟩ := ob1 (show 1 ≤ d by omega)
  have hy := hF.2
  have y1 := hy.1
  have a1 := y94_m1 hy
  have a2 := y94_0 hy
  have a3 := y94_1 hy
  obtain ⟨σ1, i1, i2, i3, i4⟩ := s46 (d := d) (by omega) (σ := σ) (a := 95) (n := 8) (-1) (by omega) (by omega) (by omega) (y95_m1 hy) (y95_m2 hy)
  have hy1 : Lay σ1 := hy.row okr_95 (by omega) i2 i3
  have b1 := hy1.1
  have b2 := y94_m1 hy1
  have b3 := y94_1 hy1
  obtain ⟨σ2, j1, j2, j3, j4⟩ := s46 (d := d) (by omega) (σ := σ1) (a := 96) (n := 8) (-1) (by omega) (by omega) (by omega) (y96_m1 hy1) (y96_m2 hy1)
  have hy2 : Lay σ2 := hy1.row okr_96 (by omega) j2 j3
  have hF2 : FS σ0 σ2 := ⟨fun a j q r => by rw [j2 _ _ (by omega), i2 _ _ (by omega)]; exact hF.1 a j q r, hy2⟩
  have hat0 : atN z k (lT M).length 0 = k := by
    unfold atN
    rcases hk with hk | ⟨hk1, hk2⟩
    · by_cases q : z = true
      · rw [if_pos q, Nat.add_zero, Nat.mod_eq_of_lt hk]
      · rw [if_neg q, Nat.sub_zero, Nat.add_mod_right, Nat.mod_eq_of_lt hk]
    · rw [if_pos hk2, hk1]
      exact Nat.zero_mod _
  obtain ⟨σ3, k1, k2⟩ := s163l (d := d) hb0 hb43 hL hc0 hc43 hM (z := z) (k := k) hlm (by omega) (fun q => by
    rcases hk with hk | hk
    · exact hk
    · rw [hk.2] at q; cases q) (lT L).length 0 σ2 (fun _ => -1) (fun _ => -1) (vI k) vU vU (by omega) hF2 (fun x hx => ⟨by rw [j2 _ _ (by omega)]; exact i4 x hx, j4 x hx, Int.le_refl _, by show (-1 : Int) < 8; omega, Int.le_refl _, by show (-1 : Int) < 8; omega⟩)
  rw [hat0] at k1
  refine ⟨σ3, ?_, k2⟩
  rw [ce_163, sg_163_0]
  (try simp (disch := omega) only [a2, wr_id2])
  repeat (first | ((with_reducible refine step_t ?_ ?_); with_reducible exact True.intro) | ((with_reducible refine step_t ?_ ?_); omega) | ((with_reducible refine step_f ?_ ?_); omega))
  refine step_c (i1) ?_
  try dsimp only
  (try simp (disch := omega) only [b3, wr_id2])
  repeat (first | ((with_reducible refine step_t ?_ ?_); with_reducible exact True.intro) | ((with_reducible refine step_t ?_ ?_); omega) | ((with_reducible refine step_f ?_ ?_); omega))
  refine step_c (j1) ?_
  try dsimp only
  exact k1
theorem s162l {d : Nat} (h : 2 ≤ d) {σ0 : HP} {b c : Int} {L M : LB} (hb0 : blr σ0 b L) (hb43 : b + 2 < 43) (hL : wf0 L) (hc0 : blr σ0 c M) (hc43 : c + 2 < 43) (hM : wf0 M) (hlm : (lT L).length = (lT M).length) : ∀ (m k : Nat) (σ : HP), k + m = (lT L).length → FS σ0 σ → ∃ σ', rsP PG0 MX d 162 42 [vR 94, vR b, vR c, vI k] [] σ = some (b2i (liF L M m k), σ') ∧ FS σ0 σ' := by
  have hl := wf_len hL
  intro m
  induction m with
  | zero =>
    intro k σ hk hF
    have hc := hF.blr hc0 (by omega) (by omega)
    obtain ⟨⟨m1, m2, m3, m4, m5, m6, m7, m8, m9⟩, f3, f4, f5, f6, fs, fw⟩ := id hc
    refine ⟨σ, ?_, hF⟩
    rw [sg_162_42]
    (try simp (disch := omega) only [f6, wr_id2])
    repeat (first | ((with_reducible refine step_t ?_ ?_); with_reducible exact True.intro) | ((with_reducible refine step_t ?_ ?_); omega) | ((with_reducible refine step_f ?_ ?_); omega))
    rfl
  | succ m ih =>
    intro k σ hk hF
    have hc := hF.blr hc0 (by omega) (by omega)
    obtain ⟨⟨m1, m2, m3, m4, m5, m6, m7, m8, m9⟩, f3, f4, f5, f6, fs, fw⟩ := id hc
    have y1 := hF.2.1
    have a1 := y94_m1 hF.2
    obtain ⟨σ1, k1, F1⟩ := s163 (d := d) h hF hb0 hb43 hL hc0 hc43 hM (z := true) (k := k) hlm (Or.inl (by omega))
    have b1 := F1.2.1
    have b2 := y94_m1 F1.2
    obtain ⟨σ2, k2, F2⟩ := s163 (d := d) h F1 hb0 hb43 hL hc0 hc43 hM (z := false) (k := k) hlm (Or.inl (by omega))
    have k1 : clR PG0 MX d 163 [vR 94, vR b, vR c, vI k, vI 1] σ = some (b2i (agrB L M true k), σ1) := k1
    have k2 : clR PG0 MX d 163 [vR 94, vR b, vR c, vI k, vI 0] σ1 = some (b2i (agrB L M false k), σ2) := k2
    unfold liF
    cases q1 : agrB L M true k with
    | true =>
      rw [q1] at k1
      rw [if_pos rfl]
      refine ⟨σ1, ?_, F1⟩
      rw [sg_162_42]
      (try simp (disch := omega) only [f6, wr_id2])
      repeat (first | ((with_reducible refine step_t ?_ ?_); with_reducible exact True.intro) | ((with_reducible refine step_t ?_ ?_); omega) | ((with_reducible refine step_f ?_ ?_); omega))
      refine step_c (k1) ?_
      try dsimp only
      rw [wr_b2i]
      refine step_t (show b2i true ≠ 0 by decide) ?_
      rfl
    | false =>
      rw [q1] at k1
      rw [if_neg (by decide)]
      cases q2 : agrB L M false k with
      | true =>
        rw [q2] at k2
        rw [if_pos rfl]
        refine ⟨σ2, ?_, F2⟩
        rw [sg_162_42]
        (try simp (disch := omega) only [f6, wr_id2])
        repeat (first | ((with_reducible refine step_t ?_ ?_); with_reducible exact True.intro) | ((with_reducible refine step_t ?_ ?_); omega) | ((with_reducible refine step_f ?_ ?_); omega))
        refine step_c (k1) ?_
        try dsimp only
        rw [wr_b2i]
        refine step_f (show ¬ (b2i false ≠ 0) by decide) ?_
        repeat (first | ((with_reducible refine step_t ?_ ?_); with_reducible exact True.intro) | ((with_reducible refine step_t ?_ ?_); omega) | ((with_reducible refine step_f ?_ ?_); omega))
        refine step_c (k2) ?_
        try dsimp only
        rw [wr_b2i]
        refine step_f (show ¬ (b2i true = 0) by decide) ?_
        rfl
      | false =>
        rw [q2] at k2
        rw [if_neg (by decide)]
        obtain ⟨σ3, k3, F3⟩ := ih (k + 1) σ2 (by omega) F2
        refine ⟨σ3, ?_, F3⟩
        rw [sg_162_42]
        (try simp (disch := omega) only [f6, wr_id2])
        repeat (first | ((with_reducible refine step_t ?_ ?_); with_reducible exact True.intro) | ((with_reducible refine step_t ?_ ?_); omega) | ((with_reducible refine step_f ?_ ?_); omega))
        refine step_c (k1) ?_
        try dsimp only
        rw [wr_b2i]
        refine step_f (show ¬ (b2i false ≠ 0) by decide) ?_
        repeat (first | ((with_reducible refine step_t ?_ ?_); with_reducible exact True.intro) | ((with_reducible refine step_t ?_ ?_); omega) | ((with_reducible refine step_f ?_ ?_); omega))
        refine step_c (k2) ?_
        try dsimp only
        rw [wr_b2i]
        refine step_t (show b2i false = 0 by decide) ?_
        exact k3
theorem s162 {d : Nat} (h : 3 ≤ d) {σ : HP} (hy : Lay σ) {b c : Int} {L M : LB} (hb : blr σ b L) (hb43 : b + 2 < 43) (hL : wf0 L) (hc : blr σ c M) (hc43 : c + 2 < 43) (hM : wf0 M) : ∃ σ', clR PG0 MX d 162 [vR 94, vR b, vR c] σ = some (b2i (liB L M), σ') ∧ FS σ σ' := by
  obtain ⟨d, rfl⟩ := ob1 (show 1 ≤ d by omega)
  obtain ⟨⟨m1, m2, m3, m4, m5, m6, m7, m8, m9⟩, f3, f4, f5, f6, fs, fw⟩ := id hb
  obtain ⟨⟨n1, n2, n3, n4, -⟩, -, -, -, p6, -⟩ := id hc
  have hl := wf_len hL
  have hl2 := wf_len hM
  have y1 := hy.1
  have a1 := y94_m1 hy
  have e43 := s43 (d := d) (by omega) hb hL
  have f43 := s43 (d := d) (by omega) hc hM
  unfold liB
  by_cases z : (lT L).length = (lT M).length
  · by_cases z2 : lpB L = lpB M
    · rw [if_pos ⟨z, z2⟩]
      cases hlp : lpB L with
      | true =>
        rw [if_pos rfl]
        rw [← z2, hlp] at f43
        rw [hlp] at e43
        obtain ⟨σ', k1, k2⟩ := s162l (d := d) (by omega) hb hb43 hL hc hc43 hM z (lT L).length 0 σ (by omega) (FS.rf hy)
        refine ⟨σ', ?_, k2⟩
        rw [ce_162, sg_162_0]
        (try simp (disch := omega) only [f6, p6, wr_id2])
        repeat (first | ((with_reducible refine step_t ?_ ?_); with_reducible exact True.intro) | ((with_reducible refine step_t ?_ ?_); omega) | ((with_reducible refine step_f ?_ ?_); omega))
        refine step_c (e43) ?_
        try dsimp only
        repeat (first | ((with_reducible refine step_t ?_ ?_); with_reducible exact True.intro) | ((with_reducible refine step_t ?_ ?_); omega) | ((with_reducible refine step_f ?_ ?_); omega))
        refine step_c (f43) ?_
        try dsimp only
        repeat (first | ((with_reducible refine step_t ?_ ?_); with_reducible exact True.intro) | ((with_reducible refine step_t ?_ ?_); omega) | ((with_reducible refine step_f ?_ ?_); omega))
        refine step_c (e43) ?_
        try dsimp only
        refine step_t (show wr (b2i true) ≠ 0 by decide) ?_
        exact k1
      | false =>
        rw [if_neg (by decide)]
        rw [← z2, hlp] at f43
        rw [hlp] at e43
        obtain ⟨σ1, k1, F1⟩ := s163 (d := d) (by omega) (FS.rf hy) hb hb43 hL hc hc43 hM (z := true) (k := 0) z (Or.inr ⟨rfl, rfl⟩)
        have k1 : clR PG0 MX d 163 [vR 94, vR b, vR c, vI 0, vI 1] σ = some (b2i (agrB L M true 0), σ1) := k1
        refine ⟨σ1, ?_, F1⟩
        rw [ce_162, sg_162_0]
        (try simp (disch := omega) only [f6, p6, wr_id2])
        repeat (first | ((with_reducible refine step_t ?_ ?_); with_reducible exact True.intro) | ((with_reducible refine step_t ?_ ?_); omega) | ((with_reducible refine step_f ?_ ?_); omega))
        refine step_c (e43) ?_
        try dsimp only
        repeat (first | ((with_reducible refine step_t ?_ ?_); with_reducible exact True.intro) | ((with_reducible refine step_t ?_ ?_); omega) | ((with_reducible refine step_f ?_ ?_); omega))
        refine step_c (f43) ?_
        try dsimp only
        repeat (first | ((with_reducible refine step_t ?_ ?_); with_reducible exact True.intro) | ((with_reducible refine step_t ?_ ?_); omega) | ((with_reducible refine step_f ?_ ?_); omega))
        refine step_c (e43) ?_
        try dsimp only
        refine step_f (show ¬ (wr (b2i false) ≠ 0) by decide) ?_
        repeat (first | ((with_reducible refine step_t ?_ ?_); with_reducible exact True.intro) | ((with_reducible refine step_t ?_ ?_); omega) | ((with_reducible refine step_f ?_ ?_); omega))
        refine step_c (k1) ?_
        try dsimp only
        repeat (first | ((with_reducible refine step_t ?_ ?_); with_reducible exact True.intro) | ((with_reducible refine step_t ?_ ?_); with_reducible exact b2i_01 _) | ((with_reducible refine step_t ?_ ?_); omega) | ((with_reducible refine step_f ?_ ?_); omega))
        rfl
    · rw [if_neg (fun q => z2 q.2)]
      refine ⟨σ, ?_, FS.rf hy⟩
      rw [ce_162, sg_162_0]
      (try simp (disch := omega) only [f6, p6, wr_id2])
      repeat (first | ((with_reducible refine step_t ?_ ?_); with_reducible exact True.intro) | ((with_reducible refine step_t ?_ ?_); omega) | ((with_reducible refine step_f ?_ ?_); omega))
      refine step_c (e43) ?_
      try dsimp only
      repeat (first | ((with_reducible refine step_t ?_ ?_); with_reducible exact True.intro) | ((with_reducible refine step_t ?_ ?_); omega) | ((with_reducible refine step_f ?_ ?_); omega))
      refine step_c (f43) ?_
      try dsimp only
      rw [wr_b2i, wr_b2i]
      refine step_f (fun q => z2 (by revert q; cases lpB L <;> cases lpB M <;> simp [b2i])) ?_
      rfl
  · rw [if_neg (fun q => z q.1)]
    refine ⟨σ, ?_, FS.rf hy⟩
    rw [ce_162, sg_162_0]
    (try simp (disch := omega) only [f6, p6, wr_id2])
    repeat (first | ((with_reducible refine step_t ?_ ?_); with_reducible exact True.intro) | ((with_reducible refine step_t ?_ ?_); omega) | ((with_reducible refine step_f ?_ ?_); omega))
    rfl
theorem c161 (S : AS) {s t : Int} (hs : i32 s) (ht2 : i32 t) : cOp 161 [vI s, vI t] S (likA S s t, S) := by
  intro d σ h hy ht hc
  obtain ⟨d, rfl⟩ := ob1 (show 1 ≤ d by omega)
  have y1 := hy.1
  have a1 := y32_m1 hy
  have a7 := y32_7 hy
  have b94 := y94_m1 hy
  have e41 := s41 (d := d) (by omega) hy hc hs
  have f41 := s41 (d := d) (by omega) hy hc ht2
  unfold likA
  cases e : gl S s with
  | none =>
    rw [lbA_n e] at e41
    refine ⟨σ, ?_, FC.rf hy, hc⟩
    rw [ce_161, sg_161_0]
    repeat (first | ((with_reducible refine step_t ?_ ?_); with_reducible exact True.intro) | ((with_reducible refine step_t ?_ ?_); omega) | ((with_reducible refine step_f ?_ ?_); omega))
    refine step_c (e41) ?_
    try dsimp only
    repeat (first | ((with_reducible refine step_t ?_ ?_); with_reducible exact True.intro) | ((with_reducible refine step_t ?_ ?_); omega) | ((with_reducible refine step_f ?_ ?_); omega))
    refine step_c (f41) ?_
    try dsimp only
    repeat (first | ((with_reducible refine step_t ?_ ?_); with_reducible exact True.intro) | ((with_reducible refine step_t ?_ ?_); omega) | ((with_reducible refine step_f ?_ ?_); omega))
    rfl
  | some L =>
    rw [lbA_s e] at e41
    obtain ⟨g1, g2, g3, g4, g5⟩ := hc.got e
    cases f : gl S t with
    | none =>
      rw [lbA_n f] at f41
      refine ⟨σ, ?_, FC.rf hy, hc⟩
      rw [ce_161, sg_161_0]
      repeat (first | ((with_reducible refine step_t ?_ ?_); with_reducible exact True.intro) | ((with_reducible refine step_t ?_ ?_); omega) | ((with_reducible refine step_f ?_ ?_); omega))
      refine step_c (e41) ?_
      try dsimp only
      repeat (first | ((with_reducible refine step_t ?_ ?_); with_reducible exact True.intro) | ((with_reducible refine step_t ?_ ?_); omega) | ((with_reducible refine step_f ?_ ?_); omega))
      refine step_c (f41) ?_
      try dsimp only
      repeat (first | ((with_reducible refine step_t ?_ ?_); with_reducible exact True.intro) | ((with_reducible refine step_t ?_ ?_); omega) | ((with_reducible refine step_f ?_ ?_); omega))
      rfl
    | some M =>
      rw [lbA_s f] at f41
      obtain ⟨q1, q2, q3, q4, q5⟩ := hc.got f
      obtain ⟨σ1, k1, F1⟩ := s162 (d := d) (by omega) hy g3 (by omega) g4.1 q3 (by omega) q4.1
      refine ⟨σ1, ?_, F1.fc, F1.cr hc⟩
      rw [ce_161, sg_161_0]
      repeat (first | ((with_reducible refine step_t ?_ ?_); with_reducible exact True.intro) | ((with_reducible refine step_t ?_ ?_); omega) | ((with_reducible refine step_f ?_ ?_); omega))
      refine step_c (e41) ?_
      try dsimp only
      repeat (first | ((with_reducible refine step_t ?_ ?_); with_reducible exact True.intro) | ((with_reducible refine step_t ?_ ?_); omega) | ((with_reducible refine step_f ?_ ?_); omega))
      refine step_c (f41) ?_
      try dsimp only
      (try simp (disch := omega) only [a7, wr_id2])
      repeat (first | ((with_reducible refine step_t ?_ ?_); with_reducible exact True.intro) | ((with_reducible refine step_t ?_ ?_); omega) | ((with_reducible refine step_f ?_ ?_); omega))
      refine step_c (k1) ?_
      try dsimp only
      refine step_c (s52 (by omega) σ1 _) ?_
      try dsimp only
/-- the reference -/
def inF (f g : Nat → Int) : Prop := ∀ x y : Nat, x < 8 → y < 8 → (f x = (y : Int) ↔ g y = (x : Int))
theorem inF_set {f g : Nat → Int} (h : inF f g) {x y : Nat} (hx : x < 8) (hy : y < 8) (h1 : f x = -1) (h2 : g y = -1) : inF (setF f x y) (setF g y x) := by
  intro a b ha hb
  by_cases z : a = x
  · rw [z, setF_s]
    by_cases z2 : b = y
    · rw [z2, setF_s]
      exact ⟨fun _ => rfl, fun _ => rfl⟩
    · rw [setF_n _ _ z2]
      have := h x b hx hb
      rw [h1] at this
      constructor
      · intro q; omega
      · intro q; have := this.mpr q; omega
  · rw [setF_n _ _ z]
    by_cases z2 : b = y
    · rw [z2, setF_s]
      have := h a y ha hy
      rw [h2] at this
      constructor
      · intro q; have := this.mp q; omega
      · intro q; omega
    · rw [setF_n _ _ z2]
      exact h a b ha hb
theorem s281l {d : Nat} (h : 1 ≤ d) {σ0 : HP} {n k : Nat} (hn : n < 3) (hk : k < 3) {L M : LB} (hr0 : slR σ0 n L) (hL : wf0 L) (hr1 : slR σ0 k M) (hM : wf0 M) {z : Bool} {p : Nat} (hlm : (lT L).length = (lT M).length) (hp : p ≤ (lT M).length) : ∀ (m i : Nat) (σ : HP) (f g : Nat → Int) (u7 u8 : MV), i + m = (lT L).length → FQ σ0 σ → nmR σ 112 113 f g → inF f g → ∃ σ', rsP PG0 MX d 281 42 [vR 101, vI n, vI k, vI p, vI (b2i z), vI ((lT L).length : Nat), vI i, u7, u8] [] σ = some (b2i (agrF L M z p m i f g), σ') ∧ FQ σ0 σ' := by
  have hl := wf_len hL
  have hl2 := wf_len hM
  have h9 := hL.1
  have h92 := hM.1
  intro m
  induction m with
  | zero =>
    intro i σ f g u7 u8 hi hF hN hI
    refine ⟨σ, ?_, hF⟩
    rw [sg_281_42]
    (try simp (disch := omega) only [wr_id2])
    repeat (first | ((with_reducible refine step_t ?_ ?_); with_reducible exact True.intro) | ((with_reducible refine step_t ?_ ?_); omega) | ((with_reducible refine step_f ?_ ?_); omega))
    rfl
  | succ m ih =>
    intro i σ f g u7 u8 hi hF hN hI
    have hy := hF.2
    have y1 := hy.1; have k101 := y101_m1 hy; have p112 := y101_25 hy; have k112 := y112_m1 hy; have l112 := y112_m2 hy; have p113 := y101_26 hy; have k113 := y113_m1 hy; have l113 := y113_m2 hy
    have hat := at_lt (z := z) (k := p) (n := (lT M).length) (i := i) (by omega)
    have e1 := s205 (d := d) h hy hn (hF.slr hr0) hL (stN_at (show i < (lT L).length by omega))
    have e2 := s205 (d := d) h hy hk (hF.slr hr1) hM (stN_at hat)
    have hx := stN_lt hL (i := i) (by omega)
    have hy2 := stN_lt hM hat
    generalize hX : stN L i = x at *
    generalize hY : stN M (atN z p (lT M).length i) = y at *
    obtain ⟨q1, q2, q3, q4, q5, q6⟩ := hN x (by omega)
    obtain ⟨r1, r2, r3, r4, r5, r6⟩ := hN y (by omega)
    have eF : agrF L M z p (m + 1) i f g = if f x = -1 ∧ g y = -1 then agrF L M z p m (i + 1) (setF f x y) (setF g y x) else if f x = (y : Nat) then agrF L M z p m (i + 1) f g else false := by
      show (if f (stN L i) = -1 ∧ g (stN M (atN z p (lT M).length i)) = -1 then _ else _) = _
      rw [hX, hY]
    have k130 : ∀ (σ : HP) (f g : Nat → Int), FQ σ0 σ → nmR σ 112 113 f g → inF f g → ∃ σ', rsP PG0 MX d 281 130 [vR 101, vI n, vI k, vI p, vI (b2i z), vI ((lT L).length : Nat), vI i, vI x, vI y] [] σ = some (b2i (if f x = (y : Nat) then agrF L M z p m (i + 1) f g else false), σ') ∧ FQ σ0 σ' := by
      intro σ f g hF hN hI
      have hy := hF.2
      have y1 := hy.1; have k101 := y101_m1 hy; have p112 := y101_25 hy; have k112 := y112_m1 hy; have l112 := y112_m2 hy; have p113 := y101_26 hy; have k113 := y113_m1 hy; have l113 := y113_m2 hy
      obtain ⟨q1, q2, q3, q4, q5, q6⟩ := hN x (by omega)
      obtain ⟨r1, r2, r3, r4, r5, r6⟩ := hN y (by omega)
      have hi2 := hI x y (by omega) (by omega)
      by_cases w : f x = (y : Nat)
      · rw [if_pos w]
        have w2 := hi2.mp w
        obtain ⟨σ', k1, k2⟩ := ih (i + 1) σ f g (vI x) (vI y) (by omega) hF hN hI
        refine ⟨σ', ?_, k2⟩
        rw [sg_281_130]
        (try simp (disch := omega) only [p112, p113, q1, r2, wr_id2])
        repeat (first | ((with_reducible refine step_t ?_ ?_); with_reducible exact True.intro) | ((with_reducible refine step_t ?_ ?_); omega) | ((with_reducible refine step_f ?_ ?_); omega))
        exact k1
      · rw [if_neg w]
        refine ⟨σ, ?_, hF⟩
        rw [sg_281_130]
        (try simp (disch := omega) only [p112, p113, q1, r2, wr_id2])
        repeat (first | ((with_reducible refine step_t ?_ ?_); with_reducible exact True.intro) | ((with_reducible refine step_t ?_ ?_); omega) | ((with_reducible refine step_f ?_ ?_); omega))
        rfl
    have k85 : ∃ σ', rsP PG0 MX d 281 85 [vR 101, vI n, vI k, vI p, vI (b2i z), vI ((lT L).length : Nat), vI i, vI x, vU] [vI (atN z p (lT M).length i : Nat), vI k, vR 101] σ = some (b2i (agrF L M z p (m + 1) i f g), σ') ∧ FQ σ0 σ' := by
      rw [eF]
      by_cases w1 : f x = -1
      · by_cases w2 : g y = -1
        · rw [if_pos ⟨w1, w2⟩]
          have hF0 : FQ σ0 (up σ 112 (x : Nat) (y : Nat)) := hF.upd (by omega) okr_112 (by omega)
          have hF1 : FQ σ0 (up (up σ 112 (x : Nat) (y : Nat)) 113 (y : Nat) (x : Nat)) := hF0.upd (by omega) okr_113 (by omega)
          have hy0 := hF0.2
          have y1b := hy0.1; have k101b := y101_m1 hy0; have p112b := y101_25 hy0; have k112b := y112_m1 hy0; have l112b := y112_m2 hy0; have p113b := y101_26 hy0; have k113b := y113_m1 hy0; have l113b := y113_m2 hy0
          obtain ⟨σ', k1, k2⟩ := k130 _ _ _ hF1 (nm_set hN (by omega) (x := x) (y := y) (by omega) (by omega)) (inF_set hI (by omega) (by omega) w1 w2)
          rw [setF_s, if_pos rfl] at k1
          refine ⟨σ', ?_, k2⟩
          rw [sg_281_85]
          repeat (first | ((with_reducible refine step_t ?_ ?_); with_reducible exact True.intro) | ((with_reducible refine step_t ?_ ?_); omega) | ((with_reducible refine step_f ?_ ?_); omega))
          refine step_c (e2) ?_
          try dsimp only
          (try simp (disch := omega) only [p112, p113, q1, r2, wr_id2])
          repeat (first | ((with_reducible refine step_t ?_ ?_); with_reducible exact True.intro) | ((with_reducible refine step_t ?_ ?_); omega) | ((with_reducible refine step_f ?_ ?_); omega))
          (try simp (disch := omega) only [p113b, wr_id2])
          repeat (first | ((with_reducible refine step_t ?_ ?_); with_reducible exact True.intro) | ((with_reducible refine step_t ?_ ?_); omega) | ((with_reducible refine step_f ?_ ?_); omega))
          exact k1
        · rw [if_neg (fun q => w2 q.2)]
          obtain ⟨σ', k1, k2⟩ := k130 σ f g hF hN hI
          refine ⟨σ', ?_, k2⟩
          rw [sg_281_85]
          repeat (first | ((with_reducible refine step_t ?_ ?_); with_reducible exact True.intro) | ((with_reducible refine step_t ?_ ?_); omega) | ((with_reducible refine step_f ?_ ?_); omega))
          refine step_c (e2) ?_
          try dsimp only
          (try simp (disch := omega) only [p112, p113, q1, r2, wr_id2])
          repeat (first | ((with_reducible refine step_t ?_ ?_); with_reducible exact True.intro) | ((with_reducible refine step_t ?_ ?_); omega) | ((with_reducible refine step_f ?_ ?_); omega))
          exact k1
      · rw [if_neg (fun q => w1 q.1)]
        obtain ⟨σ', k1, k2⟩ := k130 σ f g hF hN hI
        refine ⟨σ', ?_, k2⟩
        rw [sg_281_85]
        repeat (first | ((with_reducible refine step_t ?_ ?_); with_reducible exact True.intro) | ((with_reducible refine step_t ?_ ?_); omega) | ((with_reducible refine step_f ?_ ?_); omega))
        refine step_c (e2) ?_
        try dsimp only
        (try simp (disch := omega) only [p112, p113, q1, r2, wr_id2])
        repeat (first | ((with_reducible refine step_t ?_ ?_); with_reducible exact True.intro) | ((with_reducible refine step_t ?_ ?_); omega) | ((with_reducible refine step_f ?_ ?_); omega))
        exact k1
    obtain ⟨σ', k1, k2⟩ := k85
    refine ⟨σ', ?_, k2⟩
    rw [sg_281_42]
    (try simp (disch := omega) only [wr_id2])
    repeat (first | ((with_reducible refine step_t ?_ ?_); with_reducible exact True.intro) | ((with_reducible refine step_t ?_ ?_); omega) | ((with_reducible refine step_f ?_ ?_); omega))
    refine step_c (e1) ?_
    try dsimp only
    rw [wr_b2i]
    cases z with
    | true =>
      have er : i_rem ((p : Int) + (i : Int)) ((lT L).length : Nat) = ((atN true p (lT M).length i : Nat) : Int) := by
        unfold atN
        rw [if_pos rfl, ← hlm, show (p : Int) + (i : Int) = ((p + i : Nat) : Int) by omega]
        exact i_rem_n (by omega) (by omega) (by omega)
      refine step_f (show ¬ (b2i true = 0) by decide) ?_
      rw [er]
      repeat (first | ((with_reducible refine step_t ?_ ?_); with_reducible exact True.intro) | ((with_reducible refine step_t ?_ ?_); omega) | ((with_reducible refine step_f ?_ ?_); omega))
      exact k1
    | false =>
      have er : i_rem ((p : Int) + ((lT L).length : Nat) - (i : Int)) ((lT L).length : Nat) = ((atN false p (lT M).length i : Nat) : Int) := by
        unfold atN
        rw [if_neg (by decide), ← hlm, show (p : Int) + ((lT L).length : Nat) - (i : Int) = ((p + (lT L).length - i : Nat) : Int) by omega]
        exact i_rem_n (by omega) (by omega) (by omega)
      refine step_t (show b2i false = 0 by decide) ?_
      rw [er]
      repeat (first | ((with_reducible refine step_t ?_ ?_); with_reducible exact True.intro) | ((with_reducible refine step_t ?_ ?_); omega) | ((with_reducible refine step_f ?_ ?_); omega))
      exact k1
theorem s281f {d : Nat} {σ0 : HP} {x1 x2 x3 x4 x5 : Int} : ∀ (m j : Nat) (σ : HP) (u7 u8 : MV), j + m = 8 → FQ σ0 σ → (∀ x : Nat, x < j → σ 112 x = -1 ∧ σ 113 x = -1) → ∃ σ', rsP PG0 MX d 281 10 [vR 101, vI x1, vI x2, vI x3, vI x4, vI x5, vI j, u7, u8] [] σ = rsP PG0 MX d 281 42 [vR 101, vI x1, vI x2, vI x3, vI x4, vI x5, vI 0, vU, vU] [] σ' ∧ FQ σ0 σ' ∧ ∀ x : Nat, x < 8 → σ' 112 x = -1 ∧ σ' 113 x = -1 := by
  intro m
  induction m with
  | zero =>
    intro j σ u7 u8 hj hF h1
    refine ⟨σ, ?_, hF, fun x hx => h1 x (by omega)⟩
    rw [sg_281_10]
    (try simp (disch := omega) only [wr_id2])
    repeat (first | ((with_reducible refine step_t ?_ ?_); with_reducible exact True.intro) | ((with_reducible refine step_t ?_ ?_); omega) | ((with_reducible refine step_f ?_ ?_); omega))
    rfl
  | succ m ih =>
    intro j σ u7 u8 hj hF h1
    have hy := hF.2
    have y1 := hy.1; have k101 := y101_m1 hy; have p112 := y101_25 hy; have k112 := y112_m1 hy; have l112 := y112_m2 hy; have p113 := y101_26 hy; have k113 := y113_m1 hy; have l113 := y113_m2 hy
    have hF0 : FQ σ0 (up σ 112 (j : Nat) (-1)) := hF.upd (by omega) okr_112 (by omega)
    have hF1 : FQ σ0 (up (up σ 112 (j : Nat) (-1)) 113 (j : Nat) (-1)) := hF0.upd (by omega) okr_113 (by omega)
    have hy0 := hF0.2
    have y1b := hy0.1; have k101b := y101_m1 hy0; have p112b := y101_25 hy0; have k112b := y112_m1 hy0; have l112b := y112_m2 hy0; have p113b := y101_26 hy0; have k113b := y113_m1 hy0; have l113b := y113_m2 hy0
    obtain ⟨σ', k1, k2, k3⟩ := ih (j + 1) _ vU vU (by omega) hF1 (fun x hx => by
      by_cases z : x = j
      · rw [z, up_s, up_n1 _ _ _ _ (by omega), up_s]; exact ⟨rfl, rfl⟩
      · rw [up_n1 _ _ _ _ (by omega), up_n2 _ _ _ _ (by omega), up_n2 _ _ _ _ (by omega), up_n1 _ _ _ _ (by omega)]; exact h1 x (by omega))
    refine ⟨σ', ?_, k2, k3⟩
    rw [sg_281_10]
    (try simp (disch := omega) only [p112, p113, wr_id2])
    repeat (first | ((with_reducible refine step_t ?_ ?_); with_reducible exact True.intro) | ((with_reducible refine step_t ?_ ?_); omega) | ((with_reducible refine step_f ?_ ?_); omega))
    (try simp (disch := omega) only [p113b, wr_id2])
    repeat (first | ((with_reducible refine step_t ?_ ?_); with_reducible exact True.intro) | ((with_reducible refine step_t ?_ ?_); omega) | ((with_reducible refine step_f ?_ ?_); omega))
    exact k1
theorem s281 {d : Nat} (h : 3 ≤ d) {σ0 σ : HP} (hF : FQ σ0 σ) {n k : Nat} (hn : n < 3) (hk : k < 3) {L M : LB} (hr0 : slR σ0 n L) (hL : wf0 L) (hr1 : slR σ0 k M) (hM : wf0 M) (z : Bool) {p : Nat} (hlm : (lT L).length = (lT M).length) (hp : p ≤ (lT M).length) : ∃ σ', clR PG0 MX d 281 [vR 101, vI n, vI k, vI p, vI (b2i z)] σ = some (b2i (agrB L M z p), σ') ∧ FQ σ0 σ' := by
  obtain ⟨d, rfl⟩ := ob1 (show 1 ≤ d by omega)
  have hy := hF.2
  have y1 := hy.1; have k101 := y101_m1 hy
  obtain ⟨σ1, k1, k2, k3⟩ := s281f (d := d) (σ0 := σ0) (x1 := n) (x2 := k) (x3 := p) (x4 := b2i z) (x5 := ((lT L).length : Nat)) 8 0 σ vU vU (by omega) hF (fun x hx => by omega)
  obtain ⟨σ2, j1, j2⟩ := s281l (d := d) (by omega) hn hk hr0 hL hr1 hM (z := z) (p := p) hlm hp (lT L).length 0 σ1 (fun _ => -1) (fun _ => -1) vU vU (by omega) k2 (fun x hx => ⟨(k3 x hx).1, (k3 x hx).2, Int.le_refl _, by show (-1 : Int) < 8; omega, Int.le_refl _, by show (-1 : Int) < 8; omega⟩) (fun x y _ _ => by
    constructor
    · intro q; have q : (-1 : Int) = y := q; omega
    · intro q; have q : (-1 : Int) = x := q; omega)
  refine ⟨σ2, ?_, j2⟩
  rw [ce_281, sg_281_0]
  repeat (first | ((with_reducible refine step_t ?_ ?_); with_reducible exact True.intro) | ((with_reducible refine step_t ?_ ?_); omega) | ((with_reducible refine step_f ?_ ?_); omega))
  refine step_c (s204 (by omega) hy hn (hF.slr hr0)) ?_
  try dsimp only
  exact k1.trans j1
theorem s279l {d : Nat} (h : 3 ≤ d) {σ0 : HP} {n k : Nat} (hn : n < 3) (hk : k < 3) {L M : LB} (hr0 : slR σ0 n L) (hL : wf0 L) (hr1 : slR σ0 k M) (hM : wf0 M) (hlm : (lT L).length = (lT M).length) : ∀ (m p : Nat) (σ : HP) (u : MV), p + m = (lT L).length → FQ σ0 σ → ∃ σ', rsP PG0 MX d 279 73 [vR 101, vI n, vI k, u, vI p] [] σ = some (b2i (liF L M m p), σ') ∧ FQ σ0 σ' := by
  have hl := wf_len hL
  intro m
  induction m with
  | zero =>
    intro p σ u hp hF
    have hy := hF.2
    have y1 := hy.1; have k101 := y101_m1 hy
    refine ⟨σ, ?_, hF⟩
    rw [sg_279_73]
    repeat (first | ((with_reducible refine step_t ?_ ?_); with_reducible exact True.intro) | ((with_reducible refine step_t ?_ ?_); omega) | ((with_reducible refine step_f ?_ ?_); omega))
    refine step_c (s204 (by omega) hy hn (hF.slr hr0)) ?_
    try dsimp only
    (try simp (disch := omega) only [wr_id2])
    repeat (first | ((with_reducible refine step_t ?_ ?_); with_reducible exact True.intro) | ((with_reducible refine step_t ?_ ?_); omega) | ((with_reducible refine step_f ?_ ?_); omega))
    rfl
  | succ m ih =>
    intro p σ u hp hF
    have hy := hF.2
    have y1 := hy.1; have k101 := y101_m1 hy
    obtain ⟨σ1, k1, F1⟩ := s281 (d := d) h hF hn hk hr0 hL hr1 hM true (p := p) hlm (by omega)
    obtain ⟨σ2, k2, F2⟩ := s281 (d := d) h F1 hn hk hr0 hL hr1 hM false (p := p) hlm (by omega)
    have hy1 := F1.2
    have y1b := hy1.1; have k101b := y101_m1 hy1
    have k1 : clR PG0 MX d 281 [vR 101, vI n, vI k, vI p, vI 1] σ = some (b2i (agrB L M true p), σ1) := k1
    have k2 : clR PG0 MX d 281 [vR 101, vI n, vI k, vI p, vI 0] σ1 = some (b2i (agrB L M false p), σ2) := k2
    unfold liF
    cases q1 : agrB L M true p with
    | true =>
      rw [q1] at k1
      rw [if_pos rfl]
      refine ⟨σ1, ?_, F1⟩
      rw [sg_279_73]
      repeat (first | ((with_reducible refine step_t ?_ ?_); with_reducible exact True.intro) | ((with_reducible refine step_t ?_ ?_); omega) | ((with_reducible refine step_f ?_ ?_); omega))
      refine step_c (s204 (by omega) hy hn (hF.slr hr0)) ?_
      try dsimp only
      (try simp (disch := omega) only [wr_id2])
      repeat (first | ((with_reducible refine step_t ?_ ?_); with_reducible exact True.intro) | ((with_reducible refine step_t ?_ ?_); omega) | ((with_reducible refine step_f ?_ ?_); omega))
      refine step_c (k1) ?_
      try dsimp only
      rw [wr_b2i]
      refine step_t (show b2i true ≠ 0 by decide) ?_
      rfl
    | false =>
      rw [q1] at k1
      rw [if_neg (by decide)]
      cases q2 : agrB L M false p with
      | true =>
        rw [q2] at k2
        rw [if_pos rfl]
        refine ⟨σ2, ?_, F2⟩
        rw [sg_279_73]
        repeat (first | ((with_reducible refine step_t ?_ ?_); with_reducible exact True.intro) | ((with_reducible refine step_t ?_ ?_); omega) | ((with_reducible refine step_f ?_ ?_); omega))
        refine step_c (s204 (by omega) hy hn (hF.slr hr0)) ?_
        try dsimp only
        (try simp (disch := omega) only [wr_id2])
        repeat (first | ((with_reducible refine step_t ?_ ?_); with_reducible exact True.intro) | ((with_reducible refine step_t ?_ ?_); omega) | ((with_reducible refine step_f ?_ ?_); omega))
        refine step_c (k1) ?_
        try dsimp only
        rw [wr_b2i]
        refine step_f (show ¬ (b2i false ≠ 0) by decide) ?_
        repeat (first | ((with_reducible refine step_t ?_ ?_); with_reducible exact True.intro) | ((with_reducible refine step_t ?_ ?_); omega) | ((with_reducible refine step_f ?_ ?_); omega))
        refine step_c (k2) ?_
        try dsimp only
        rw [wr_b2i]
        refine step_f (show ¬ (b2i true = 0) by decide) ?_
        rfl
      | false =>
        rw [q2] at k2
        rw [if_neg (by decide)]
        obtain ⟨σ3, k3, F3⟩ := ih (p + 1) σ2 vU (by omega) F2
        refine ⟨σ3, ?_, F3⟩
        rw [sg_279_73]
        repeat (first | ((with_reducible refine step_t ?_ ?_); with_reducible exact True.intro) | ((with_reducible refine step_t ?_ ?_); omega) | ((with_reducible refine step_f ?_ ?_); omega))
        refine step_c (s204 (by omega) hy hn (hF.slr hr0)) ?_
        try dsimp only
        (try simp (disch := omega) only [wr_id2])
        repeat (first | ((with_reducible refine step_t ?_ ?_); with_reducible exact True.intro) | ((with_reducible refine step_t ?_ ?_); omega) | ((with_reducible refine step_f ?_ ?_); omega))
        refine step_c (k1) ?_
        try dsimp only
        rw [wr_b2i]
        refine step_f (show ¬ (b2i false ≠ 0) by decide) ?_
        repeat (first | ((with_reducible refine step_t ?_ ?_); with_reducible exact True.intro) | ((with_reducible refine step_t ?_ ?_); omega) | ((with_reducible refine step_f ?_ ?_); omega))
        refine step_c (k2) ?_
        try dsimp only
        rw [wr_b2i]
        refine step_t (show b2i false = 0 by decide) ?_
        exact k3
theorem s280 {d : Nat} (h : 4 ≤ d) {σ : HP} (hy : Lay σ) {n : Nat} {L : LB} (hn : n < 3) (hr : slR σ n L) (hw : wf0 L) : ∃ σ', clR PG0 MX d 280 [vR 101, vI n] σ = some (b2i (lpB L), σ') ∧ FQ σ σ' := by
  obtain ⟨d, rfl⟩ := ob1 (show 1 ≤ d by omega)
  have y1 := hy.1; have k101 := y101_m1 hy
  obtain ⟨σ1, k1, k2, k3, k4⟩ := s203 (d := d) (by omega) hy hn hr hw
  have hy1 := k2.2
  have y1b := hy1.1; have k101b := y101_m1 hy1
  refine ⟨σ1, ?_, k2⟩
  rw [ce_280, sg_280_0]
  repeat (first | ((with_reducible refine step_t ?_ ?_); with_reducible exact True.intro) | ((with_reducible refine step_t ?_ ?_); omega) | ((with_reducible refine step_f ?_ ?_); omega))
  refine step_c (k1) ?_
  try dsimp only
  (try simp (disch := omega) only [k4.2.2.2, wr_id2])
  repeat (first | ((with_reducible refine step_t ?_ ?_); with_reducible exact True.intro) | ((with_reducible refine step_t ?_ ?_); with_reducible exact b2i_01 _) | ((with_reducible refine step_t ?_ ?_); omega) | ((with_reducible refine step_f ?_ ?_); omega))
  rfl
theorem m279 (S : AS) {s t : Int} (hs : i32 s) (ht2 : i32 t) : mOp 279 [vI s, vI t] S (likA S s t, S) := by
  intro d σ h hy ht hm
  obtain ⟨d, rfl⟩ := ob1 (show 1 ≤ d by omega)
  have y1 := hy.1; have k101 := y101_m1 hy; have p102 := y101_0 hy; have k102 := y102_m1 hy; have l102 := y102_m2 hy
  unfold likA
  cases e : gl S s with
  | none =>
    refine ⟨σ, ?_, (FM.rf hy).fl, hm⟩
    rw [ce_279, sg_279_0]
    repeat (first | ((with_reducible refine step_t ?_ ?_); with_reducible exact True.intro) | ((with_reducible refine step_t ?_ ?_); omega) | ((with_reducible refine step_f ?_ ?_); omega))
    refine step_c (s180n (by omega) hy hm hs e) ?_
    try dsimp only
    (try simp (disch := omega) only [wr_id2])
    repeat (first | ((with_reducible refine step_t ?_ ?_); with_reducible exact True.intro) | ((with_reducible refine step_t ?_ ?_); omega) | ((with_reducible refine step_f ?_ ?_); omega))
    rfl
  | some L =>
    have e180 := s180s (d := d) (by omega) hy hm hs e
    obtain ⟨n, rfl, hn, hr, hw, en⟩ := hm.got e
    cases f : gl S t with
    | none =>
      refine ⟨σ, ?_, (FM.rf hy).fl, hm⟩
      rw [ce_279, sg_279_0]
      repeat (first | ((with_reducible refine step_t ?_ ?_); with_reducible exact True.intro) | ((with_reducible refine step_t ?_ ?_); omega) | ((with_reducible refine step_f ?_ ?_); omega))
      refine step_c (e180) ?_
      try dsimp only
      (try simp (disch := omega) only [wr_id2])
      repeat (first | ((with_reducible refine step_t ?_ ?_); with_reducible exact True.intro) | ((with_reducible refine step_t ?_ ?_); omega) | ((with_reducible refine step_f ?_ ?_); omega))
      refine step_c (s180n (by omega) hy hm ht2 f) ?_
      try dsimp only
      (try simp (disch := omega) only [wr_id2])
      repeat (first | ((with_reducible refine step_t ?_ ?_); with_reducible exact True.intro) | ((with_reducible refine step_t ?_ ?_); omega) | ((with_reducible refine step_f ?_ ?_); omega))
      rfl
    | some M =>
      have f180 := s180s (d := d) (by omega) hy hm ht2 f
      obtain ⟨k, rfl, hk, hr2, hM, ek⟩ := hm.got f
      have hl1 := wf_len hw.1
      have hl2 := wf_len hM.1
      obtain ⟨σ1, k1, F1⟩ := s280 (d := d) (by omega) hy hn hr hw.1
      have hy1 := F1.2
      have y1b := hy1.1; have k101b := y101_m1 hy1
      have e204 := s204 (d := d) (by omega) hy1 hn (F1.slr hr)
      have f204 := s204 (d := d) (by omega) hy1 hk (F1.slr hr2)
      have start : ∀ X, rsP PG0 MX d 279 (if (lT L).length = (lT M).length then 38 else 47) [vR 101, vI n, vI k, vI (b2i (lpB L)), vU] [] σ1 = X → clR PG0 MX (d + 1) 279 [vR 101, vI n, vI k] σ = X := by
        intro X hX
        rw [ce_279, sg_279_0]
        repeat (first | ((with_reducible refine step_t ?_ ?_); with_reducible exact True.intro) | ((with_reducible refine step_t ?_ ?_); omega) | ((with_reducible refine step_f ?_ ?_); omega))
        refine step_c (e180) ?_
        try dsimp only
        (try simp (disch := omega) only [wr_id2])
        repeat (first | ((with_reducible refine step_t ?_ ?_); with_reducible exact True.intro) | ((with_reducible refine step_t ?_ ?_); omega) | ((with_reducible refine step_f ?_ ?_); omega))
        refine step_c (f180) ?_
        try dsimp only
        (try simp (disch := omega) only [wr_id2])
        repeat (first | ((with_reducible refine step_t ?_ ?_); with_reducible exact True.intro) | ((with_reducible refine step_t ?_ ?_); omega) | ((with_reducible refine step_f ?_ ?_); omega))
        refine step_c (k1) ?_
        try dsimp only
        repeat (first | ((with_reducible refine step_t ?_ ?_); with_reducible exact True.intro) | ((with_reducible refine step_t ?_ ?_); omega) | ((with_reducible refine step_f ?_ ?_); omega))
        refine step_c (e204) ?_
        try dsimp only
        repeat (first | ((with_reducible refine step_t ?_ ?_); with_reducible exact True.intro) | ((with_reducible refine step_t ?_ ?_); omega) | ((with_reducible refine step_f ?_ ?_); omega))
        refine step_c (f204) ?_
        try dsimp only
        (try simp (disch := omega) only [wr_id2])
        by_cases z : (lT L).length = (lT M).length
        · rw [if_pos z] at hX
          refine step_f (by omega) ?_
          exact hX
        · rw [if_neg z] at hX
          refine step_t (by omega) ?_
          exact hX
      dsimp only
      unfold liB
      by_cases z : (lT L).length = (lT M).length
      · rw [if_pos z] at start
        obtain ⟨σ2, k2, F2⟩ := s280 (d := d) (by omega) hy1 hk (F1.slr hr2) hM.1
        have F2 := F1.tr F2
        have hy2 := F2.2
        have y1c := hy2.1; have k101c := y101_m1 hy2
        by_cases z2 : lpB L = lpB M
        · rw [if_pos ⟨z, z2⟩]
          rw [← z2] at k2
          cases hlp : lpB L with
          | true =>
            rw [if_pos rfl]
            rw [hlp] at k2 start
            obtain ⟨σ3, k3, F3⟩ := s279l (d := d) (by omega) hn hk hr hw.1 hr2 hM.1 z (lT L).length 0 σ2 (vI (b2i true)) (by omega) F2
            refine ⟨σ3, start _ ?_, F3.ml, F3.mr hm⟩
            rw [sg_279_38]
            repeat (first | ((with_reducible refine step_t ?_ ?_); with_reducible exact True.intro) | ((with_reducible refine step_t ?_ ?_); omega) | ((with_reducible refine step_f ?_ ?_); omega))
            refine step_c (k2) ?_
            try dsimp only
            refine step_t (by omega) ?_
            refine step_t (show wr (b2i true) ≠ 0 by decide) ?_
            exact k3
          | false =>
            rw [if_neg (by decide)]
            rw [hlp] at k2 start
            obtain ⟨σ3, k3, F3⟩ := s281 (d := d) (by omega) F2 hn hk hr hw.1 hr2 hM.1 true (p := 0) z (by omega)
            have k3 : clR PG0 MX d 281 [vR 101, vI n, vI k, vI 0, vI 1] σ2 = some (b2i (agrB L M true 0), σ3) := k3
            refine ⟨σ3, start _ ?_, F3.ml, F3.mr hm⟩
            rw [sg_279_38]
            repeat (first | ((with_reducible refine step_t ?_ ?_); with_reducible exact True.intro) | ((with_reducible refine step_t ?_ ?_); omega) | ((with_reducible refine step_f ?_ ?_); omega))
            refine step_c (k2) ?_
            try dsimp only
            refine step_t (by omega) ?_
            refine step_f (show ¬ (wr (b2i false) ≠ 0) by decide) ?_
            repeat (first | ((with_reducible refine step_t ?_ ?_); with_reducible exact True.intro) | ((with_reducible refine step_t ?_ ?_); omega) | ((with_reducible refine step_f ?_ ?_); omega))
            refine step_c (k3) ?_
            try dsimp only
            rw [wr_b2i]
            cases agrB L M true 0
            · refine step_t (show b2i false = 0 by decide) ?_
              rfl
            · refine step_f (show ¬ (b2i true = 0) by decide) ?_
              rfl
        · rw [if_neg (fun q => z2 q.2)]
          refine ⟨σ2, start _ ?_, F2.ml, F2.mr hm⟩
          rw [sg_279_38]
          repeat (first | ((with_reducible refine step_t ?_ ?_); with_reducible exact True.intro) | ((with_reducible refine step_t ?_ ?_); omega) | ((with_reducible refine step_f ?_ ?_); omega))
          refine step_c (k2) ?_
          try dsimp only
          rw [wr_b2i, wr_b2i]
          refine step_f (fun q => z2 (by revert q; cases lpB L <;> cases lpB M <;> simp [b2i])) ?_
          rw [sg_279_47]
          rfl
      · rw [if_neg z] at start
        rw [if_neg (fun q => z q.1)]
        refine ⟨σ1, start _ ?_, F1.ml, F1.mr hm⟩
        rw [sg_279_47]
        rfl
