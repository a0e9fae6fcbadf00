/-! LIBRARY CALLS -/
theorem mp_1000 {o x kd n r r4 : Nat} (h : MPr [o, x, kd, 1000, n, r, r4]) : kd = 1 ∧ n = 1 ∧ r = 1 ∧ r4 = 30 ∧ ∃ own : String, ownL[o]? = some own ∧ Jvm.Cond.methodLink own x ⟨"java/lang/String", "length", "()I"⟩ ∈ gtb := by
  unfold MPr at h
  split at h
  all_goals (rename_i e; simp only [List.cons.injEq, and_true] at e)
  all_goals (try omega)
  all_goals (try exact h.elim)
  all_goals (first
    | (obtain ⟨e1, e2, e3, e4, e5, e6, e7⟩ := e; subst e1; subst e2; exact ⟨by omega, by omega, by omega, by omega, h⟩)
    | (exfalso; obtain ⟨own, q, h1, h2, h3, h4, h5, h6, h7⟩ := h; omega)
    | (exfalso; obtain ⟨own, q, c, h1, h2, h3, h4, h5, h6, h7, h8, h9⟩ := h; omega)
    | (exfalso; obtain ⟨own, q, h1, h2, h3, h4, h5, h6, h7, h8⟩ := h; omega))
theorem mp_1001 {o x kd n r r4 : Nat} (h : MPr [o, x, kd, 1001, n, r, r4]) : kd = 1 ∧ n = 2 ∧ r = 1 ∧ r4 = 30 ∧ ∃ own : String, ownL[o]? = some own ∧ Jvm.Cond.methodLink own x ⟨"java/lang/String", "charAt", "(I)C"⟩ ∈ gtb := by
  unfold MPr at h
  split at h
  all_goals (rename_i e; simp only [List.cons.injEq, and_true] at e)
  all_goals (try omega)
  all_goals (try exact h.elim)
  all_goals (first
    | (obtain ⟨e1, e2, e3, e4, e5, e6, e7⟩ := e; subst e1; subst e2; exact ⟨by omega, by omega, by omega, by omega, h⟩)
    | (exfalso; obtain ⟨own, q, h1, h2, h3, h4, h5, h6, h7⟩ := h; omega)
    | (exfalso; obtain ⟨own, q, c, h1, h2, h3, h4, h5, h6, h7, h8, h9⟩ := h; omega)
    | (exfalso; obtain ⟨own, q, h1, h2, h3, h4, h5, h6, h7, h8⟩ := h; omega))
theorem mp_1002 {o x kd n r r4 : Nat} (h : MPr [o, x, kd, 1002, n, r, r4]) : kd = 0 ∧ n = 5 ∧ r = 0 ∧ r4 = 0 ∧ ∃ own : String, ownL[o]? = some own ∧ Jvm.Cond.methodLink own x arraycopyName ∈ gtb ∧ Jvm.Cond.native arraycopyName ∈ gtb ∧ Jvm.Cond.static arraycopyName ∈ gtb ∧ Jvm.Cond.initialized "java/lang/System" ∈ gtb := by
  unfold MPr at h
  split at h
  all_goals (rename_i e; simp only [List.cons.injEq, and_true] at e)
  all_goals (try omega)
  all_goals (try exact h.elim)
  all_goals (first
    | (obtain ⟨e1, e2, e3, e4, e5, e6, e7⟩ := e; subst e1; subst e2; exact ⟨by omega, by omega, by omega, by omega, h⟩)
    | (exfalso; obtain ⟨own, q, h1, h2, h3, h4, h5, h6, h7⟩ := h; omega)
    | (exfalso; obtain ⟨own, q, c, h1, h2, h3, h4, h5, h6, h7, h8, h9⟩ := h; omega)
    | (exfalso; obtain ⟨own, q, h1, h2, h3, h4, h5, h6, h7, h8⟩ := h; omega))
theorem mp_1003 {o x kd n r r4 : Nat} (h : MPr [o, x, kd, 1003, n, r, r4]) : kd = 2 ∧ n = 1 ∧ r = 0 ∧ r4 = 0 ∧ ∃ own : String, ownL[o]? = some own ∧ Jvm.Cond.methodLink own x Lib.objectInit ∈ gtb ∧ Jvm.Cond.instanceMethod Lib.objectInit ∈ gtb ∧ Jvm.Cond.code Lib.objectInit ⟨#[0xb1]⟩ 1 none ∈ gtb := by
  unfold MPr at h
  split at h
  all_goals (rename_i e; simp only [List.cons.injEq, and_true] at e)
  all_goals (try omega)
  all_goals (try exact h.elim)
  all_goals (first
    | (obtain ⟨e1, e2, e3, e4, e5, e6, e7⟩ := e; subst e1; subst e2; exact ⟨by omega, by omega, by omega, by omega, h⟩)
    | (exfalso; obtain ⟨own, q, h1, h2, h3, h4, h5, h6, h7⟩ := h; omega)
    | (exfalso; obtain ⟨own, q, c, h1, h2, h3, h4, h5, h6, h7, h8, h9⟩ := h; omega)
    | (exfalso; obtain ⟨own, q, h1, h2, h3, h4, h5, h6, h7, h8⟩ := h; omega))
theorem mp_1004 {o x kd n r r4 : Nat} (h : MPr [o, x, kd, 1004, n, r, r4]) : kd = 0 ∧ n = 2 ∧ r = 1 ∧ r4 = 0 ∧ ∃ own : String, ownL[o]? = some own ∧ Jvm.Cond.methodLink own x Lib.Math.max.name ∈ gtb ∧ MathW Lib.Math.max.name Lib.Math.max.code 2 .int := by
  unfold MPr at h
  split at h
  all_goals (rename_i e; simp only [List.cons.injEq, and_true] at e)
  all_goals (try omega)
  all_goals (try exact h.elim)
  all_goals (first
    | (obtain ⟨e1, e2, e3, e4, e5, e6, e7⟩ := e; subst e1; subst e2; exact ⟨by omega, by omega, by omega, by omega, h⟩)
    | (exfalso; obtain ⟨own, q, h1, h2, h3, h4, h5, h6, h7⟩ := h; omega)
    | (exfalso; obtain ⟨own, q, c, h1, h2, h3, h4, h5, h6, h7, h8, h9⟩ := h; omega)
    | (exfalso; obtain ⟨own, q, h1, h2, h3, h4, h5, h6, h7, h8⟩ := h; omega))
theorem mp_1005 {o x kd n r r4 : Nat} (h : MPr [o, x, kd, 1005, n, r, r4]) : kd = 0 ∧ n = 2 ∧ r = 1 ∧ r4 = 0 ∧ ∃ own : String, ownL[o]? = some own ∧ Jvm.Cond.methodLink own x Lib.Math.min.name ∈ gtb ∧ MathW Lib.Math.min.name Lib.Math.min.code 2 .int := by
  unfold MPr at h
  split at h
  all_goals (rename_i e; simp only [List.cons.injEq, and_true] at e)
  all_goals (try omega)
  all_goals (try exact h.elim)
  all_goals (first
    | (obtain ⟨e1, e2, e3, e4, e5, e6, e7⟩ := e; subst e1; subst e2; exact ⟨by omega, by omega, by omega, by omega, h⟩)
    | (exfalso; obtain ⟨own, q, h1, h2, h3, h4, h5, h6, h7⟩ := h; omega)
    | (exfalso; obtain ⟨own, q, c, h1, h2, h3, h4, h5, h6, h7, h8, h9⟩ := h; omega)
    | (exfalso; obtain ⟨own, q, h1, h2, h3, h4, h5, h6, h7, h8⟩ := h; omega))
theorem mp_1006 {o x kd n r r4 : Nat} (h : MPr [o, x, kd, 1006, n, r, r4]) : kd = 0 ∧ n = 1 ∧ r = 1 ∧ r4 = 0 ∧ ∃ own : String, ownL[o]? = some own ∧ Jvm.Cond.methodLink own x Lib.Math.abs.name ∈ gtb ∧ MathW Lib.Math.abs.name Lib.Math.abs.code 1 .int := by
  unfold MPr at h
  split at h
  all_goals (rename_i e; simp only [List.cons.injEq, and_true] at e)
  all_goals (try omega)
  all_goals (try exact h.elim)
  all_goals (first
    | (obtain ⟨e1, e2, e3, e4, e5, e6, e7⟩ := e; subst e1; subst e2; exact ⟨by omega, by omega, by omega, by omega, h⟩)
    | (exfalso; obtain ⟨own, q, h1, h2, h3, h4, h5, h6, h7⟩ := h; omega)
    | (exfalso; obtain ⟨own, q, c, h1, h2, h3, h4, h5, h6, h7, h8, h9⟩ := h; omega)
    | (exfalso; obtain ⟨own, q, h1, h2, h3, h4, h5, h6, h7, h8⟩ := h; omega))
theorem mp_1007 {o x kd n r r4 : Nat} (h : MPr [o, x, kd, 1007, n, r, r4]) : kd = 0 ∧ n = 2 ∧ r = 3 ∧ r4 = 0 ∧ ∃ own : String, ownL[o]? = some own ∧ Jvm.Cond.methodLink own x Lib.MathLoose.min_long.x ∈ gtb ∧ MathW Lib.MathLoose.min_long.x Lib.MathLoose.min_long.code 4 .long := by
  unfold MPr at h
  split at h
  all_goals (rename_i e; simp only [List.cons.injEq, and_true] at e)
  all_goals (try omega)
  all_goals (try exact h.elim)
  all_goals (first
    | (obtain ⟨e1, e2, e3, e4, e5, e6, e7⟩ := e; subst e1; subst e2; exact ⟨by omega, by omega, by omega, by omega, h⟩)
    | (exfalso; obtain ⟨own, q, h1, h2, h3, h4, h5, h6, h7⟩ := h; omega)
    | (exfalso; obtain ⟨own, q, c, h1, h2, h3, h4, h5, h6, h7, h8, h9⟩ := h; omega)
    | (exfalso; obtain ⟨own, q, h1, h2, h3, h4, h5, h6, h7, h8⟩ := h; omega))
