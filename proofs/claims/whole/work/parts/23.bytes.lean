/-! rows of bytes (the class's Bytes): appended lists -/
def b8 (v : Int32) : Int32 := v.toInt8.toInt32
/-- f, with L from n on -/
def apw (f : Nat → Int32) (n : Nat) (L : List Int32) : Nat → Int32 := fun i => if n ≤ i ∧ i < n + L.length then L.getD (i - n) 0 else f i
/-- L behind the n bytes of the row at a -/
def app (σ : am_M) (a n : Nat) (L : List Int32) : am_M := wf (wa σ (a + 1) (apw (σ.2.1 (a + 1)) n L)) a 1 (nI (n + L.length))
theorem mm_ext {σ τ : am_M} (h1 : ∀ a k, σ.1 a k = τ.1 a k) (h2 : ∀ a i, σ.2.1 a i = τ.2.1 a i) (h3 : ∀ j, σ.2.2 j = τ.2.2 j) : σ = τ := by
  obtain ⟨s1, s2, s3⟩ := σ
  obtain ⟨t1, t2, t3⟩ := τ
  have e1 : s1 = t1 := funext fun a => funext fun k => h1 a k
  have e2 : s2 = t2 := funext fun a => funext fun k => h2 a k
  have e3 : s3 = t3 := funext h3
  rw [e1, e2, e3]
theorem apw_1 {f : Nat → Int32} {n : Nat} {v : Int32} : upd f n v = apw f n [v] := by
  funext i
  unfold upd apw
  by_cases h : i = n
  · subst h
    simp
  · rw [if_neg h, if_neg (by simp; omega)]
theorem apw_nil {f : Nat → Int32} {n : Nat} : apw f n [] = f := by
  funext i
  unfold apw
  rw [if_neg (by simp; omega)]
theorem apw_app {f : Nat → Int32} {n : Nat} {L1 L2 : List Int32} : apw (apw f n L1) (n + L1.length) L2 = apw f n (L1 ++ L2) := by
  funext i
  unfold apw
  rw [List.length_append]
  by_cases h1 : n + L1.length ≤ i ∧ i < n + L1.length + L2.length
  · rw [if_pos h1, if_pos (by omega), List.getD_eq_getElem?_getD, List.getD_eq_getElem?_getD, List.getElem?_append_right (by omega), show i - n - L1.length = i - (n + L1.length) by omega]
  · rw [if_neg h1]
    by_cases h2 : n ≤ i ∧ i < n + L1.length
    · rw [if_pos h2, if_pos (by omega), List.getD_eq_getElem?_getD, List.getD_eq_getElem?_getD, List.getElem?_append_left (by omega)]
    · rw [if_neg h2, if_neg (by omega)]
theorem app_len {σ : am_M} {a n : Nat} {L : List Int32} : (app σ a n L).1 a 1 = nI (n + L.length) := by simp [app, wf]
theorem app_fi {σ : am_M} {a n b k : Nat} {L : List Int32} (h : ¬ (b = a ∧ k = 1)) : (app σ a n L).1 b k = σ.1 b k := by simp [app, wf, wa, h]
theorem app_row {σ : am_M} {a n : Nat} {L : List Int32} : (app σ a n L).2.1 (a + 1) = apw (σ.2.1 (a + 1)) n L := by simp [app, wf, wa]
theorem app_mem {σ : am_M} {a n b : Nat} {L : List Int32} (h : b ≠ a + 1) : (app σ a n L).2.1 b = σ.2.1 b := by simp [app, wf, wa, h]
theorem app_rf {σ : am_M} {a n : Nat} {L : List Int32} : (app σ a n L).2.2 = σ.2.2 := rfl
theorem app_app {σ : am_M} {a n : Nat} {L1 L2 : List Int32} : app (app σ a n L1) a (n + L1.length) L2 = app σ a n (L1 ++ L2) := by
  refine mm_ext (fun b k => ?_) (fun b i => ?_) (fun j => rfl)
  · by_cases h : b = a ∧ k = 1
    · obtain ⟨rfl, rfl⟩ := h
      rw [app_len, app_len, List.length_append, Nat.add_assoc]
    · rw [app_fi h, app_fi h, app_fi h]
  · by_cases h : b = a + 1
    · subst h
      rw [app_row, app_row, app_row, apw_app]
    · rw [app_mem h, app_mem h, app_mem h]
theorem app_nil {σ : am_M} {a n : Nat} (h : σ.1 a 1 = nI n) : app σ a n [] = σ := by
  refine mm_ext (fun b k => ?_) (fun b i => ?_) (fun j => rfl)
  · by_cases h1 : b = a ∧ k = 1
    · obtain ⟨rfl, rfl⟩ := h1
      rw [app_len, h]
      rfl
    · rw [app_fi h1]
  · by_cases h1 : b = a + 1
    · subst h1
      rw [app_row, apw_nil]
    · rw [app_mem h1]
theorem vp_b8 (v : Int32) : vp_nar .byte v.toInt8.toInt32 = b8 v := pk_vb v
section BY
variable {X : am_X} {σ : am_M} {a n : Nat} {Q : Option Value → am_H → Prop}
set_option maxRecDepth 100000 in
set_option maxHeartbeats 4000000 in
theorem sp_Bytes_add {v : Int32} (hB : is_B a) (hn : σ.1 a 1 = nI n) (hlt : n < ly_n (a + 1)) (hc : ly_n (a + 1) < 2 ^ 31) : am_Go X 14 0 [some (.ref a), some (.int v)] [] (hh σ) Q = Q none (hh (app σ a n [b8 v])) := by
  obtain ⟨h1, h2, h3, h4, h5, h6⟩ := hB
  rw [go_to []]; simp only [gs_u, fns_if, fns_nx, fns_no, fns_rt, fns_cl, am_fs, am_cd, am_NM, am_sz, am_code, am_step, am_ldc, am_bin, am_div, am_un, am_iload, am_aload, am_istore, am_astore, am_iinc, am_j1, am_j2, am_jr, am_dup, am_dup2, am_pop, am_ret, am_rt, am_rc, am_ml, am_slen, am_schr, am_m1, am_m2, ty_getf, ty_pi, ty_p0, ty_p1, ty_alen, ty_iald, ty_bald, ty_cald, ty_iast, ty_bast, ty_cast, ty_aald, ty_tald, ty_copy, ty_call, List.mem_cons, List.not_mem_nil, or_false, false_or, or_true, true_or, and_true, true_and, and_self, Nat.reduceLT, Nat.reduceLeDiff, Nat.reduceEqDiff, Nat.reduceAdd, Nat.reduceSub, ↓reduceIte, reduceCtorEq, List.getElem?_cons_zero, List.getElem?_cons_succ, List.set_cons_zero, List.set_cons_succ, List.length_cons, List.length_nil, List.take_succ_cons, List.take_zero, List.drop_succ_cons, List.drop_zero, List.reverse_cons, List.reverse_nil, List.nil_append, List.cons_append, am_entry, List.map_cons, List.map_nil, List.replicate_zero, List.replicate_succ, List.append_nil, decide_eq_true_eq, eq_self, am_ty, am_nf, wf_1, wf_2, wa_1, wa_2, wa_3, wr_1, wr_2, wr_3, ac_14, aty1, h1, h2, h3, h4, h5, h6, ly_vi h4, ly_vi h5, ly_vi h6, hn, vp_b8]
  rw [if_neg (nI_pos (by omega)), if_neg (nI_ge hlt hc), nI_clamp (by omega), if_neg (by rintro (h | h); exact nI_pos (by omega) h; omega), nI_1, apw_1]
  rfl
set_option maxRecDepth 100000 in
theorem sp_Bytes_empty (hB : is_B a) : am_Go X 9 0 [some (.ref a)] [] (hh σ) Q = Q none (hh (wf (wf (wf σ a 1 0) a 2 0) a 3 0)) := by
  obtain ⟨h1, h2, h3, h4, h5, h6⟩ := hB
  rw [go_to []]; simp only [gs_u, fns_if, fns_nx, fns_no, fns_rt, fns_cl, am_fs, am_cd, am_NM, am_sz, am_code, am_step, am_ldc, am_bin, am_div, am_un, am_iload, am_aload, am_istore, am_astore, am_iinc, am_j1, am_j2, am_jr, am_dup, am_dup2, am_pop, am_ret, am_rt, am_rc, am_ml, am_slen, am_schr, am_m1, am_m2, ty_getf, ty_pi, ty_p0, ty_p1, ty_alen, ty_iald, ty_bald, ty_cald, ty_iast, ty_bast, ty_cast, ty_aald, ty_tald, ty_copy, ty_call, List.mem_cons, List.not_mem_nil, or_false, false_or, or_true, true_or, and_true, true_and, and_self, Nat.reduceLT, Nat.reduceLeDiff, Nat.reduceEqDiff, Nat.reduceAdd, Nat.reduceSub, ↓reduceIte, reduceCtorEq, List.getElem?_cons_zero, List.getElem?_cons_succ, List.set_cons_zero, List.set_cons_succ, List.length_cons, List.length_nil, List.take_succ_cons, List.take_zero, List.drop_succ_cons, List.drop_zero, List.reverse_cons, List.reverse_nil, List.nil_append, List.cons_append, am_entry, List.map_cons, List.map_nil, List.replicate_zero, List.replicate_succ, List.append_nil, decide_eq_true_eq, eq_self, am_ty, am_nf, wf_1, wf_2, wa_1, wa_2, wa_3, wr_1, wr_2, wr_3, ac_9, aty1, h1, h2, h3, h4, h5, h6, ly_vi h4, ly_vi h5, ly_vi h6]
/-- what at(i) answers -/
def atv (σ : am_M) (a n : Nat) (i : Int32) : Int32 := if i < 0 ∨ nI n ≤ i then -1 else σ.2.1 (a + 1) i.toNatClampNeg &&& 255
set_option maxRecDepth 100000 in
set_option maxHeartbeats 4000000 in
theorem sp_Bytes_at {i : Int32} (hB : is_B a) (hn : σ.1 a 1 = nI n) (hle : n ≤ ly_n (a + 1)) (hc : ly_n (a + 1) < 2 ^ 31) : am_Go X 10 0 [some (.ref a), some (.int i)] [] (hh σ) Q = Q (some (.int (atv σ a n i))) (hh σ) := by
  obtain ⟨h1, h2, h3, h4, h5, h6⟩ := hB
  rw [go_to []]; simp only [gs_u, fns_if, fns_nx, fns_no, fns_rt, fns_cl, am_fs, am_cd, am_NM, am_sz, am_code, am_step, am_ldc, am_bin, am_div, am_un, am_iload, am_aload, am_istore, am_astore, am_iinc, am_j1, am_j2, am_jr, am_dup, am_dup2, am_pop, am_ret, am_rt, am_rc, am_ml, am_slen, am_schr, am_m1, am_m2, ty_getf, ty_pi, ty_p0, ty_p1, ty_alen, ty_iald, ty_bald, ty_cald, ty_iast, ty_bast, ty_cast, ty_aald, ty_tald, ty_copy, ty_call, List.mem_cons, List.not_mem_nil, or_false, false_or, or_true, true_or, and_true, true_and, and_self, Nat.reduceLT, Nat.reduceLeDiff, Nat.reduceEqDiff, Nat.reduceAdd, Nat.reduceSub, ↓reduceIte, reduceCtorEq, List.getElem?_cons_zero, List.getElem?_cons_succ, List.set_cons_zero, List.set_cons_succ, List.length_cons, List.length_nil, List.take_succ_cons, List.take_zero, List.drop_succ_cons, List.drop_zero, List.reverse_cons, List.reverse_nil, List.nil_append, List.cons_append, am_entry, List.map_cons, List.map_nil, List.replicate_zero, List.replicate_succ, List.append_nil, decide_eq_true_eq, eq_self, am_ty, am_nf, wf_1, wf_2, wa_1, wa_2, wa_3, wr_1, wr_2, wr_3, ac_10, h1, h2, h3, h4, h5, h6, ly_vi h4, ly_vi h5, ly_vi h6, hn]
  unfold atv
  by_cases h0 : i < 0
  · rw [if_pos h0, if_pos (Or.inl h0)]
  rw [if_neg h0]
  obtain ⟨j, hj, rfl⟩ := nI_of h0
  by_cases h7 : nI n ≤ nI j
  · rw [if_pos h7, if_pos (Or.inr h7)]
  rw [if_neg h7]
  have h8 : j < n := Nat.not_le.mp fun q => h7 (nI_le q hj)
  rw [if_neg (nI_ge (by omega) hc), if_neg (by rintro (h | h); exact h0 h; rw [nI_clamp hj] at h; omega), if_neg (by rintro (h | h); exact h0 h; exact h7 h)]
set_option maxRecDepth 100000 in
set_option maxHeartbeats 4000000 in
theorem sp_Bytes_hasSlice {i j : Int32} (hB : is_B a) : am_Go X 13 0 [some (.ref a), some (.int i), some (.int j)] [] (hh σ) Q = Q (some (.int (if ¬ i < 0 ∧ i ≤ j ∧ j ≤ σ.1 a 1 then 1 else 0))) (hh σ) := by
  obtain ⟨h1, h2, h3, h4, h5, h6⟩ := hB
  rw [go_to []]; simp only [gs_u, fns_if, fns_nx, fns_no, fns_rt, fns_cl, am_fs, am_cd, am_NM, am_sz, am_code, am_step, am_ldc, am_bin, am_div, am_un, am_iload, am_aload, am_istore, am_astore, am_iinc, am_j1, am_j2, am_jr, am_dup, am_dup2, am_pop, am_ret, am_rt, am_rc, am_ml, am_slen, am_schr, am_m1, am_m2, ty_getf, ty_pi, ty_p0, ty_p1, ty_alen, ty_iald, ty_bald, ty_cald, ty_iast, ty_bast, ty_cast, ty_aald, ty_tald, ty_copy, ty_call, List.mem_cons, List.not_mem_nil, or_false, false_or, or_true, true_or, and_true, true_and, and_self, Nat.reduceLT, Nat.reduceLeDiff, Nat.reduceEqDiff, Nat.reduceAdd, Nat.reduceSub, ↓reduceIte, reduceCtorEq, List.getElem?_cons_zero, List.getElem?_cons_succ, List.set_cons_zero, List.set_cons_succ, List.length_cons, List.length_nil, List.take_succ_cons, List.take_zero, List.drop_succ_cons, List.drop_zero, List.reverse_cons, List.reverse_nil, List.nil_append, List.cons_append, am_entry, List.map_cons, List.map_nil, List.replicate_zero, List.replicate_succ, List.append_nil, decide_eq_true_eq, eq_self, am_ty, am_nf, wf_1, wf_2, wa_1, wa_2, wa_3, wr_1, wr_2, wr_3, ac_13, h1, h2, h3, h4, h5, h6, ly_vi h4, ly_vi h5, ly_vi h6]
  trace_state
  sorry
end BY
