/-! rows of bytes (the class's Bytes): appended lists -/
def b8 (v : Int32) : Int32 := v.toInt8.toInt32
/-- f, with L from n on -/
def apw (f : Nat → Int32) (n : Nat) (L : List Int32) : Nat → Int32 := fun i => if n ≤ i ∧ i < n + L.length then L.getD (i - n) 0 else f i
/-- L behind the n bytes of the row at a -/
def app (σ : am_M) (a n : Nat) (L : List Int32) : am_M := wf (wa σ (a + 1) (apw (σ.2.1 (a + 1)) n L)) a 1 (nI (n + L.length))
theorem mm_ext {σ τ : am_M} (h1 : ∀ a k, σ.1 a k = τ.1 a k) (h2 : ∀ a i, σ.2.1 a i = τ.2.1 a i) (h3 : ∀ j, σ.2.2 j = τ.2.2 j) : σ = τ := by
  obtain ⟨s1, s2, s3⟩ := σ
  obtain ⟨t1, t2, t3⟩ := τ
  have e1 : s1 = t1 := funext fun a => funext fun k => h1 a k
  have e2 : s2 = t2 := funext fun a => funext fun k => h2 a k
  have e3 : s3 = t3 := funext h3
  rw [e1, e2, e3]
theorem apw_1 {f : Nat → Int32} {n : Nat} {v : Int32} : upd f n v = apw f n [v] := by
  funext i
  unfold upd apw
  by_cases h : i = n
  · subst h
    simp
  · rw [if_neg h, if_neg (by simp; omega)]
theorem apw_nil {f : Nat → Int32} {n : Nat} : apw f n [] = f := by
  funext i
  unfold apw
  rw [if_neg (fun h => by have h2 : i < n + 0 := h.2; omega)]
theorem apw_app {f : Nat → Int32} {n : Nat} {L1 L2 : List Int32} : apw (apw f n L1) (n + L1.length) L2 = apw f n (L1 ++ L2) := by
  funext i
  unfold apw
  rw [List.length_append]
  by_cases h1 : n + L1.length ≤ i ∧ i < n + L1.length + L2.length
  · rw [if_pos h1, if_pos (by omega), List.getD_eq_getElem?_getD, List.getD_eq_getElem?_getD, List.getElem?_append_right (by omega), show i - n - L1.length = i - (n + L1.length) by omega]
  · rw [if_neg h1]
    by_cases h2 : n ≤ i ∧ i < n + L1.length
    · rw [if_pos h2, if_pos (by omega), List.getD_eq_getElem?_getD, List.getD_eq_getElem?_getD, List.getElem?_append_left (by omega)]
    · rw [if_neg h2, if_neg (by omega)]
theorem app_len {σ : am_M} {a n : Nat} {L : List Int32} : (app σ a n L).1 a 1 = nI (n + L.length) := by simp [app, wf]
theorem app_fi {σ : am_M} {a n b k : Nat} {L : List Int32} (h : ¬ (b = a ∧ k = 1)) : (app σ a n L).1 b k = σ.1 b k := by simp [app, wf, wa, h]
theorem app_row {σ : am_M} {a n : Nat} {L : List Int32} : (app σ a n L).2.1 (a + 1) = apw (σ.2.1 (a + 1)) n L := by simp [app, wf, wa]
theorem app_mem {σ : am_M} {a n b : Nat} {L : List Int32} (h : b ≠ a + 1) : (app σ a n L).2.1 b = σ.2.1 b := by simp [app, wf, wa, h]
theorem app_rf {σ : am_M} {a n : Nat} {L : List Int32} : (app σ a n L).2.2 = σ.2.2 := rfl
theorem app_app {σ : am_M} {a n : Nat} {L1 L2 : List Int32} : app (app σ a n L1) a (n + L1.length) L2 = app σ a n (L1 ++ L2) := by
  refine mm_ext (fun b k => ?_) (fun b i => ?_) (fun j => rfl)
  · by_cases h : b = a ∧ k = 1
    · obtain ⟨rfl, rfl⟩ := h
      rw [app_len, app_len, List.length_append, Nat.add_assoc]
    · rw [app_fi h, app_fi h, app_fi h]
  · by_cases h : b = a + 1
    · subst h
      rw [app_row, app_row, app_row, apw_app]
    · rw [app_mem h, app_mem h, app_mem h]
theorem app_nil {σ : am_M} {a n : Nat} (h : σ.1 a 1 = nI n) : app σ a n [] = σ := by
  refine mm_ext (fun b k => ?_) (fun b i => ?_) (fun j => rfl)
  · by_cases h1 : b = a ∧ k = 1
    · obtain ⟨rfl, rfl⟩ := h1
      rw [app_len, h]
      rfl
    · rw [app_fi h1]
  · by_cases h1 : b = a + 1
    · subst h1
      rw [app_row, apw_nil]
    · rw [app_mem h1]
theorem vp_b8 (v : Int32) : vp_nar .byte v.toInt8.toInt32 = b8 v := pk_vb v
section BY
variable {X : am_X} {σ : am_M} {a n : Nat} {Q : Option Value → am_H → Prop}
set_option maxRecDepth 100000 in
set_option maxHeartbeats 4000000 in
theorem sp_Bytes_add {v : Int32} (hB : is_B a) (hn : σ.1 a 1 = nI n) (hlt : n < ly_n (a + 1)) (hc : ly_n (a + 1) < 2 ^ 31) : am_Go X 14 0 [some (.ref a), some (.int v)] [] (hh σ) Q = Q none (hh (app σ a n [b8 v])) := by
  obtain ⟨h1, h2, h3, h4, h5, h6⟩ := hB
  rw [go_to []]; simp only [gs_u, fns_if, fns_nx, fns_no, fns_rt, fns_cl, am_fs, am_cd, am_NM, am_sz, am_code, am_step, am_ldc, am_bin, am_div, am_un, am_iload, am_aload, am_istore, am_astore, am_iinc, am_j1, am_j2, am_jr, am_dup, am_dup2, am_pop, am_ret, am_rt, am_rc, am_ml, am_slen, am_schr, am_m1, am_m2, ty_getf, ty_pi, ty_p0, ty_p1, ty_alen, ty_iald, ty_bald, ty_cald, ty_iast, ty_bast, ty_cast, ty_aald, ty_tald, ty_copy, ty_c1, ty_c2, ty_c3, ty_c4, ty_c5, ty_c6, ty_c7, ty_c8, ty_c9, ty_c10, ty_s0, ty_s1, ty_s2, ty_s3, ty_s4, ty_s5, ty_s6, List.mem_cons, List.not_mem_nil, or_false, false_or, or_true, true_or, and_true, true_and, and_self, Nat.reduceLT, Nat.reduceLeDiff, Nat.reduceEqDiff, Nat.reduceAdd, Nat.reduceSub, ↓reduceIte, reduceCtorEq, List.getElem?_cons_zero, List.getElem?_cons_succ, List.set_cons_zero, List.set_cons_succ, List.length_cons, List.length_nil, List.take_succ_cons, List.take_zero, List.drop_succ_cons, List.drop_zero, List.reverse_cons, List.reverse_nil, List.nil_append, List.cons_append, am_entry, List.map_cons, List.map_nil, List.replicate_zero, List.replicate_succ, List.append_nil, decide_eq_true_eq, eq_self, am_ty, am_nf, wf_1, wf_2, wa_1, wa_2, wa_3, wr_1, wr_2, wr_3, ac_14, aty1, h1, h2, h3, h4, h5, h6, ly_vi h4, ly_vi h5, ly_vi h6, hn, vp_b8]
  rw [if_neg (nI_pos (by omega)), if_neg (nI_ge hlt hc), nI_clamp (by omega), if_neg (by rintro (h | h); exact nI_pos (by omega) h; omega), nI_1, apw_1]
  rfl
set_option maxRecDepth 100000 in
theorem sp_Bytes_empty (hB : is_B a) : am_Go X 9 0 [some (.ref a)] [] (hh σ) Q = Q none (hh (wf (wf (wf σ a 1 0) a 2 0) a 3 0)) := by
  obtain ⟨h1, h2, h3, h4, h5, h6⟩ := hB
  rw [go_to []]; simp only [gs_u, fns_if, fns_nx, fns_no, fns_rt, fns_cl, am_fs, am_cd, am_NM, am_sz, am_code, am_step, am_ldc, am_bin, am_div, am_un, am_iload, am_aload, am_istore, am_astore, am_iinc, am_j1, am_j2, am_jr, am_dup, am_dup2, am_pop, am_ret, am_rt, am_rc, am_ml, am_slen, am_schr, am_m1, am_m2, ty_getf, ty_pi, ty_p0, ty_p1, ty_alen, ty_iald, ty_bald, ty_cald, ty_iast, ty_bast, ty_cast, ty_aald, ty_tald, ty_copy, ty_c1, ty_c2, ty_c3, ty_c4, ty_c5, ty_c6, ty_c7, ty_c8, ty_c9, ty_c10, ty_s0, ty_s1, ty_s2, ty_s3, ty_s4, ty_s5, ty_s6, List.mem_cons, List.not_mem_nil, or_false, false_or, or_true, true_or, and_true, true_and, and_self, Nat.reduceLT, Nat.reduceLeDiff, Nat.reduceEqDiff, Nat.reduceAdd, Nat.reduceSub, ↓reduceIte, reduceCtorEq, List.getElem?_cons_zero, List.getElem?_cons_succ, List.set_cons_zero, List.set_cons_succ, List.length_cons, List.length_nil, List.take_succ_cons, List.take_zero, List.drop_succ_cons, List.drop_zero, List.reverse_cons, List.reverse_nil, List.nil_append, List.cons_append, am_entry, List.map_cons, List.map_nil, List.replicate_zero, List.replicate_succ, List.append_nil, decide_eq_true_eq, eq_self, am_ty, am_nf, wf_1, wf_2, wa_1, wa_2, wa_3, wr_1, wr_2, wr_3, ac_9, aty1, h1, h2, h3, h4, h5, h6, ly_vi h4, ly_vi h5, ly_vi h6]
/-- what at(i) answers -/
def atv (σ : am_M) (a n : Nat) (i : Int32) : Int32 := if i < 0 ∨ nI n ≤ i then -1 else σ.2.1 (a + 1) i.toNatClampNeg &&& 255
set_option maxRecDepth 100000 in
set_option maxHeartbeats 4000000 in
theorem sp_Bytes_at {i : Int32} (hB : is_B a) (hn : σ.1 a 1 = nI n) (hle : n ≤ ly_n (a + 1)) (hc : ly_n (a + 1) < 2 ^ 31) : am_Go X 10 0 [some (.ref a), some (.int i)] [] (hh σ) Q = Q (some (.int (atv σ a n i))) (hh σ) := by
  obtain ⟨h1, h2, h3, h4, h5, h6⟩ := hB
  rw [go_to []]; simp only [gs_u, fns_if, fns_nx, fns_no, fns_rt, fns_cl, am_fs, am_cd, am_NM, am_sz, am_code, am_step, am_ldc, am_bin, am_div, am_un, am_iload, am_aload, am_istore, am_astore, am_iinc, am_j1, am_j2, am_jr, am_dup, am_dup2, am_pop, am_ret, am_rt, am_rc, am_ml, am_slen, am_schr, am_m1, am_m2, ty_getf, ty_pi, ty_p0, ty_p1, ty_alen, ty_iald, ty_bald, ty_cald, ty_iast, ty_bast, ty_cast, ty_aald, ty_tald, ty_copy, ty_c1, ty_c2, ty_c3, ty_c4, ty_c5, ty_c6, ty_c7, ty_c8, ty_c9, ty_c10, ty_s0, ty_s1, ty_s2, ty_s3, ty_s4, ty_s5, ty_s6, List.mem_cons, List.not_mem_nil, or_false, false_or, or_true, true_or, and_true, true_and, and_self, Nat.reduceLT, Nat.reduceLeDiff, Nat.reduceEqDiff, Nat.reduceAdd, Nat.reduceSub, ↓reduceIte, reduceCtorEq, List.getElem?_cons_zero, List.getElem?_cons_succ, List.set_cons_zero, List.set_cons_succ, List.length_cons, List.length_nil, List.take_succ_cons, List.take_zero, List.drop_succ_cons, List.drop_zero, List.reverse_cons, List.reverse_nil, List.nil_append, List.cons_append, am_entry, List.map_cons, List.map_nil, List.replicate_zero, List.replicate_succ, List.append_nil, decide_eq_true_eq, eq_self, am_ty, am_nf, wf_1, wf_2, wa_1, wa_2, wa_3, wr_1, wr_2, wr_3, ac_10, h1, h2, h3, h4, h5, h6, ly_vi h4, ly_vi h5, ly_vi h6, hn]
  unfold atv
  by_cases h0 : i < 0
  · rw [if_pos h0, if_pos (Or.inl h0)]
  rw [if_neg h0]
  obtain ⟨j, hj, rfl⟩ := nI_of h0
  by_cases h7 : nI n ≤ nI j
  · rw [if_pos h7, if_pos (Or.inr h7)]
  rw [if_neg h7]
  have h8 : j < n := Nat.not_le.mp fun q => h7 (nI_le q hj)
  rw [if_neg (nI_ge (by omega) hc), if_neg (by rintro (h | h); exact h0 h; rw [nI_clamp hj] at h; omega), if_neg (by rintro (h | h); exact h0 h; exact h7 h)]
set_option maxRecDepth 100000 in
set_option maxHeartbeats 4000000 in
theorem sp_Bytes_hasSlice {i j : Int32} (hB : is_B a) : am_Go X 13 0 [some (.ref a), some (.int i), some (.int j)] [] (hh σ) Q = Q (some (.int (if ¬ i < 0 ∧ i ≤ j ∧ j ≤ σ.1 a 1 then 1 else 0))) (hh σ) := by
  obtain ⟨h1, h2, h3, h4, h5, h6⟩ := hB
  rw [go_to []]; simp only [gs_u, fns_if, fns_nx, fns_no, fns_rt, fns_cl, am_fs, am_cd, am_NM, am_sz, am_code, am_step, am_ldc, am_bin, am_div, am_un, am_iload, am_aload, am_istore, am_astore, am_iinc, am_j1, am_j2, am_jr, am_dup, am_dup2, am_pop, am_ret, am_rt, am_rc, am_ml, am_slen, am_schr, am_m1, am_m2, ty_getf, ty_pi, ty_p0, ty_p1, ty_alen, ty_iald, ty_bald, ty_cald, ty_iast, ty_bast, ty_cast, ty_aald, ty_tald, ty_copy, ty_c1, ty_c2, ty_c3, ty_c4, ty_c5, ty_c6, ty_c7, ty_c8, ty_c9, ty_c10, ty_s0, ty_s1, ty_s2, ty_s3, ty_s4, ty_s5, ty_s6, List.mem_cons, List.not_mem_nil, or_false, false_or, or_true, true_or, and_true, true_and, and_self, Nat.reduceLT, Nat.reduceLeDiff, Nat.reduceEqDiff, Nat.reduceAdd, Nat.reduceSub, ↓reduceIte, reduceCtorEq, List.getElem?_cons_zero, List.getElem?_cons_succ, List.set_cons_zero, List.set_cons_succ, List.length_cons, List.length_nil, List.take_succ_cons, List.take_zero, List.drop_succ_cons, List.drop_zero, List.reverse_cons, List.reverse_nil, List.nil_append, List.cons_append, am_entry, List.map_cons, List.map_nil, List.replicate_zero, List.replicate_succ, List.append_nil, decide_eq_true_eq, eq_self, am_ty, am_nf, wf_1, wf_2, wa_1, wa_2, wa_3, wr_1, wr_2, wr_3, ac_13, h1, h2, h3, h4, h5, h6, ly_vi h4, ly_vi h5, ly_vi h6]
  by_cases h0 : i < 0
  · rw [if_pos h0, if_neg (fun h => h.1 h0)]
  rw [if_neg h0]
  by_cases h7 : j < i
  · rw [if_pos h7, if_neg (fun h => Int32.not_lt.mpr h.2.1 h7)]
  rw [if_neg h7]
  by_cases h8 : σ.1 a 1 < j
  · rw [if_pos h8, if_neg (fun h => Int32.not_lt.mpr h.2.2 h8)]
  rw [if_neg h8, if_pos ⟨h0, Int32.not_lt.mp h7, Int32.not_lt.mp h8⟩]
/-- what isOpen(i, j) answers -/
def opv (σ : am_M) (a n : Nat) (i j : Int32) : Int32 := if j ≤ i then 1 else if atv σ a n (j - 1) = 10 then 0 else 1
set_option maxRecDepth 100000 in
set_option maxHeartbeats 4000000 in
theorem sp_Bytes_isOpen {i j : Int32} (hB : is_B a) (hn : σ.1 a 1 = nI n) (hle : n ≤ ly_n (a + 1)) (hc : ly_n (a + 1) < 2 ^ 31) : am_Go X 11 0 [some (.ref a), some (.int i), some (.int j)] [] (hh σ) Q = Q (some (.int (opv σ a n i j))) (hh σ) := by
  have hB0 := hB
  obtain ⟨h1, h2, h3, h4, h5, h6⟩ := hB
  rw [go_to []]; simp only [gs_u, fns_if, fns_nx, fns_no, fns_rt, fns_cl, am_fs, am_cd, am_NM, am_sz, am_code, am_step, am_ldc, am_bin, am_div, am_un, am_iload, am_aload, am_istore, am_astore, am_iinc, am_j1, am_j2, am_jr, am_dup, am_dup2, am_pop, am_ret, am_rt, am_rc, am_ml, am_slen, am_schr, am_m1, am_m2, ty_getf, ty_pi, ty_p0, ty_p1, ty_alen, ty_iald, ty_bald, ty_cald, ty_iast, ty_bast, ty_cast, ty_aald, ty_tald, ty_copy, ty_c1, ty_c2, ty_c3, ty_c4, ty_c5, ty_c6, ty_c7, ty_c8, ty_c9, ty_c10, ty_s0, ty_s1, ty_s2, ty_s3, ty_s4, ty_s5, ty_s6, List.mem_cons, List.not_mem_nil, or_false, false_or, or_true, true_or, and_true, true_and, and_self, Nat.reduceLT, Nat.reduceLeDiff, Nat.reduceEqDiff, Nat.reduceAdd, Nat.reduceSub, ↓reduceIte, reduceCtorEq, List.getElem?_cons_zero, List.getElem?_cons_succ, List.set_cons_zero, List.set_cons_succ, List.length_cons, List.length_nil, List.take_succ_cons, List.take_zero, List.drop_succ_cons, List.drop_zero, List.reverse_cons, List.reverse_nil, List.nil_append, List.cons_append, am_entry, List.map_cons, List.map_nil, List.replicate_zero, List.replicate_succ, List.append_nil, decide_eq_true_eq, eq_self, am_ty, am_nf, wf_1, wf_2, wa_1, wa_2, wa_3, wr_1, wr_2, wr_3, ac_11, h1, h2, h3, h4, h5, h6, ly_vi h4, ly_vi h5, ly_vi h6]
  unfold opv
  by_cases h7 : j ≤ i
  · rw [if_pos h7, if_pos h7]
  rw [if_neg h7, if_neg h7, sp_Bytes_at hB0 hn hle hc]
  dsimp only [am_push]
  rw [go_to []]; simp only [gs_u, fns_if, fns_nx, fns_no, fns_rt, fns_cl, am_fs, am_cd, am_NM, am_sz, am_code, am_step, am_ldc, am_bin, am_div, am_un, am_iload, am_aload, am_istore, am_astore, am_iinc, am_j1, am_j2, am_jr, am_dup, am_dup2, am_pop, am_ret, am_rt, am_rc, am_ml, am_slen, am_schr, am_m1, am_m2, ty_getf, ty_pi, ty_p0, ty_p1, ty_alen, ty_iald, ty_bald, ty_cald, ty_iast, ty_bast, ty_cast, ty_aald, ty_tald, ty_copy, ty_c1, ty_c2, ty_c3, ty_c4, ty_c5, ty_c6, ty_c7, ty_c8, ty_c9, ty_c10, ty_s0, ty_s1, ty_s2, ty_s3, ty_s4, ty_s5, ty_s6, List.mem_cons, List.not_mem_nil, or_false, false_or, or_true, true_or, and_true, true_and, and_self, Nat.reduceLT, Nat.reduceLeDiff, Nat.reduceEqDiff, Nat.reduceAdd, Nat.reduceSub, ↓reduceIte, reduceCtorEq, List.getElem?_cons_zero, List.getElem?_cons_succ, List.set_cons_zero, List.set_cons_succ, List.length_cons, List.length_nil, List.take_succ_cons, List.take_zero, List.drop_succ_cons, List.drop_zero, List.reverse_cons, List.reverse_nil, List.nil_append, List.cons_append, am_entry, List.map_cons, List.map_nil, List.replicate_zero, List.replicate_succ, List.append_nil, decide_eq_true_eq, eq_self, am_ty, am_nf, wf_1, wf_2, wa_1, wa_2, wa_3, wr_1, wr_2, wr_3, ac_11, h1, h2, h3, h4, h5, h6, ly_vi h4, ly_vi h5, ly_vi h6]
  by_cases h8 : atv σ a n (j - 1) = 10
  · rw [if_pos h8, if_pos h8]
  · rw [if_neg h8, if_neg h8]
def us (v k : Int32) : Int32 := (v.toUInt32 >>> (Int32.toUInt32 k &&& Int32.toUInt32 31)).toInt32
def four (v : Int32) : List Int32 := [b8 (us v 24), b8 (us v 16), b8 (us v 8), b8 v]
set_option maxRecDepth 100000 in
set_option maxHeartbeats 4000000 in
theorem sp_Bytes_addFour {v : Int32} (hB : is_B a) (hn : σ.1 a 1 = nI n) (hlt : n + 4 ≤ ly_n (a + 1)) (hc : ly_n (a + 1) < 2 ^ 31) : am_Go X 15 0 [some (.ref a), some (.int v)] [] (hh σ) Q = Q none (hh (app σ a n (four v))) := by
  have hB0 := hB
  obtain ⟨h1, h2, h3, h4, h5, h6⟩ := hB
  rw [go_to []]; simp only [gs_u, fns_if, fns_nx, fns_no, fns_rt, fns_cl, am_fs, am_cd, am_NM, am_sz, am_code, am_step, am_ldc, am_bin, am_div, am_un, am_iload, am_aload, am_istore, am_astore, am_iinc, am_j1, am_j2, am_jr, am_dup, am_dup2, am_pop, am_ret, am_rt, am_rc, am_ml, am_slen, am_schr, am_m1, am_m2, ty_getf, ty_pi, ty_p0, ty_p1, ty_alen, ty_iald, ty_bald, ty_cald, ty_iast, ty_bast, ty_cast, ty_aald, ty_tald, ty_copy, ty_c1, ty_c2, ty_c3, ty_c4, ty_c5, ty_c6, ty_c7, ty_c8, ty_c9, ty_c10, ty_s0, ty_s1, ty_s2, ty_s3, ty_s4, ty_s5, ty_s6, List.mem_cons, List.not_mem_nil, or_false, false_or, or_true, true_or, and_true, true_and, and_self, Nat.reduceLT, Nat.reduceLeDiff, Nat.reduceEqDiff, Nat.reduceAdd, Nat.reduceSub, ↓reduceIte, reduceCtorEq, List.getElem?_cons_zero, List.getElem?_cons_succ, List.set_cons_zero, List.set_cons_succ, List.length_cons, List.length_nil, List.take_succ_cons, List.take_zero, List.drop_succ_cons, List.drop_zero, List.reverse_cons, List.reverse_nil, List.nil_append, List.cons_append, am_entry, List.map_cons, List.map_nil, List.replicate_zero, List.replicate_succ, List.append_nil, decide_eq_true_eq, eq_self, am_ty, am_nf, wf_1, wf_2, wa_1, wa_2, wa_3, wr_1, wr_2, wr_3, ac_15, h1]
  rw [sp_Bytes_add hB0 hn (by omega) hc]
  dsimp only [am_push]
  rw [go_to []]; simp only [gs_u, fns_if, fns_nx, fns_no, fns_rt, fns_cl, am_fs, am_cd, am_NM, am_sz, am_code, am_step, am_ldc, am_bin, am_div, am_un, am_iload, am_aload, am_istore, am_astore, am_iinc, am_j1, am_j2, am_jr, am_dup, am_dup2, am_pop, am_ret, am_rt, am_rc, am_ml, am_slen, am_schr, am_m1, am_m2, ty_getf, ty_pi, ty_p0, ty_p1, ty_alen, ty_iald, ty_bald, ty_cald, ty_iast, ty_bast, ty_cast, ty_aald, ty_tald, ty_copy, ty_c1, ty_c2, ty_c3, ty_c4, ty_c5, ty_c6, ty_c7, ty_c8, ty_c9, ty_c10, ty_s0, ty_s1, ty_s2, ty_s3, ty_s4, ty_s5, ty_s6, List.mem_cons, List.not_mem_nil, or_false, false_or, or_true, true_or, and_true, true_and, and_self, Nat.reduceLT, Nat.reduceLeDiff, Nat.reduceEqDiff, Nat.reduceAdd, Nat.reduceSub, ↓reduceIte, reduceCtorEq, List.getElem?_cons_zero, List.getElem?_cons_succ, List.set_cons_zero, List.set_cons_succ, List.length_cons, List.length_nil, List.take_succ_cons, List.take_zero, List.drop_succ_cons, List.drop_zero, List.reverse_cons, List.reverse_nil, List.nil_append, List.cons_append, am_entry, List.map_cons, List.map_nil, List.replicate_zero, List.replicate_succ, List.append_nil, decide_eq_true_eq, eq_self, am_ty, am_nf, wf_1, wf_2, wa_1, wa_2, wa_3, wr_1, wr_2, wr_3, ac_15, h1]
  rw [sp_Bytes_add hB0 app_len (by simp only [List.length_cons, List.length_nil]; omega) hc, app_app]
  dsimp only [am_push]
  rw [go_to []]; simp only [gs_u, fns_if, fns_nx, fns_no, fns_rt, fns_cl, am_fs, am_cd, am_NM, am_sz, am_code, am_step, am_ldc, am_bin, am_div, am_un, am_iload, am_aload, am_istore, am_astore, am_iinc, am_j1, am_j2, am_jr, am_dup, am_dup2, am_pop, am_ret, am_rt, am_rc, am_ml, am_slen, am_schr, am_m1, am_m2, ty_getf, ty_pi, ty_p0, ty_p1, ty_alen, ty_iald, ty_bald, ty_cald, ty_iast, ty_bast, ty_cast, ty_aald, ty_tald, ty_copy, ty_c1, ty_c2, ty_c3, ty_c4, ty_c5, ty_c6, ty_c7, ty_c8, ty_c9, ty_c10, ty_s0, ty_s1, ty_s2, ty_s3, ty_s4, ty_s5, ty_s6, List.mem_cons, List.not_mem_nil, or_false, false_or, or_true, true_or, and_true, true_and, and_self, Nat.reduceLT, Nat.reduceLeDiff, Nat.reduceEqDiff, Nat.reduceAdd, Nat.reduceSub, ↓reduceIte, reduceCtorEq, List.getElem?_cons_zero, List.getElem?_cons_succ, List.set_cons_zero, List.set_cons_succ, List.length_cons, List.length_nil, List.take_succ_cons, List.take_zero, List.drop_succ_cons, List.drop_zero, List.reverse_cons, List.reverse_nil, List.nil_append, List.cons_append, am_entry, List.map_cons, List.map_nil, List.replicate_zero, List.replicate_succ, List.append_nil, decide_eq_true_eq, eq_self, am_ty, am_nf, wf_1, wf_2, wa_1, wa_2, wa_3, wr_1, wr_2, wr_3, ac_15, h1]
  rw [sp_Bytes_add hB0 app_len (by simp only [List.length_append, List.length_cons, List.length_nil]; omega) hc, app_app]
  dsimp only [am_push]
  rw [go_to []]; simp only [gs_u, fns_if, fns_nx, fns_no, fns_rt, fns_cl, am_fs, am_cd, am_NM, am_sz, am_code, am_step, am_ldc, am_bin, am_div, am_un, am_iload, am_aload, am_istore, am_astore, am_iinc, am_j1, am_j2, am_jr, am_dup, am_dup2, am_pop, am_ret, am_rt, am_rc, am_ml, am_slen, am_schr, am_m1, am_m2, ty_getf, ty_pi, ty_p0, ty_p1, ty_alen, ty_iald, ty_bald, ty_cald, ty_iast, ty_bast, ty_cast, ty_aald, ty_tald, ty_copy, ty_c1, ty_c2, ty_c3, ty_c4, ty_c5, ty_c6, ty_c7, ty_c8, ty_c9, ty_c10, ty_s0, ty_s1, ty_s2, ty_s3, ty_s4, ty_s5, ty_s6, List.mem_cons, List.not_mem_nil, or_false, false_or, or_true, true_or, and_true, true_and, and_self, Nat.reduceLT, Nat.reduceLeDiff, Nat.reduceEqDiff, Nat.reduceAdd, Nat.reduceSub, ↓reduceIte, reduceCtorEq, List.getElem?_cons_zero, List.getElem?_cons_succ, List.set_cons_zero, List.set_cons_succ, List.length_cons, List.length_nil, List.take_succ_cons, List.take_zero, List.drop_succ_cons, List.drop_zero, List.reverse_cons, List.reverse_nil, List.nil_append, List.cons_append, am_entry, List.map_cons, List.map_nil, List.replicate_zero, List.replicate_succ, List.append_nil, decide_eq_true_eq, eq_self, am_ty, am_nf, wf_1, wf_2, wa_1, wa_2, wa_3, wr_1, wr_2, wr_3, ac_15, h1]
  rw [sp_Bytes_add hB0 app_len (by simp only [List.length_append, List.length_cons, List.length_nil]; omega) hc, app_app]
  dsimp only [am_push]
  rw [go_to []]; simp only [gs_u, fns_if, fns_nx, fns_no, fns_rt, fns_cl, am_fs, am_cd, am_NM, am_sz, am_code, am_step, am_ldc, am_bin, am_div, am_un, am_iload, am_aload, am_istore, am_astore, am_iinc, am_j1, am_j2, am_jr, am_dup, am_dup2, am_pop, am_ret, am_rt, am_rc, am_ml, am_slen, am_schr, am_m1, am_m2, ty_getf, ty_pi, ty_p0, ty_p1, ty_alen, ty_iald, ty_bald, ty_cald, ty_iast, ty_bast, ty_cast, ty_aald, ty_tald, ty_copy, ty_c1, ty_c2, ty_c3, ty_c4, ty_c5, ty_c6, ty_c7, ty_c8, ty_c9, ty_c10, ty_s0, ty_s1, ty_s2, ty_s3, ty_s4, ty_s5, ty_s6, List.mem_cons, List.not_mem_nil, or_false, false_or, or_true, true_or, and_true, true_and, and_self, Nat.reduceLT, Nat.reduceLeDiff, Nat.reduceEqDiff, Nat.reduceAdd, Nat.reduceSub, ↓reduceIte, reduceCtorEq, List.getElem?_cons_zero, List.getElem?_cons_succ, List.set_cons_zero, List.set_cons_succ, List.length_cons, List.length_nil, List.take_succ_cons, List.take_zero, List.drop_succ_cons, List.drop_zero, List.reverse_cons, List.reverse_nil, List.nil_append, List.cons_append, am_entry, List.map_cons, List.map_nil, List.replicate_zero, List.replicate_succ, List.append_nil, decide_eq_true_eq, eq_self, am_ty, am_nf, wf_1, wf_2, wa_1, wa_2, wa_3, wr_1, wr_2, wr_3, ac_15, h1]
  rfl
/-- closeLine(): a 10 if the row ends open -/
def closeL (e : Int32) : List Int32 := if e = 0 then [] else [10]
set_option maxRecDepth 100000 in
set_option maxHeartbeats 4000000 in
theorem sp_Bytes_closeLine (hB : is_B a) (hn : σ.1 a 1 = nI n) (hlt : n + (closeL (σ.1 a 3)).length ≤ ly_n (a + 1)) (hc : ly_n (a + 1) < 2 ^ 31) : am_Go X 20 0 [some (.ref a)] [] (hh σ) Q = Q none (hh (wf (app σ a n (closeL (σ.1 a 3))) a 3 0)) := by
  have hB0 := hB
  obtain ⟨h1, h2, h3, h4, h5, h6⟩ := hB
  rw [go_to []]; simp only [gs_u, fns_if, fns_nx, fns_no, fns_rt, fns_cl, am_fs, am_cd, am_NM, am_sz, am_code, am_step, am_ldc, am_bin, am_div, am_un, am_iload, am_aload, am_istore, am_astore, am_iinc, am_j1, am_j2, am_jr, am_dup, am_dup2, am_pop, am_ret, am_rt, am_rc, am_ml, am_slen, am_schr, am_m1, am_m2, ty_getf, ty_pi, ty_p0, ty_p1, ty_alen, ty_iald, ty_bald, ty_cald, ty_iast, ty_bast, ty_cast, ty_aald, ty_tald, ty_copy, ty_c1, ty_c2, ty_c3, ty_c4, ty_c5, ty_c6, ty_c7, ty_c8, ty_c9, ty_c10, ty_s0, ty_s1, ty_s2, ty_s3, ty_s4, ty_s5, ty_s6, List.mem_cons, List.not_mem_nil, or_false, false_or, or_true, true_or, and_true, true_and, and_self, Nat.reduceLT, Nat.reduceLeDiff, Nat.reduceEqDiff, Nat.reduceAdd, Nat.reduceSub, ↓reduceIte, reduceCtorEq, List.getElem?_cons_zero, List.getElem?_cons_succ, List.set_cons_zero, List.set_cons_succ, List.length_cons, List.length_nil, List.take_succ_cons, List.take_zero, List.drop_succ_cons, List.drop_zero, List.reverse_cons, List.reverse_nil, List.nil_append, List.cons_append, am_entry, List.map_cons, List.map_nil, List.replicate_zero, List.replicate_succ, List.append_nil, decide_eq_true_eq, eq_self, am_ty, am_nf, wf_1, wf_2, wa_1, wa_2, wa_3, wr_1, wr_2, wr_3, ac_20, aty1, h1, h4, h5, h6, ly_vi h4, ly_vi h5, ly_vi h6]
  unfold closeL at hlt ⊢
  by_cases h7 : σ.1 a 3 = 0
  · rw [if_pos h7, if_pos h7, app_nil hn]
  · rw [if_neg h7] at hlt ⊢
    rw [if_neg h7, sp_Bytes_add hB0 hn hlt hc]
    dsimp only [am_push]
    rw [go_to []]; simp only [gs_u, fns_if, fns_nx, fns_no, fns_rt, fns_cl, am_fs, am_cd, am_NM, am_sz, am_code, am_step, am_ldc, am_bin, am_div, am_un, am_iload, am_aload, am_istore, am_astore, am_iinc, am_j1, am_j2, am_jr, am_dup, am_dup2, am_pop, am_ret, am_rt, am_rc, am_ml, am_slen, am_schr, am_m1, am_m2, ty_getf, ty_pi, ty_p0, ty_p1, ty_alen, ty_iald, ty_bald, ty_cald, ty_iast, ty_bast, ty_cast, ty_aald, ty_tald, ty_copy, ty_c1, ty_c2, ty_c3, ty_c4, ty_c5, ty_c6, ty_c7, ty_c8, ty_c9, ty_c10, ty_s0, ty_s1, ty_s2, ty_s3, ty_s4, ty_s5, ty_s6, List.mem_cons, List.not_mem_nil, or_false, false_or, or_true, true_or, and_true, true_and, and_self, Nat.reduceLT, Nat.reduceLeDiff, Nat.reduceEqDiff, Nat.reduceAdd, Nat.reduceSub, ↓reduceIte, reduceCtorEq, List.getElem?_cons_zero, List.getElem?_cons_succ, List.set_cons_zero, List.set_cons_succ, List.length_cons, List.length_nil, List.take_succ_cons, List.take_zero, List.drop_succ_cons, List.drop_zero, List.reverse_cons, List.reverse_nil, List.nil_append, List.cons_append, am_entry, List.map_cons, List.map_nil, List.replicate_zero, List.replicate_succ, List.append_nil, decide_eq_true_eq, eq_self, am_ty, am_nf, wf_1, wf_2, wa_1, wa_2, wa_3, wr_1, wr_2, wr_3, ac_20, aty1, h1, h4, h5, h6, ly_vi h4, ly_vi h5, ly_vi h6]
    rfl
theorem ofN (k : Nat) : Int32.ofNat k = nI k := rfl
theorem b8_n : ∀ k, k < 128 → b8 (nI k) = nI k := by decide +kernel
theorem txt_b8 (j i : Nat) : b8 ((am_txt j).getD i 0) = (am_txt j).getD i 0 := by
  obtain ⟨k, hk, e⟩ := ((am_bs_txt 0 (fun _ => 0)) j).2 i
  have e : (am_txt j).getD i 0 = nI k := e
  rw [e, b8_n k hk]
theorem txt_len (j : Nat) : (am_txt j).length < 2 ^ 31 := ((am_bs_txt 0 (fun _ => 0)) j).1
theorem drop_D {L : List Int32} {i : Nat} (h : i < L.length) : L.drop i = L.getD i 0 :: L.drop (i + 1) := by
  rw [List.drop_eq_getElem_cons h, List.getD_eq_getElem?_getD, List.getElem?_eq_getElem h]
  rfl
set_option maxRecDepth 100000 in
set_option maxHeartbeats 4000000 in
theorem lp_Bytes_addText {j : Nat} (hX : X.2.2 = am_txt) (hB : is_B a) (hc : ly_n (a + 1) < 2 ^ 31) : ∀ (k i n : Nat) (σ : am_M), i + k = (am_txt j).length → σ.1 a 1 = nI n → n + k ≤ ly_n (a + 1) → am_Go X 16 2 [some (.ref a), some (.retAddr (j + 1)), some (.int (nI i))] [] (hh σ) Q = Q none (hh (app σ a n ((am_txt j).drop i))) := by
  have hB0 := hB
  obtain ⟨h1, h2, h3, h4, h5, h6⟩ := hB
  have hT := txt_len j
  intro k
  induction k with
  | zero =>
    intro i n σ hi hn hle
    rw [go_to [2]]; simp only [gs_u, fns_if, fns_nx, fns_no, fns_rt, fns_cl, am_fs, am_cd, am_NM, am_sz, am_code, am_step, am_ldc, am_bin, am_div, am_un, am_iload, am_aload, am_istore, am_astore, am_iinc, am_j1, am_j2, am_jr, am_dup, am_dup2, am_pop, am_ret, am_rt, am_rc, am_ml, am_slen, am_schr, am_m1, am_m2, ty_getf, ty_pi, ty_p0, ty_p1, ty_alen, ty_iald, ty_bald, ty_cald, ty_iast, ty_bast, ty_cast, ty_aald, ty_tald, ty_copy, ty_c1, ty_c2, ty_c3, ty_c4, ty_c5, ty_c6, ty_c7, ty_c8, ty_c9, ty_c10, ty_s0, ty_s1, ty_s2, ty_s3, ty_s4, ty_s5, ty_s6, List.mem_cons, List.not_mem_nil, or_false, false_or, or_true, true_or, and_true, true_and, and_self, Nat.reduceLT, Nat.reduceLeDiff, Nat.reduceEqDiff, Nat.reduceAdd, Nat.reduceSub, ↓reduceIte, reduceCtorEq, List.getElem?_cons_zero, List.getElem?_cons_succ, List.set_cons_zero, List.set_cons_succ, List.length_cons, List.length_nil, List.take_succ_cons, List.take_zero, List.drop_succ_cons, List.drop_zero, List.reverse_cons, List.reverse_nil, List.nil_append, List.cons_append, am_entry, List.map_cons, List.map_nil, List.replicate_zero, List.replicate_succ, List.append_nil, decide_eq_true_eq, eq_self, am_ty, am_nf, wf_1, wf_2, wa_1, wa_2, wa_3, wr_1, wr_2, wr_3, ac_16, h1, h4, hX, ofN]
    rw [if_pos (nI_le (by omega) (by omega)), List.drop_eq_nil_of_le (by omega), app_nil hn]
  | succ k ih =>
    intro i n σ hi hn hle
    rw [go_to [2]]; simp only [gs_u, fns_if, fns_nx, fns_no, fns_rt, fns_cl, am_fs, am_cd, am_NM, am_sz, am_code, am_step, am_ldc, am_bin, am_div, am_un, am_iload, am_aload, am_istore, am_astore, am_iinc, am_j1, am_j2, am_jr, am_dup, am_dup2, am_pop, am_ret, am_rt, am_rc, am_ml, am_slen, am_schr, am_m1, am_m2, ty_getf, ty_pi, ty_p0, ty_p1, ty_alen, ty_iald, ty_bald, ty_cald, ty_iast, ty_bast, ty_cast, ty_aald, ty_tald, ty_copy, ty_c1, ty_c2, ty_c3, ty_c4, ty_c5, ty_c6, ty_c7, ty_c8, ty_c9, ty_c10, ty_s0, ty_s1, ty_s2, ty_s3, ty_s4, ty_s5, ty_s6, List.mem_cons, List.not_mem_nil, or_false, false_or, or_true, true_or, and_true, true_and, and_self, Nat.reduceLT, Nat.reduceLeDiff, Nat.reduceEqDiff, Nat.reduceAdd, Nat.reduceSub, ↓reduceIte, reduceCtorEq, List.getElem?_cons_zero, List.getElem?_cons_succ, List.set_cons_zero, List.set_cons_succ, List.length_cons, List.length_nil, List.take_succ_cons, List.take_zero, List.drop_succ_cons, List.drop_zero, List.reverse_cons, List.reverse_nil, List.nil_append, List.cons_append, am_entry, List.map_cons, List.map_nil, List.replicate_zero, List.replicate_succ, List.append_nil, decide_eq_true_eq, eq_self, am_ty, am_nf, wf_1, wf_2, wa_1, wa_2, wa_3, wr_1, wr_2, wr_3, ac_16, h1, h4, hX, ofN]
    rw [if_neg (nI_ge (by omega) (by omega)), if_neg (by rw [nI_clamp (n := i) (by omega)]; rintro (h | h); exact nI_pos (n := i) (by omega) h; omega), nI_clamp (n := i) (by omega), sp_Bytes_add hB0 hn (by omega) hc, txt_b8]
    dsimp only [am_push]
    rw [go_to [2]]; simp only [gs_u, fns_if, fns_nx, fns_no, fns_rt, fns_cl, am_fs, am_cd, am_NM, am_sz, am_code, am_step, am_ldc, am_bin, am_div, am_un, am_iload, am_aload, am_istore, am_astore, am_iinc, am_j1, am_j2, am_jr, am_dup, am_dup2, am_pop, am_ret, am_rt, am_rc, am_ml, am_slen, am_schr, am_m1, am_m2, ty_getf, ty_pi, ty_p0, ty_p1, ty_alen, ty_iald, ty_bald, ty_cald, ty_iast, ty_bast, ty_cast, ty_aald, ty_tald, ty_copy, ty_c1, ty_c2, ty_c3, ty_c4, ty_c5, ty_c6, ty_c7, ty_c8, ty_c9, ty_c10, ty_s0, ty_s1, ty_s2, ty_s3, ty_s4, ty_s5, ty_s6, List.mem_cons, List.not_mem_nil, or_false, false_or, or_true, true_or, and_true, true_and, and_self, Nat.reduceLT, Nat.reduceLeDiff, Nat.reduceEqDiff, Nat.reduceAdd, Nat.reduceSub, ↓reduceIte, reduceCtorEq, List.getElem?_cons_zero, List.getElem?_cons_succ, List.set_cons_zero, List.set_cons_succ, List.length_cons, List.length_nil, List.take_succ_cons, List.take_zero, List.drop_succ_cons, List.drop_zero, List.reverse_cons, List.reverse_nil, List.nil_append, List.cons_append, am_entry, List.map_cons, List.map_nil, List.replicate_zero, List.replicate_succ, List.append_nil, decide_eq_true_eq, eq_self, am_ty, am_nf, wf_1, wf_2, wa_1, wa_2, wa_3, wr_1, wr_2, wr_3, ac_16, h1, h4, hX, ofN]
    rw [nI_1, ih (i + 1) (n + 1) _ (by omega) app_len (by omega), drop_D (L := am_txt j) (i := i) (by omega)]
    exact congrArg (fun x => Q none (hh x)) app_app
theorem sp_Bytes_addText {j : Nat} (hX : X.2.2 = am_txt) (hB : is_B a) (hn : σ.1 a 1 = nI n) (hlt : n + (am_txt j).length ≤ ly_n (a + 1)) (hc : ly_n (a + 1) < 2 ^ 31) : am_Go X 16 0 [some (.ref a), some (.retAddr (j + 1)), none] [] (hh σ) Q = Q none (hh (app σ a n (am_txt j))) := by
  rw [go_to [2]]; simp only [gs_u, fns_if, fns_nx, fns_no, fns_rt, fns_cl, am_fs, am_cd, am_NM, am_sz, am_code, am_step, am_ldc, am_bin, am_div, am_un, am_iload, am_aload, am_istore, am_astore, am_iinc, am_j1, am_j2, am_jr, am_dup, am_dup2, am_pop, am_ret, am_rt, am_rc, am_ml, am_slen, am_schr, am_m1, am_m2, ty_getf, ty_pi, ty_p0, ty_p1, ty_alen, ty_iald, ty_bald, ty_cald, ty_iast, ty_bast, ty_cast, ty_aald, ty_tald, ty_copy, ty_c1, ty_c2, ty_c3, ty_c4, ty_c5, ty_c6, ty_c7, ty_c8, ty_c9, ty_c10, ty_s0, ty_s1, ty_s2, ty_s3, ty_s4, ty_s5, ty_s6, List.mem_cons, List.not_mem_nil, or_false, false_or, or_true, true_or, and_true, true_and, and_self, Nat.reduceLT, Nat.reduceLeDiff, Nat.reduceEqDiff, Nat.reduceAdd, Nat.reduceSub, ↓reduceIte, reduceCtorEq, List.getElem?_cons_zero, List.getElem?_cons_succ, List.set_cons_zero, List.set_cons_succ, List.length_cons, List.length_nil, List.take_succ_cons, List.take_zero, List.drop_succ_cons, List.drop_zero, List.reverse_cons, List.reverse_nil, List.nil_append, List.cons_append, am_entry, List.map_cons, List.map_nil, List.replicate_zero, List.replicate_succ, List.append_nil, decide_eq_true_eq, eq_self, am_ty, am_nf, wf_1, wf_2, wa_1, wa_2, wa_3, wr_1, wr_2, wr_3, ac_16, hX]
  exact lp_Bytes_addText hX hB hc (am_txt j).length 0 n σ (by omega) hn hlt
end BY
