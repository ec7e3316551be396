/-! the class's Comparison -/
theorem pI_d (d : Nat) : nI d + mI = nI d - nI 1 := by
  rw [Int32.sub_eq_add_neg]
  rfl
theorem pI_0 : nI 0 - nI 1 = mI := rfl
theorem mx_n {a b : Nat} : (if a < b then nI b else nI a) = nI (max a b) := by
  split
  · rw [Nat.max_eq_right (by omega)]
  · rw [Nat.max_eq_left (by omega)]
section CP
variable {X : am_X} {t u : Nat} {A B : List Int32} {Q : Option Value → am_H → Prop}
def Lp (σ : am_M) (A B : List Int32) (i j : Nat) : Prop := ∀ x y, x ≤ lnum A → y ≤ lnum B → (i < x ∨ (x = i ∧ j ≤ y)) → σ.2.1 71 (x * 201 + y) = nI (lcs A B x y)
set_option maxRecDepth 100000 in
set_option maxHeartbeats 4000000 in
theorem lp_fill3 (hT : is_T t) (hU : is_T u) (ht : 76 < t ∨ t + 4 < 70) (hu : 76 < u ∨ u + 4 < 70) {i : Nat} (hi : i < lnum A) : ∀ (e : Nat) (v : Int32) (σ : am_M), v = nI e + mI → e ≤ lnum B → σ.2.2 2 = t → σ.2.2 3 = u → Tx σ t A → Tx σ u B → Lp σ A B i e → (∀ τ w, Lp τ A B i 0 → fr 71 71 σ τ → am_Go X 42 161 [some (.ref 70), some (.int (nI i)), some (.int (nI (i * 201))), some (.int w)] [] (hh τ) Q) → am_Go X 42 83 [some (.ref 70), some (.int (nI i)), some (.int (nI (i * 201))), some (.int v)] [] (hh σ) Q := by
  intro e
  induction e with
  | zero =>
    intro v σ hv he r1 r2 xt xu hL hQ
    rw [hv, pI_d, pI_0]
    rw [go_to [83, 161]]; simp only [gs_u, fns_if, fns_nx, fns_no, fns_rt, fns_cl, am_fs, am_cd, am_NM, am_sz, am_code, am_step, am_ldc, am_bin, am_div, am_un, am_iload, am_aload, am_istore, am_astore, am_iinc, am_j1, am_j2, am_jr, am_dup, am_dup2, am_pop, am_ret, am_rt, am_rc, am_ml, am_slen, am_schr, am_m1, am_m2, ty_getf, ty_pi, ty_p0, ty_p1, ty_alen, ty_iald, ty_bald, ty_cald, ty_iast, ty_bast, ty_cast, ty_aald, ty_tald, ty_copy, ty_c1, ty_c2, ty_c3, ty_c4, ty_c5, ty_c6, ty_c7, ty_c8, ty_c9, ty_c10, ty_s0, ty_s1, ty_s2, ty_s3, ty_s4, ty_s5, ty_s6, List.mem_cons, List.not_mem_nil, or_false, false_or, or_true, true_or, and_true, true_and, and_self, Nat.reduceLT, Nat.reduceLeDiff, Nat.reduceEqDiff, Nat.add_eq_left, Nat.reduceAdd, Nat.reduceSub, ↓reduceIte, reduceCtorEq, List.getElem?_cons_zero, List.getElem?_cons_succ, List.set_cons_zero, List.set_cons_succ, List.length_cons, List.length_nil, List.take_succ_cons, List.take_zero, List.drop_succ_cons, List.drop_zero, List.reverse_cons, List.reverse_nil, List.nil_append, List.cons_append, am_entry, List.map_cons, List.map_nil, List.replicate_zero, List.replicate_succ, List.append_nil, decide_eq_true_eq, eq_self, am_ty, am_nf, wf_1, wf_2, wa_1, wa_2, wa_3, wr_1, wr_2, wr_3, ty_q0, ty_q1, ty_q2, i_if, ac_42, kc_70, lv_70_0, lv_70_1, lv_70_2, lv_70_3, lv_70_4, lv_70_5, lv_70_6, li_70_6, lv_70_7, lv_70_8, lv_70_9, li_70_9, lv_70_10, li_70_10, kc_71, kn_71, hT.1, hU.1, r1, r2]
    simp (disch := first | omega | assumption) only [↓mI_i, li_0, li_1, li_2, li_3, li_4, li_5, li_6, li_7, li_8, li_9, li_10, li_16, li_20, li_24, li_31, li_32, li_43, li_44, li_45, li_46, li_48, li_57, li_62, li_64, li_97, li_99, li_100, li_200, li_201, li_202, li_255, li_401, li_500, li_2000, li_5980, li_6000, li_6002, li_9000, li_10000, li_20000, li_40401, li_100000, li_1000000, nI_leI, nI_ltI, nI_eq, mI_eq, mI_eq2, mI_lt, mI_le, mI_gt, mI_ge, nI_m1, nI_add, pk_sub, pk_mul, nI_clamp, bq0, bq1, ite_not, Classical.not_not, or_false, false_or, or_self, not_true_eq_false, not_false_eq_true, ↓reduceIte, ite_true, ite_false, true_or, or_true, and_true, true_and, ne_eq, if_pos, if_neg]
    exact hQ σ _ hL fr_refl
  | succ j ih =>
    intro v σ hv he r1 r2 xt xu hL hQ
    have na := xt.2.2.2.2.2.1
    have nb := xu.2.2.2.2.2.1
    have l1 := lcs_le (A := A) (B := B) (i := i + 1) (j := j + 1)
    have l2 := lcs_le (A := A) (B := B) (i := i + 1) (j := j)
    have l3 := lcs_le (A := A) (B := B) (i := i) (j := j + 1)
    have c1 := hL (i + 1) (j + 1) (by omega) (by omega) (by omega)
    have c2 := hL (i + 1) j (by omega) (by omega) (by omega)
    have c3 := hL i (j + 1) (by omega) (by omega) (by omega)
    rw [show (i + 1) * 201 + (j + 1) = i * 201 + 201 + j + 1 by omega] at c1
    rw [show (i + 1) * 201 + j = i * 201 + 201 + j by omega] at c2
    rw [show i * 201 + (j + 1) = i * 201 + j + 1 by omega] at c3
    have hv : v = nI j := by rw [hv, nI_m1 (by omega)]; rfl
    rw [hv]
    rw [go_to [83, 161]]; simp only [gs_u, fns_if, fns_nx, fns_no, fns_rt, fns_cl, am_fs, am_cd, am_NM, am_sz, am_code, am_step, am_ldc, am_bin, am_div, am_un, am_iload, am_aload, am_istore, am_astore, am_iinc, am_j1, am_j2, am_jr, am_dup, am_dup2, am_pop, am_ret, am_rt, am_rc, am_ml, am_slen, am_schr, am_m1, am_m2, ty_getf, ty_pi, ty_p0, ty_p1, ty_alen, ty_iald, ty_bald, ty_cald, ty_iast, ty_bast, ty_cast, ty_aald, ty_tald, ty_copy, ty_c1, ty_c2, ty_c3, ty_c4, ty_c5, ty_c6, ty_c7, ty_c8, ty_c9, ty_c10, ty_s0, ty_s1, ty_s2, ty_s3, ty_s4, ty_s5, ty_s6, List.mem_cons, List.not_mem_nil, or_false, false_or, or_true, true_or, and_true, true_and, and_self, Nat.reduceLT, Nat.reduceLeDiff, Nat.reduceEqDiff, Nat.add_eq_left, Nat.reduceAdd, Nat.reduceSub, ↓reduceIte, reduceCtorEq, List.getElem?_cons_zero, List.getElem?_cons_succ, List.set_cons_zero, List.set_cons_succ, List.length_cons, List.length_nil, List.take_succ_cons, List.take_zero, List.drop_succ_cons, List.drop_zero, List.reverse_cons, List.reverse_nil, List.nil_append, List.cons_append, am_entry, List.map_cons, List.map_nil, List.replicate_zero, List.replicate_succ, List.append_nil, decide_eq_true_eq, eq_self, am_ty, am_nf, wf_1, wf_2, wa_1, wa_2, wa_3, wr_1, wr_2, wr_3, ty_q0, ty_q1, ty_q2, i_if, ac_42, kc_70, lv_70_0, lv_70_1, lv_70_2, lv_70_3, lv_70_4, lv_70_5, lv_70_6, li_70_6, lv_70_7, lv_70_8, lv_70_9, li_70_9, lv_70_10, li_70_10, kc_71, kn_71, hT.1, hU.1, r1, r2]
    simp (disch := first | omega | assumption) only [↓mI_i, li_0, li_1, li_2, li_3, li_4, li_5, li_6, li_7, li_8, li_9, li_10, li_16, li_20, li_24, li_31, li_32, li_43, li_44, li_45, li_46, li_48, li_57, li_62, li_64, li_97, li_99, li_100, li_200, li_201, li_202, li_255, li_401, li_500, li_2000, li_5980, li_6000, li_6002, li_9000, li_10000, li_20000, li_40401, li_100000, li_1000000, nI_leI, nI_ltI, nI_eq, mI_eq, mI_eq2, mI_lt, mI_le, mI_gt, mI_ge, nI_m1, nI_add, pk_sub, pk_mul, nI_clamp, bq0, bq1, ite_not, Classical.not_not, or_false, false_or, or_self, not_true_eq_false, not_false_eq_true, ↓reduceIte, ite_true, ite_false, true_or, or_true, and_true, true_and, ne_eq, if_pos, if_neg]
    rw [sx_Text_isAlike hT xt hU xu (by omega) (by omega)]
    dsimp only [am_push]
    have fin : ∀ σ2 : am_M, σ2 = wa σ 71 (upd (σ.2.1 71) (i * 201 + j) (nI (lcs A B i j))) → am_Go X 42 83 [some (.ref 70), some (.int (nI i)), some (.int (nI (i * 201))), some (.int (nI j + mI))] [] (hh σ2) Q := by
      intro σ2 hσ
      have hf : fr 71 71 σ σ2 := by rw [hσ]; exact fr_wa (by omega)
      refine ih _ σ2 rfl (by omega) (by rw [hf.2.2]; exact r1) (by rw [hf.2.2]; exact r2) (Tx_fr xt hf (by omega)) (Tx_fr xu hf (by omega)) ?_ (fun τ w hτ hf2 => hQ τ w hτ (fr_trans hf hf2))
      intro x y hx hy hxy
      rw [hσ, wa_2, if_pos rfl]
      unfold upd
      by_cases q : x * 201 + y = i * 201 + j
      · obtain ⟨rfl, rfl⟩ : x = i ∧ y = j := by omega
        rw [if_pos rfl]
      · rw [if_neg q]
        exact hL x y hx hy (by omega)
    have heq := lcs_eq (A := A) (B := B) hi (by omega : j < lnum B)
    rw [go_to [83, 161]]; simp only [gs_u, fns_if, fns_nx, fns_no, fns_rt, fns_cl, am_fs, am_cd, am_NM, am_sz, am_code, am_step, am_ldc, am_bin, am_div, am_un, am_iload, am_aload, am_istore, am_astore, am_iinc, am_j1, am_j2, am_jr, am_dup, am_dup2, am_pop, am_ret, am_rt, am_rc, am_ml, am_slen, am_schr, am_m1, am_m2, ty_getf, ty_pi, ty_p0, ty_p1, ty_alen, ty_iald, ty_bald, ty_cald, ty_iast, ty_bast, ty_cast, ty_aald, ty_tald, ty_copy, ty_c1, ty_c2, ty_c3, ty_c4, ty_c5, ty_c6, ty_c7, ty_c8, ty_c9, ty_c10, ty_s0, ty_s1, ty_s2, ty_s3, ty_s4, ty_s5, ty_s6, List.mem_cons, List.not_mem_nil, or_false, false_or, or_true, true_or, and_true, true_and, and_self, Nat.reduceLT, Nat.reduceLeDiff, Nat.reduceEqDiff, Nat.add_eq_left, Nat.reduceAdd, Nat.reduceSub, ↓reduceIte, reduceCtorEq, List.getElem?_cons_zero, List.getElem?_cons_succ, List.set_cons_zero, List.set_cons_succ, List.length_cons, List.length_nil, List.take_succ_cons, List.take_zero, List.drop_succ_cons, List.drop_zero, List.reverse_cons, List.reverse_nil, List.nil_append, List.cons_append, am_entry, List.map_cons, List.map_nil, List.replicate_zero, List.replicate_succ, List.append_nil, decide_eq_true_eq, eq_self, am_ty, am_nf, wf_1, wf_2, wa_1, wa_2, wa_3, wr_1, wr_2, wr_3, ty_q0, ty_q1, ty_q2, i_if, ac_42, kc_70, lv_70_0, lv_70_1, lv_70_2, lv_70_3, lv_70_4, lv_70_5, lv_70_6, li_70_6, lv_70_7, lv_70_8, lv_70_9, li_70_9, lv_70_10, li_70_10, kc_71, kn_71, hT.1, hU.1, r1, r2]
    simp (disch := first | omega | assumption) only [↓mI_i, li_0, li_1, li_2, li_3, li_4, li_5, li_6, li_7, li_8, li_9, li_10, li_16, li_20, li_24, li_31, li_32, li_43, li_44, li_45, li_46, li_48, li_57, li_62, li_64, li_97, li_99, li_100, li_200, li_201, li_202, li_255, li_401, li_500, li_2000, li_5980, li_6000, li_6002, li_9000, li_10000, li_20000, li_40401, li_100000, li_1000000, nI_leI, nI_ltI, nI_eq, mI_eq, mI_eq2, mI_lt, mI_le, mI_gt, mI_ge, nI_m1, nI_add, pk_sub, pk_mul, nI_clamp, bq0, bq1, ite_not, Classical.not_not, or_false, false_or, or_self, not_true_eq_false, not_false_eq_true, ↓reduceIte, ite_true, ite_false, true_or, or_true, and_true, true_and, ne_eq, if_pos, if_neg, c1, c2, c3, mx_n]
    by_cases q : line A i = line B j
    · rw [if_pos q] at heq
      rw [if_pos ⟨hi, by omega, q⟩, ← heq]
      exact fin _ rfl
    · rw [if_neg q] at heq
      rw [if_neg (fun z => q z.2.2), ← heq]
      exact fin _ rfl
set_option maxRecDepth 100000 in
set_option maxHeartbeats 4000000 in
theorem lp_fill2 (hT : is_T t) (hU : is_T u) (ht : 76 < t ∨ t + 4 < 70) (hu : 76 < u ∨ u + 4 < 70) : ∀ (e : Nat) (v : Int32) (w2 w3 : Option Value) (σ : am_M), v = nI e + mI → e ≤ lnum A → σ.2.2 2 = t → σ.2.2 3 = u → Tx σ t A → Tx σ u B → Lp σ A B e 0 → (∀ τ, Lp τ A B 0 0 → fr 71 71 σ τ → Q none (hh τ)) → am_Go X 42 48 [some (.ref 70), some (.int v), w2, w3] [] (hh σ) Q := by
  intro e
  induction e with
  | zero =>
    intro v w2 w3 σ hv he r1 r2 xt xu hL hQ
    rw [hv, pI_d, pI_0]
    rw [go_to [48, 83]]; simp only [gs_u, fns_if, fns_nx, fns_no, fns_rt, fns_cl, am_fs, am_cd, am_NM, am_sz, am_code, am_step, am_ldc, am_bin, am_div, am_un, am_iload, am_aload, am_istore, am_astore, am_iinc, am_j1, am_j2, am_jr, am_dup, am_dup2, am_pop, am_ret, am_rt, am_rc, am_ml, am_slen, am_schr, am_m1, am_m2, ty_getf, ty_pi, ty_p0, ty_p1, ty_alen, ty_iald, ty_bald, ty_cald, ty_iast, ty_bast, ty_cast, ty_aald, ty_tald, ty_copy, ty_c1, ty_c2, ty_c3, ty_c4, ty_c5, ty_c6, ty_c7, ty_c8, ty_c9, ty_c10, ty_s0, ty_s1, ty_s2, ty_s3, ty_s4, ty_s5, ty_s6, List.mem_cons, List.not_mem_nil, or_false, false_or, or_true, true_or, and_true, true_and, and_self, Nat.reduceLT, Nat.reduceLeDiff, Nat.reduceEqDiff, Nat.add_eq_left, Nat.reduceAdd, Nat.reduceSub, ↓reduceIte, reduceCtorEq, List.getElem?_cons_zero, List.getElem?_cons_succ, List.set_cons_zero, List.set_cons_succ, List.length_cons, List.length_nil, List.take_succ_cons, List.take_zero, List.drop_succ_cons, List.drop_zero, List.reverse_cons, List.reverse_nil, List.nil_append, List.cons_append, am_entry, List.map_cons, List.map_nil, List.replicate_zero, List.replicate_succ, List.append_nil, decide_eq_true_eq, eq_self, am_ty, am_nf, wf_1, wf_2, wa_1, wa_2, wa_3, wr_1, wr_2, wr_3, ty_q0, ty_q1, ty_q2, i_if, ac_42, kc_70, lv_70_0, lv_70_1, lv_70_2, lv_70_3, lv_70_4, lv_70_5, lv_70_6, li_70_6, lv_70_7, lv_70_8, lv_70_9, li_70_9, lv_70_10, li_70_10, kc_71, kn_71, hT.1, hU.1, r1, r2]
    simp (disch := first | omega | assumption) only [↓mI_i, li_0, li_1, li_2, li_3, li_4, li_5, li_6, li_7, li_8, li_9, li_10, li_16, li_20, li_24, li_31, li_32, li_43, li_44, li_45, li_46, li_48, li_57, li_62, li_64, li_97, li_99, li_100, li_200, li_201, li_202, li_255, li_401, li_500, li_2000, li_5980, li_6000, li_6002, li_9000, li_10000, li_20000, li_40401, li_100000, li_1000000, nI_leI, nI_ltI, nI_eq, mI_eq, mI_eq2, mI_lt, mI_le, mI_gt, mI_ge, nI_m1, nI_add, pk_sub, pk_mul, nI_clamp, bq0, bq1, ite_not, Classical.not_not, or_false, false_or, or_self, not_true_eq_false, not_false_eq_true, ↓reduceIte, ite_true, ite_false, true_or, or_true, and_true, true_and, ne_eq, if_pos, if_neg]
    exact hQ σ hL fr_refl
  | succ i ih =>
    intro v w2 w3 σ hv he r1 r2 xt xu hL hQ
    have na := xt.2.2.2.2.2.1
    have nb := xu.2.2.2.2.2.1
    have nb2 := xu.2.2.2.2.1
    have hv : v = nI i := by rw [hv, nI_m1 (by omega)]; rfl
    have u9 := hU.2.2.2.2.2.1
    rw [hv]
    rw [go_to [48, 83]]; simp only [gs_u, fns_if, fns_nx, fns_no, fns_rt, fns_cl, am_fs, am_cd, am_NM, am_sz, am_code, am_step, am_ldc, am_bin, am_div, am_un, am_iload, am_aload, am_istore, am_astore, am_iinc, am_j1, am_j2, am_jr, am_dup, am_dup2, am_pop, am_ret, am_rt, am_rc, am_ml, am_slen, am_schr, am_m1, am_m2, ty_getf, ty_pi, ty_p0, ty_p1, ty_alen, ty_iald, ty_bald, ty_cald, ty_iast, ty_bast, ty_cast, ty_aald, ty_tald, ty_copy, ty_c1, ty_c2, ty_c3, ty_c4, ty_c5, ty_c6, ty_c7, ty_c8, ty_c9, ty_c10, ty_s0, ty_s1, ty_s2, ty_s3, ty_s4, ty_s5, ty_s6, List.mem_cons, List.not_mem_nil, or_false, false_or, or_true, true_or, and_true, true_and, and_self, Nat.reduceLT, Nat.reduceLeDiff, Nat.reduceEqDiff, Nat.add_eq_left, Nat.reduceAdd, Nat.reduceSub, ↓reduceIte, reduceCtorEq, List.getElem?_cons_zero, List.getElem?_cons_succ, List.set_cons_zero, List.set_cons_succ, List.length_cons, List.length_nil, List.take_succ_cons, List.take_zero, List.drop_succ_cons, List.drop_zero, List.reverse_cons, List.reverse_nil, List.nil_append, List.cons_append, am_entry, List.map_cons, List.map_nil, List.replicate_zero, List.replicate_succ, List.append_nil, decide_eq_true_eq, eq_self, am_ty, am_nf, wf_1, wf_2, wa_1, wa_2, wa_3, wr_1, wr_2, wr_3, ty_q0, ty_q1, ty_q2, i_if, ac_42, kc_70, lv_70_0, lv_70_1, lv_70_2, lv_70_3, lv_70_4, lv_70_5, lv_70_6, li_70_6, lv_70_7, lv_70_8, lv_70_9, li_70_9, lv_70_10, li_70_10, kc_71, kn_71, hT.1, hU.1, r1, r2, u9, ly_vi u9, nb2]
    simp (disch := first | omega | assumption) only [↓mI_i, li_0, li_1, li_2, li_3, li_4, li_5, li_6, li_7, li_8, li_9, li_10, li_16, li_20, li_24, li_31, li_32, li_43, li_44, li_45, li_46, li_48, li_57, li_62, li_64, li_97, li_99, li_100, li_200, li_201, li_202, li_255, li_401, li_500, li_2000, li_5980, li_6000, li_6002, li_9000, li_10000, li_20000, li_40401, li_100000, li_1000000, nI_leI, nI_ltI, nI_eq, mI_eq, mI_eq2, mI_lt, mI_le, mI_gt, mI_ge, nI_m1, nI_add, pk_sub, pk_mul, nI_clamp, bq0, bq1, ite_not, Classical.not_not, or_false, false_or, or_self, not_true_eq_false, not_false_eq_true, ↓reduceIte, ite_true, ite_false, true_or, or_true, and_true, true_and, ne_eq, if_pos, if_neg]
    generalize hσ : wa σ 71 (upd (σ.2.1 71) (i * 201 + lnum B) (nI 0)) = σ2
    have hf : fr 71 71 σ σ2 := by rw [← hσ]; exact fr_wa (by omega)
    refine lp_fill3 hT hU ht hu (by omega) (lnum B) _ σ2 (by rw [pI_d]) (Nat.le_refl _) (by rw [hf.2.2]; exact r1) (by rw [hf.2.2]; exact r2) (Tx_fr xt hf (by omega)) (Tx_fr xu hf (by omega)) ?_ (fun τ w hτ hf2 => ?_)
    · intro x y hx hy hxy
      rw [← hσ, wa_2, if_pos rfl]
      unfold upd
      by_cases q : x * 201 + y = i * 201 + lnum B
      · obtain ⟨rfl, rfl⟩ : x = i ∧ y = lnum B := by omega
        rw [if_pos rfl, lcs_b (Nat.le_refl _)]
      · rw [if_neg q]
        exact hL x y hx hy (by omega)
    · have hf3 := fr_trans hf hf2
      rw [go_to [48, 83]]; simp only [gs_u, fns_if, fns_nx, fns_no, fns_rt, fns_cl, am_fs, am_cd, am_NM, am_sz, am_code, am_step, am_ldc, am_bin, am_div, am_un, am_iload, am_aload, am_istore, am_astore, am_iinc, am_j1, am_j2, am_jr, am_dup, am_dup2, am_pop, am_ret, am_rt, am_rc, am_ml, am_slen, am_schr, am_m1, am_m2, ty_getf, ty_pi, ty_p0, ty_p1, ty_alen, ty_iald, ty_bald, ty_cald, ty_iast, ty_bast, ty_cast, ty_aald, ty_tald, ty_copy, ty_c1, ty_c2, ty_c3, ty_c4, ty_c5, ty_c6, ty_c7, ty_c8, ty_c9, ty_c10, ty_s0, ty_s1, ty_s2, ty_s3, ty_s4, ty_s5, ty_s6, List.mem_cons, List.not_mem_nil, or_false, false_or, or_true, true_or, and_true, true_and, and_self, Nat.reduceLT, Nat.reduceLeDiff, Nat.reduceEqDiff, Nat.add_eq_left, Nat.reduceAdd, Nat.reduceSub, ↓reduceIte, reduceCtorEq, List.getElem?_cons_zero, List.getElem?_cons_succ, List.set_cons_zero, List.set_cons_succ, List.length_cons, List.length_nil, List.take_succ_cons, List.take_zero, List.drop_succ_cons, List.drop_zero, List.reverse_cons, List.reverse_nil, List.nil_append, List.cons_append, am_entry, List.map_cons, List.map_nil, List.replicate_zero, List.replicate_succ, List.append_nil, decide_eq_true_eq, eq_self, am_ty, am_nf, wf_1, wf_2, wa_1, wa_2, wa_3, wr_1, wr_2, wr_3, ty_q0, ty_q1, ty_q2, i_if, ac_42, kc_70, lv_70_0, lv_70_1, lv_70_2, lv_70_3, lv_70_4, lv_70_5, lv_70_6, li_70_6, lv_70_7, lv_70_8, lv_70_9, li_70_9, lv_70_10, li_70_10, kc_71, kn_71, hT.1, hU.1]
      simp (disch := first | omega | assumption) only [↓mI_i, li_0, li_1, li_2, li_3, li_4, li_5, li_6, li_7, li_8, li_9, li_10, li_16, li_20, li_24, li_31, li_32, li_43, li_44, li_45, li_46, li_48, li_57, li_62, li_64, li_97, li_99, li_100, li_200, li_201, li_202, li_255, li_401, li_500, li_2000, li_5980, li_6000, li_6002, li_9000, li_10000, li_20000, li_40401, li_100000, li_1000000, nI_leI, nI_ltI, nI_eq, mI_eq, mI_eq2, mI_lt, mI_le, mI_gt, mI_ge, nI_m1, nI_add, pk_sub, pk_mul, nI_clamp, bq0, bq1, ite_not, Classical.not_not, or_false, false_or, or_self, not_true_eq_false, not_false_eq_true, ↓reduceIte, ite_true, ite_false, true_or, or_true, and_true, true_and, ne_eq, if_pos, if_neg]
      refine ih _ _ _ τ (by first | rfl | rw [nI_m1 (by omega)]) (by omega) (by rw [hf3.2.2]; exact r1) (by rw [hf3.2.2]; exact r2) (Tx_fr xt hf3 (by omega)) (Tx_fr xu hf3 (by omega)) hτ (fun υ hυ hf4 => hQ υ hυ (fr_trans hf3 hf4))
set_option maxRecDepth 100000 in
set_option maxHeartbeats 4000000 in
theorem lp_fill1 (hT : is_T t) (hU : is_T u) (ht : 76 < t ∨ t + 4 < 70) (hu : 76 < u ∨ u + 4 < 70) {w2 w3 : Option Value} : ∀ (d j : Nat) (σ : am_M), j + d = lnum B + 1 → σ.2.2 2 = t → σ.2.2 3 = u → Tx σ t A → Tx σ u B → (∀ y, y < j → σ.2.1 71 (lnum A * 201 + y) = nI 0) → (∀ τ, Lp τ A B 0 0 → fr 71 71 σ τ → Q none (hh τ)) → am_Go X 42 2 [some (.ref 70), some (.int (nI j)), w2, w3] [] (hh σ) Q := by
  intro d
  induction d with
  | zero =>
    intro j σ hj r1 r2 xt xu hL hQ
    have na := xt.2.2.2.2.2.1
    have nb := xu.2.2.2.2.2.1
    have na2 := xt.2.2.2.2.1
    have nb2 := xu.2.2.2.2.1
    have t9 := hT.2.2.2.2.2.1
    have u9 := hU.2.2.2.2.2.1
    rw [go_to [2, 48]]; simp only [gs_u, fns_if, fns_nx, fns_no, fns_rt, fns_cl, am_fs, am_cd, am_NM, am_sz, am_code, am_step, am_ldc, am_bin, am_div, am_un, am_iload, am_aload, am_istore, am_astore, am_iinc, am_j1, am_j2, am_jr, am_dup, am_dup2, am_pop, am_ret, am_rt, am_rc, am_ml, am_slen, am_schr, am_m1, am_m2, ty_getf, ty_pi, ty_p0, ty_p1, ty_alen, ty_iald, ty_bald, ty_cald, ty_iast, ty_bast, ty_cast, ty_aald, ty_tald, ty_copy, ty_c1, ty_c2, ty_c3, ty_c4, ty_c5, ty_c6, ty_c7, ty_c8, ty_c9, ty_c10, ty_s0, ty_s1, ty_s2, ty_s3, ty_s4, ty_s5, ty_s6, List.mem_cons, List.not_mem_nil, or_false, false_or, or_true, true_or, and_true, true_and, and_self, Nat.reduceLT, Nat.reduceLeDiff, Nat.reduceEqDiff, Nat.add_eq_left, Nat.reduceAdd, Nat.reduceSub, ↓reduceIte, reduceCtorEq, List.getElem?_cons_zero, List.getElem?_cons_succ, List.set_cons_zero, List.set_cons_succ, List.length_cons, List.length_nil, List.take_succ_cons, List.take_zero, List.drop_succ_cons, List.drop_zero, List.reverse_cons, List.reverse_nil, List.nil_append, List.cons_append, am_entry, List.map_cons, List.map_nil, List.replicate_zero, List.replicate_succ, List.append_nil, decide_eq_true_eq, eq_self, am_ty, am_nf, wf_1, wf_2, wa_1, wa_2, wa_3, wr_1, wr_2, wr_3, ty_q0, ty_q1, ty_q2, i_if, ac_42, kc_70, lv_70_0, lv_70_1, lv_70_2, lv_70_3, lv_70_4, lv_70_5, lv_70_6, li_70_6, lv_70_7, lv_70_8, lv_70_9, li_70_9, lv_70_10, li_70_10, kc_71, kn_71, hT.1, hU.1, r1, r2, u9, ly_vi u9, nb2, t9, ly_vi t9, na2]
    simp (disch := first | omega | assumption) only [↓mI_i, li_0, li_1, li_2, li_3, li_4, li_5, li_6, li_7, li_8, li_9, li_10, li_16, li_20, li_24, li_31, li_32, li_43, li_44, li_45, li_46, li_48, li_57, li_62, li_64, li_97, li_99, li_100, li_200, li_201, li_202, li_255, li_401, li_500, li_2000, li_5980, li_6000, li_6002, li_9000, li_10000, li_20000, li_40401, li_100000, li_1000000, nI_leI, nI_ltI, nI_eq, mI_eq, mI_eq2, mI_lt, mI_le, mI_gt, mI_ge, nI_m1, nI_add, pk_sub, pk_mul, nI_clamp, bq0, bq1, ite_not, Classical.not_not, or_false, false_or, or_self, not_true_eq_false, not_false_eq_true, ↓reduceIte, ite_true, ite_false, true_or, or_true, and_true, true_and, ne_eq, if_pos, if_neg]
    refine lp_fill2 hT hU ht hu (lnum A) _ _ _ σ (by rw [pI_d]) (Nat.le_refl _) r1 r2 xt xu ?_ hQ
    intro x y hx hy hxy
    obtain rfl : x = lnum A := by omega
    rw [hL y (by omega), lcs_a (Nat.le_refl _)]
  | succ d ih =>
    intro j σ hj r1 r2 xt xu hL hQ
    have na := xt.2.2.2.2.2.1
    have nb := xu.2.2.2.2.2.1
    have na2 := xt.2.2.2.2.1
    have nb2 := xu.2.2.2.2.1
    have t9 := hT.2.2.2.2.2.1
    have u9 := hU.2.2.2.2.2.1
    rw [go_to [2, 48]]; simp only [gs_u, fns_if, fns_nx, fns_no, fns_rt, fns_cl, am_fs, am_cd, am_NM, am_sz, am_code, am_step, am_ldc, am_bin, am_div, am_un, am_iload, am_aload, am_istore, am_astore, am_iinc, am_j1, am_j2, am_jr, am_dup, am_dup2, am_pop, am_ret, am_rt, am_rc, am_ml, am_slen, am_schr, am_m1, am_m2, ty_getf, ty_pi, ty_p0, ty_p1, ty_alen, ty_iald, ty_bald, ty_cald, ty_iast, ty_bast, ty_cast, ty_aald, ty_tald, ty_copy, ty_c1, ty_c2, ty_c3, ty_c4, ty_c5, ty_c6, ty_c7, ty_c8, ty_c9, ty_c10, ty_s0, ty_s1, ty_s2, ty_s3, ty_s4, ty_s5, ty_s6, List.mem_cons, List.not_mem_nil, or_false, false_or, or_true, true_or, and_true, true_and, and_self, Nat.reduceLT, Nat.reduceLeDiff, Nat.reduceEqDiff, Nat.add_eq_left, Nat.reduceAdd, Nat.reduceSub, ↓reduceIte, reduceCtorEq, List.getElem?_cons_zero, List.getElem?_cons_succ, List.set_cons_zero, List.set_cons_succ, List.length_cons, List.length_nil, List.take_succ_cons, List.take_zero, List.drop_succ_cons, List.drop_zero, List.reverse_cons, List.reverse_nil, List.nil_append, List.cons_append, am_entry, List.map_cons, List.map_nil, List.replicate_zero, List.replicate_succ, List.append_nil, decide_eq_true_eq, eq_self, am_ty, am_nf, wf_1, wf_2, wa_1, wa_2, wa_3, wr_1, wr_2, wr_3, ty_q0, ty_q1, ty_q2, i_if, ac_42, kc_70, lv_70_0, lv_70_1, lv_70_2, lv_70_3, lv_70_4, lv_70_5, lv_70_6, li_70_6, lv_70_7, lv_70_8, lv_70_9, li_70_9, lv_70_10, li_70_10, kc_71, kn_71, hT.1, hU.1, r1, r2, u9, ly_vi u9, nb2, t9, ly_vi t9, na2]
    simp (disch := first | omega | assumption) only [↓mI_i, li_0, li_1, li_2, li_3, li_4, li_5, li_6, li_7, li_8, li_9, li_10, li_16, li_20, li_24, li_31, li_32, li_43, li_44, li_45, li_46, li_48, li_57, li_62, li_64, li_97, li_99, li_100, li_200, li_201, li_202, li_255, li_401, li_500, li_2000, li_5980, li_6000, li_6002, li_9000, li_10000, li_20000, li_40401, li_100000, li_1000000, nI_leI, nI_ltI, nI_eq, mI_eq, mI_eq2, mI_lt, mI_le, mI_gt, mI_ge, nI_m1, nI_add, pk_sub, pk_mul, nI_clamp, bq0, bq1, ite_not, Classical.not_not, or_false, false_or, or_self, not_true_eq_false, not_false_eq_true, ↓reduceIte, ite_true, ite_false, true_or, or_true, and_true, true_and, ne_eq, if_pos, if_neg]
    generalize hσ : wa σ 71 (upd (σ.2.1 71) (lnum A * 201 + j) (nI 0)) = σ2
    have hf : fr 71 71 σ σ2 := by rw [← hσ]; exact fr_wa (by omega)
    refine ih (j + 1) σ2 (by omega) (by rw [hf.2.2]; exact r1) (by rw [hf.2.2]; exact r2) (Tx_fr xt hf (by omega)) (Tx_fr xu hf (by omega)) (fun y hy => ?_) (fun τ hτ hf2 => hQ τ hτ (fr_trans hf hf2))
    rw [← hσ, wa_2, if_pos rfl]
    unfold upd
    by_cases q : y = j
    · rw [if_pos (by rw [q])]
    · rw [if_neg (by omega)]
      exact hL y (by omega)
theorem sx_fillLongest {σ : am_M} (hT : is_T t) (hU : is_T u) (ht : 76 < t ∨ t + 4 < 70) (hu : 76 < u ∨ u + 4 < 70) (r1 : σ.2.2 2 = t) (r2 : σ.2.2 3 = u) (xt : Tx σ t A) (xu : Tx σ u B) (hQ : ∀ τ, Lp τ A B 0 0 → fr 71 71 σ τ → Q none (hh τ)) : am_Go X 42 0 [some (.ref 70), none, none, none] [] (hh σ) Q := by
  rw [go_to [2]]; simp only [gs_u, fns_if, fns_nx, fns_no, fns_rt, fns_cl, am_fs, am_cd, am_NM, am_sz, am_code, am_step, am_ldc, am_bin, am_div, am_un, am_iload, am_aload, am_istore, am_astore, am_iinc, am_j1, am_j2, am_jr, am_dup, am_dup2, am_pop, am_ret, am_rt, am_rc, am_ml, am_slen, am_schr, am_m1, am_m2, ty_getf, ty_pi, ty_p0, ty_p1, ty_alen, ty_iald, ty_bald, ty_cald, ty_iast, ty_bast, ty_cast, ty_aald, ty_tald, ty_copy, ty_c1, ty_c2, ty_c3, ty_c4, ty_c5, ty_c6, ty_c7, ty_c8, ty_c9, ty_c10, ty_s0, ty_s1, ty_s2, ty_s3, ty_s4, ty_s5, ty_s6, List.mem_cons, List.not_mem_nil, or_false, false_or, or_true, true_or, and_true, true_and, and_self, Nat.reduceLT, Nat.reduceLeDiff, Nat.reduceEqDiff, Nat.add_eq_left, Nat.reduceAdd, Nat.reduceSub, ↓reduceIte, reduceCtorEq, List.getElem?_cons_zero, List.getElem?_cons_succ, List.set_cons_zero, List.set_cons_succ, List.length_cons, List.length_nil, List.take_succ_cons, List.take_zero, List.drop_succ_cons, List.drop_zero, List.reverse_cons, List.reverse_nil, List.nil_append, List.cons_append, am_entry, List.map_cons, List.map_nil, List.replicate_zero, List.replicate_succ, List.append_nil, decide_eq_true_eq, eq_self, am_ty, am_nf, wf_1, wf_2, wa_1, wa_2, wa_3, wr_1, wr_2, wr_3, ty_q0, ty_q1, ty_q2, i_if, ac_42, kc_70, lv_70_0, lv_70_1, lv_70_2, lv_70_3, lv_70_4, lv_70_5, lv_70_6, li_70_6, lv_70_7, lv_70_8, lv_70_9, li_70_9, lv_70_10, li_70_10]
  exact lp_fill1 hT hU ht hu (lnum B + 1) 0 σ (by omega) r1 r2 xt xu (fun y hy => absurd hy (Nat.not_lt_zero y)) hQ
set_option maxRecDepth 100000 in
set_option maxHeartbeats 4000000 in
theorem sx_goesAt {σ : am_M} {i j : Nat} (hT : is_T t) (hU : is_T u) (r1 : σ.2.2 2 = t) (r2 : σ.2.2 3 = u) (xt : Tx σ t A) (xu : Tx σ u B) (hL : Lp σ A B 0 0) (hi : i ≤ lnum A) (hj : j ≤ lnum B) : am_Go X 44 0 [some (.ref 70), some (.int (nI i)), some (.int (nI j))] [] (hh σ) Q = Q (some (.int (if goes A B i j then nI 1 else nI 0))) (hh σ) := by
  have na := xt.2.2.2.2.2.1
  have nb := xu.2.2.2.2.2.1
  have na2 := xt.2.2.2.2.1
  have nb2 := xu.2.2.2.2.1
  have t9 := hT.2.2.2.2.2.1
  have u9 := hU.2.2.2.2.2.1
  rw [go_to []]; simp only [gs_u, fns_if, fns_nx, fns_no, fns_rt, fns_cl, am_fs, am_cd, am_NM, am_sz, am_code, am_step, am_ldc, am_bin, am_div, am_un, am_iload, am_aload, am_istore, am_astore, am_iinc, am_j1, am_j2, am_jr, am_dup, am_dup2, am_pop, am_ret, am_rt, am_rc, am_ml, am_slen, am_schr, am_m1, am_m2, ty_getf, ty_pi, ty_p0, ty_p1, ty_alen, ty_iald, ty_bald, ty_cald, ty_iast, ty_bast, ty_cast, ty_aald, ty_tald, ty_copy, ty_c1, ty_c2, ty_c3, ty_c4, ty_c5, ty_c6, ty_c7, ty_c8, ty_c9, ty_c10, ty_s0, ty_s1, ty_s2, ty_s3, ty_s4, ty_s5, ty_s6, List.mem_cons, List.not_mem_nil, or_false, false_or, or_true, true_or, and_true, true_and, and_self, Nat.reduceLT, Nat.reduceLeDiff, Nat.reduceEqDiff, Nat.add_eq_left, Nat.reduceAdd, Nat.reduceSub, ↓reduceIte, reduceCtorEq, List.getElem?_cons_zero, List.getElem?_cons_succ, List.set_cons_zero, List.set_cons_succ, List.length_cons, List.length_nil, List.take_succ_cons, List.take_zero, List.drop_succ_cons, List.drop_zero, List.reverse_cons, List.reverse_nil, List.nil_append, List.cons_append, am_entry, List.map_cons, List.map_nil, List.replicate_zero, List.replicate_succ, List.append_nil, decide_eq_true_eq, eq_self, am_ty, am_nf, wf_1, wf_2, wa_1, wa_2, wa_3, wr_1, wr_2, wr_3, ty_q0, ty_q1, ty_q2, i_if, ac_44, kc_70, lv_70_0, lv_70_1, lv_70_2, lv_70_3, lv_70_4, lv_70_5, lv_70_6, li_70_6, lv_70_7, lv_70_8, lv_70_9, li_70_9, lv_70_10, li_70_10, kc_71, kn_71, hT.1, hU.1, r1, r2, u9, ly_vi u9, nb2, t9, ly_vi t9, na2]
  simp (disch := first | omega | assumption) only [↓mI_i, li_0, li_1, li_2, li_3, li_4, li_5, li_6, li_7, li_8, li_9, li_10, li_16, li_20, li_24, li_31, li_32, li_43, li_44, li_45, li_46, li_48, li_57, li_62, li_64, li_97, li_99, li_100, li_200, li_201, li_202, li_255, li_401, li_500, li_2000, li_5980, li_6000, li_6002, li_9000, li_10000, li_20000, li_40401, li_100000, li_1000000, nI_leI, nI_ltI, nI_eq, mI_eq, mI_eq2, mI_lt, mI_le, mI_gt, mI_ge, nI_m1, nI_add, pk_sub, pk_mul, nI_clamp, bq0, bq1, ite_not, Classical.not_not, or_false, false_or, or_self, not_true_eq_false, not_false_eq_true, ↓reduceIte, ite_true, ite_false, true_or, or_true, and_true, true_and, ne_eq, if_pos, if_neg]
  by_cases h1 : i < lnum A
  case neg =>
    simp (disch := first | omega | assumption) only [↓mI_i, li_0, li_1, li_2, li_3, li_4, li_5, li_6, li_7, li_8, li_9, li_10, li_16, li_20, li_24, li_31, li_32, li_43, li_44, li_45, li_46, li_48, li_57, li_62, li_64, li_97, li_99, li_100, li_200, li_201, li_202, li_255, li_401, li_500, li_2000, li_5980, li_6000, li_6002, li_9000, li_10000, li_20000, li_40401, li_100000, li_1000000, nI_leI, nI_ltI, nI_eq, mI_eq, mI_eq2, mI_lt, mI_le, mI_gt, mI_ge, nI_m1, nI_add, pk_sub, pk_mul, nI_clamp, bq0, bq1, ite_not, Classical.not_not, or_false, false_or, or_self, not_true_eq_false, not_false_eq_true, ↓reduceIte, ite_true, ite_false, true_or, or_true, and_true, true_and, ne_eq, if_pos, if_neg]
  by_cases h2 : j < lnum B
  case neg =>
    simp (disch := first | omega | assumption) only [↓mI_i, li_0, li_1, li_2, li_3, li_4, li_5, li_6, li_7, li_8, li_9, li_10, li_16, li_20, li_24, li_31, li_32, li_43, li_44, li_45, li_46, li_48, li_57, li_62, li_64, li_97, li_99, li_100, li_200, li_201, li_202, li_255, li_401, li_500, li_2000, li_5980, li_6000, li_6002, li_9000, li_10000, li_20000, li_40401, li_100000, li_1000000, nI_leI, nI_ltI, nI_eq, mI_eq, mI_eq2, mI_lt, mI_le, mI_gt, mI_ge, nI_m1, nI_add, pk_sub, pk_mul, nI_clamp, bq0, bq1, ite_not, Classical.not_not, or_false, false_or, or_self, not_true_eq_false, not_false_eq_true, ↓reduceIte, ite_true, ite_false, true_or, or_true, and_true, true_and, ne_eq, if_pos, if_neg]
  have l2 := lcs_le (A := A) (B := B) (i := i + 1) (j := j)
  have l3 := lcs_le (A := A) (B := B) (i := i) (j := j + 1)
  have c2 := hL (i + 1) j (by omega) (by omega) (by omega)
  have c3 := hL i (j + 1) (by omega) (by omega) (by omega)
  rw [show i * 201 + (j + 1) = i * 201 + j + 1 by omega] at c3
  simp (disch := first | omega | assumption) only [↓mI_i, li_0, li_1, li_2, li_3, li_4, li_5, li_6, li_7, li_8, li_9, li_10, li_16, li_20, li_24, li_31, li_32, li_43, li_44, li_45, li_46, li_48, li_57, li_62, li_64, li_97, li_99, li_100, li_200, li_201, li_202, li_255, li_401, li_500, li_2000, li_5980, li_6000, li_6002, li_9000, li_10000, li_20000, li_40401, li_100000, li_1000000, nI_leI, nI_ltI, nI_eq, mI_eq, mI_eq2, mI_lt, mI_le, mI_gt, mI_ge, nI_m1, nI_add, pk_sub, pk_mul, nI_clamp, bq0, bq1, ite_not, Classical.not_not, or_false, false_or, or_self, not_true_eq_false, not_false_eq_true, ↓reduceIte, ite_true, ite_false, true_or, or_true, and_true, true_and, ne_eq, if_pos, if_neg, c2, c3]
  by_cases h3 : lcs A B i (j + 1) ≤ lcs A B (i + 1) j
  · rw [if_neg (by omega), if_pos (⟨h1, Or.inr h3⟩ : goes A B i j)]
  · rw [if_pos (by omega), if_neg (fun z => by rcases z.2 with q | q <;> omega)]
end CP
