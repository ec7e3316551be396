/-! lines gathered in a row that may be full -/
def cl (e : Bool) : List Int32 := if e then [10] else []
def ad1 (f : Nat → Int32) (i j : Nat) (s : List Int32 × Bool) : List Int32 × Bool := (s.1 ++ (cl s.2 ++ slc f i (j - i)), decide (opE f i j))
def adL (l : List Int32) : Nat → Nat → List Int32 × Bool → List Int32 × Bool
  | 0, _, s => s
  | k + 1, i, s => adL l k (i + 1) (ad1 (gl l) (lsta l i) (lsta l (i + 1)) s)
def Ac (σ : am_M) (a : Nat) (s : List Int32 × Bool) : Prop := (∃ m, σ.1 a 1 = nI m ∧ m ≤ ly_n (a + 1)) ∧ (σ.1 a 3 = nI 0 ∨ σ.1 a 3 = nI 1) ∧ ((σ.1 a 2 = nI 0 ∧ Bt σ a s.1 ∧ σ.1 a 3 = (if s.2 = true then nI 1 else nI 0)) ∨ (σ.1 a 2 = nI 1 ∧ ly_n (a + 1) < s.1.length))
theorem isb_10 : isb [10] := isb_1 (by decide)
theorem isb_cl (e : Bool) : isb (cl e) := by
  unfold cl
  split
  · exact isb_10
  · exact isb_nil
section AC
variable {X : am_X} {σ : am_M} {t a : Nat} {s : List Int32 × Bool} {Q : Option Value → am_H → Prop}
set_option maxRecDepth 100000 in
set_option maxHeartbeats 4000000 in
theorem sx_Bytes_add_full {v : Int32} (hB : is_B a) (hn : σ.1 a 1 = nI (ly_n (a + 1))) (hc : ly_n (a + 1) < 2 ^ 30) : am_Go X 14 0 [some (.ref a), some (.int v)] [] (hh σ) Q = Q none (hh (wf σ a 2 (nI 1))) := by
  obtain ⟨h1, h2, h3, h4, h5, h6⟩ := hB
  rw [go_to []]; simp only [gs_u, fns_if, fns_nx, fns_no, fns_rt, fns_cl, am_fs, am_cd, am_NM, am_sz, am_code, am_step, am_ldc, am_bin, am_div, am_un, am_iload, am_aload, am_istore, am_astore, am_iinc, am_j1, am_j2, am_jr, am_dup, am_dup2, am_pop, am_ret, am_rt, am_rc, am_ml, am_slen, am_schr, am_m1, am_m2, ty_getf, ty_pi, ty_p0, ty_p1, ty_alen, ty_iald, ty_bald, ty_cald, ty_iast, ty_bast, ty_cast, ty_aald, ty_tald, ty_copy, ty_c1, ty_c2, ty_c3, ty_c4, ty_c5, ty_c6, ty_c7, ty_c8, ty_c9, ty_c10, ty_s0, ty_s1, ty_s2, ty_s3, ty_s4, ty_s5, ty_s6, List.mem_cons, List.not_mem_nil, or_false, false_or, or_true, true_or, and_true, true_and, and_self, Nat.reduceLT, Nat.reduceLeDiff, Nat.reduceEqDiff, Nat.add_eq_left, Nat.reduceAdd, Nat.reduceSub, ↓reduceIte, reduceCtorEq, List.getElem?_cons_zero, List.getElem?_cons_succ, List.set_cons_zero, List.set_cons_succ, List.length_cons, List.length_nil, List.take_succ_cons, List.take_zero, List.drop_succ_cons, List.drop_zero, List.reverse_cons, List.reverse_nil, List.nil_append, List.cons_append, am_entry, List.map_cons, List.map_nil, List.replicate_zero, List.replicate_succ, List.append_nil, decide_eq_true_eq, eq_self, am_ty, am_nf, wf_1, wf_2, wa_1, wa_2, wa_3, wr_1, wr_2, wr_3, ty_q0, ty_q1, ty_q2, i_if, ac_14, aty1, h1, h2, h3, h4, h5, h6, ly_vi h4, ly_vi h5, ly_vi h6, hn, vp_b8]
  simp (disch := first | omega | assumption) only [↓mI_i, li_0, li_1, li_2, li_3, li_4, li_5, li_6, li_7, li_8, li_9, li_10, li_16, li_20, li_24, li_31, li_32, li_43, li_44, li_45, li_46, li_48, li_57, li_62, li_64, li_97, li_99, li_100, li_200, li_201, li_202, li_255, li_401, li_500, li_2000, li_5980, li_6000, li_6002, li_9000, li_10000, li_20000, li_40401, li_100000, li_1000000, nI_leI, nI_ltI, nI_eq, mI_eq, mI_eq2, mI_lt, mI_le, mI_gt, mI_ge, nI_m1, nI_add, pk_sub, pk_mul, nI_clamp, bq0, bq1, ite_not, Classical.not_not, or_false, false_or, or_self, not_true_eq_false, not_false_eq_true, ↓reduceIte, ite_true, ite_false, true_or, or_true, and_true, true_and, ne_eq, if_pos, if_neg]
theorem Ac_app {L : List Int32} {m : Nat} (h : Ac σ a s) (hm : σ.1 a 1 = nI m) (hmc : m < 2 ^ 30) (hc : ly_n (a + 1) < 2 ^ 30) (hf : m + L.length ≤ ly_n (a + 1)) (hL : isb L) : Ac (app σ a m L) a (s.1 ++ L, s.2) := by
  obtain ⟨-, h2, h3⟩ := h
  have e3 : (app σ a m L).1 a 3 = σ.1 a 3 := app_fi (by omega)
  have e2 : (app σ a m L).1 a 2 = σ.1 a 2 := app_fi (by omega)
  refine ⟨⟨_, app_len, hf⟩, by rw [e3]; exact h2, ?_⟩
  rw [e2, e3]
  rcases h3 with ⟨g1, g2, g3⟩ | ⟨g1, g2⟩
  · refine Or.inl ⟨g1, ?_, g3⟩
    have : m = s.1.length := (nI_eq (by omega) (by have := g2.2.1; omega)).mp (by rw [← hm, g2.1])
    subst this
    exact Bt_app g2 hL hf
  · exact Or.inr ⟨g1, by simp only [List.length_append]; omega⟩
theorem Ac_full {L : List Int32} {m : Nat} (h : Ac σ a s) (hm : σ.1 a 1 = nI m) (hmc : m < 2 ^ 30) (hc : ly_n (a + 1) < 2 ^ 30) (hf : ly_n (a + 1) < m + L.length) : Ac (wf σ a 2 (nI 1)) a (s.1 ++ L, s.2) := by
  obtain ⟨h1, h2, h3⟩ := h
  refine ⟨?_, ?_, Or.inr ⟨by simp [wf], ?_⟩⟩
  · obtain ⟨k, q1, q2⟩ := h1
    exact ⟨k, by simp [wf, q1], q2⟩
  · simpa [wf] using h2
  · rcases h3 with ⟨g1, g2, g3⟩ | ⟨g1, g2⟩
    · have : m = s.1.length := (nI_eq (by omega) (by have := g2.2.1; omega)).mp (by rw [← hm, g2.1])
      simp only [List.length_append]
      omega
    · simp only [List.length_append]
      omega
theorem sa_add {v : Int32} (hB : is_B a) (hc : ly_n (a + 1) < 2 ^ 30) (h : Ac σ a s) (hv : b8 v = v) (hQ : ∀ τ, Ac τ a (s.1 ++ [v], s.2) → fr a (a + 1) σ τ → Q none (hh τ)) : am_Go X 14 0 [some (.ref a), some (.int v)] [] (hh σ) Q := by
  obtain ⟨m, q1, q2⟩ := h.1
  by_cases hf : m < ly_n (a + 1)
  · rw [sp_Bytes_add hB q1 hf (by omega), hv]
    exact hQ _ (Ac_app h q1 (by omega) hc (by simp only [List.length_cons, List.length_nil]; omega) (isb_1 hv)) (fr_app (by omega))
  · have e : m = ly_n (a + 1) := by omega
    subst e
    rw [sx_Bytes_add_full hB q1 hc]
    exact hQ _ (Ac_full h q1 (by omega) hc (by simp only [List.length_cons, List.length_nil]; omega)) (fr_wf (by omega))
theorem Ac_flag {L : List Int32} {e e2 : Bool} (q : Ac σ a (L, e)) : Ac (wf σ a 3 (if e2 = true then nI 1 else nI 0)) a (L, e2) := by
  obtain ⟨⟨m, q1, q2⟩, -, q4⟩ := q
  refine ⟨⟨m, by simp [wf, q1], q2⟩, by simp only [wf_1, and_self, ↓reduceIte]; cases e2 <;> simp, ?_⟩
  rcases q4 with ⟨z1, z2, z3⟩ | ⟨z1, z2⟩
  · exact Or.inl ⟨by simpa [wf] using z1, Bt_of z2 (by simp [wf]) rfl, by simp [wf]⟩
  · exact Or.inr ⟨by simpa [wf] using z1, z2⟩
theorem Ac_full2 {L L2 : List Int32} {e e2 : Bool} (q : Ac σ a (L, e)) (h : σ.1 a 2 = nI 1) (h2 : ly_n (a + 1) < L2.length) : Ac σ a (L2, e2) := ⟨q.1, q.2.1, Or.inr ⟨h, h2⟩⟩
set_option maxRecDepth 100000 in
set_option maxHeartbeats 4000000 in
theorem sa_closeLine (hB : is_B a) (hc : ly_n (a + 1) < 2 ^ 30) (h : Ac σ a s) (hQ : ∀ τ, Ac τ a (s.1 ++ cl s.2, false) → fr a (a + 1) σ τ → Q none (hh τ)) : am_Go X 20 0 [some (.ref a)] [] (hh σ) Q := by
  have hB0 := hB
  obtain ⟨h1, h2, h3, h4, h5, h6⟩ := hB
  rw [go_to []]; simp only [gs_u, fns_if, fns_nx, fns_no, fns_rt, fns_cl, am_fs, am_cd, am_NM, am_sz, am_code, am_step, am_ldc, am_bin, am_div, am_un, am_iload, am_aload, am_istore, am_astore, am_iinc, am_j1, am_j2, am_jr, am_dup, am_dup2, am_pop, am_ret, am_rt, am_rc, am_ml, am_slen, am_schr, am_m1, am_m2, ty_getf, ty_pi, ty_p0, ty_p1, ty_alen, ty_iald, ty_bald, ty_cald, ty_iast, ty_bast, ty_cast, ty_aald, ty_tald, ty_copy, ty_c1, ty_c2, ty_c3, ty_c4, ty_c5, ty_c6, ty_c7, ty_c8, ty_c9, ty_c10, ty_s0, ty_s1, ty_s2, ty_s3, ty_s4, ty_s5, ty_s6, List.mem_cons, List.not_mem_nil, or_false, false_or, or_true, true_or, and_true, true_and, and_self, Nat.reduceLT, Nat.reduceLeDiff, Nat.reduceEqDiff, Nat.add_eq_left, Nat.reduceAdd, Nat.reduceSub, ↓reduceIte, reduceCtorEq, List.getElem?_cons_zero, List.getElem?_cons_succ, List.set_cons_zero, List.set_cons_succ, List.length_cons, List.length_nil, List.take_succ_cons, List.take_zero, List.drop_succ_cons, List.drop_zero, List.reverse_cons, List.reverse_nil, List.nil_append, List.cons_append, am_entry, List.map_cons, List.map_nil, List.replicate_zero, List.replicate_succ, List.append_nil, decide_eq_true_eq, eq_self, am_ty, am_nf, wf_1, wf_2, wa_1, wa_2, wa_3, wr_1, wr_2, wr_3, ty_q0, ty_q1, ty_q2, i_if, ac_20, aty1, h1, h4, h5, h6, ly_vi h4, ly_vi h5, ly_vi h6]
  simp (disch := first | omega | assumption) only [↓mI_i, li_0, li_1, li_2, li_3, li_4, li_5, li_6, li_7, li_8, li_9, li_10, li_16, li_20, li_24, li_31, li_32, li_43, li_44, li_45, li_46, li_48, li_57, li_62, li_64, li_97, li_99, li_100, li_200, li_201, li_202, li_255, li_401, li_500, li_2000, li_5980, li_6000, li_6002, li_9000, li_10000, li_20000, li_40401, li_100000, li_1000000, nI_leI, nI_ltI, nI_eq, mI_eq, mI_eq2, mI_lt, mI_le, mI_gt, mI_ge, nI_m1, nI_add, pk_sub, pk_mul, nI_clamp, bq0, bq1, ite_not, Classical.not_not, or_false, false_or, or_self, not_true_eq_false, not_false_eq_true, ↓reduceIte, ite_true, ite_false, true_or, or_true, and_true, true_and, ne_eq, if_pos, if_neg]
  have h0 := h
  obtain ⟨g1, g2, g3⟩ := h0
  rcases g2 with g2 | g2
  · rw [g2]
    simp (disch := first | omega | assumption) only [↓mI_i, li_0, li_1, li_2, li_3, li_4, li_5, li_6, li_7, li_8, li_9, li_10, li_16, li_20, li_24, li_31, li_32, li_43, li_44, li_45, li_46, li_48, li_57, li_62, li_64, li_97, li_99, li_100, li_200, li_201, li_202, li_255, li_401, li_500, li_2000, li_5980, li_6000, li_6002, li_9000, li_10000, li_20000, li_40401, li_100000, li_1000000, nI_leI, nI_ltI, nI_eq, mI_eq, mI_eq2, mI_lt, mI_le, mI_gt, mI_ge, nI_m1, nI_add, pk_sub, pk_mul, nI_clamp, bq0, bq1, ite_not, Classical.not_not, or_false, false_or, or_self, not_true_eq_false, not_false_eq_true, ↓reduceIte, ite_true, ite_false, true_or, or_true, and_true, true_and, ne_eq, if_pos, if_neg]
    refine hQ _ ?_ (fr_wf (by omega))
    refine Ac_flag (e := s.2) (e2 := false) ?_
    rcases g3 with ⟨z1, z2, z3⟩ | ⟨z1, z2⟩
    · have hs : s.2 = false := by
        rw [g2] at z3
        cases hs : s.2 with
        | false => rfl
        | true => rw [hs] at z3; exact absurd z3 (by decide)
      have e : s.1 ++ cl s.2 = s.1 := by rw [hs]; exact List.append_nil _
      rw [e]
      exact h
    · exact Ac_full2 (L := s.1) (e := s.2) h z1 (by simp only [List.length_append]; omega)
  · rw [g2]
    simp (disch := first | omega | assumption) only [↓mI_i, li_0, li_1, li_2, li_3, li_4, li_5, li_6, li_7, li_8, li_9, li_10, li_16, li_20, li_24, li_31, li_32, li_43, li_44, li_45, li_46, li_48, li_57, li_62, li_64, li_97, li_99, li_100, li_200, li_201, li_202, li_255, li_401, li_500, li_2000, li_5980, li_6000, li_6002, li_9000, li_10000, li_20000, li_40401, li_100000, li_1000000, nI_leI, nI_ltI, nI_eq, mI_eq, mI_eq2, mI_lt, mI_le, mI_gt, mI_ge, nI_m1, nI_add, pk_sub, pk_mul, nI_clamp, bq0, bq1, ite_not, Classical.not_not, or_false, false_or, or_self, not_true_eq_false, not_false_eq_true, ↓reduceIte, ite_true, ite_false, true_or, or_true, and_true, true_and, ne_eq, if_pos, if_neg]
    refine sa_add (s := s) hB0 hc h (by decide) (fun τ hτ hf => ?_)
    dsimp only [am_push]
    rw [go_to []]; simp only [gs_u, fns_if, fns_nx, fns_no, fns_rt, fns_cl, am_fs, am_cd, am_NM, am_sz, am_code, am_step, am_ldc, am_bin, am_div, am_un, am_iload, am_aload, am_istore, am_astore, am_iinc, am_j1, am_j2, am_jr, am_dup, am_dup2, am_pop, am_ret, am_rt, am_rc, am_ml, am_slen, am_schr, am_m1, am_m2, ty_getf, ty_pi, ty_p0, ty_p1, ty_alen, ty_iald, ty_bald, ty_cald, ty_iast, ty_bast, ty_cast, ty_aald, ty_tald, ty_copy, ty_c1, ty_c2, ty_c3, ty_c4, ty_c5, ty_c6, ty_c7, ty_c8, ty_c9, ty_c10, ty_s0, ty_s1, ty_s2, ty_s3, ty_s4, ty_s5, ty_s6, List.mem_cons, List.not_mem_nil, or_false, false_or, or_true, true_or, and_true, true_and, and_self, Nat.reduceLT, Nat.reduceLeDiff, Nat.reduceEqDiff, Nat.add_eq_left, Nat.reduceAdd, Nat.reduceSub, ↓reduceIte, reduceCtorEq, List.getElem?_cons_zero, List.getElem?_cons_succ, List.set_cons_zero, List.set_cons_succ, List.length_cons, List.length_nil, List.take_succ_cons, List.take_zero, List.drop_succ_cons, List.drop_zero, List.reverse_cons, List.reverse_nil, List.nil_append, List.cons_append, am_entry, List.map_cons, List.map_nil, List.replicate_zero, List.replicate_succ, List.append_nil, decide_eq_true_eq, eq_self, am_ty, am_nf, wf_1, wf_2, wa_1, wa_2, wa_3, wr_1, wr_2, wr_3, ty_q0, ty_q1, ty_q2, i_if, ac_20, aty1, h1, h4, h5, h6, ly_vi h4, ly_vi h5, ly_vi h6]
    refine hQ _ ?_ (fr_trans hf (fr_wf (by omega)))
    refine Ac_flag (e := s.2) (e2 := false) ?_
    rcases g3 with ⟨z1, z2, z3⟩ | ⟨z1, z2⟩
    · have hs : s.2 = true := by
        rw [g2] at z3
        cases hs : s.2 with
        | true => rfl
        | false => rw [hs] at z3; exact absurd z3 (by decide)
      have e : cl s.2 = [nI 10] := by rw [hs]; rfl
      rw [e]
      exact hτ
    · obtain ⟨-, -, q4⟩ := id hτ
      rcases q4 with ⟨y1, y2, y3⟩ | ⟨y1, y2⟩
      · have := y2.2.1
        simp only [List.length_append] at this
        omega
      · exact Ac_full2 hτ y1 (by simp only [List.length_append]; omega)
set_option maxRecDepth 100000 in
set_option maxHeartbeats 4000000 in
theorem sa_addSlice {b i j : Nat} {l : List Int32} (hB : is_B a) (hBb : is_B b) (hc : ly_n (a + 1) < 2 ^ 30) (h : Ac σ a s) (hb : Bt σ b l) (hcb : ly_n (b + 1) < 2 ^ 30) (hij : i ≤ j) (hj : j ≤ l.length) (hQ : ∀ τ, Ac τ a (s.1 ++ slc (gl l) i (j - i), s.2) → fr a (a + 1) σ τ → Q none (hh τ)) : am_Go X 18 0 [some (.ref a), some (.ref b), some (.int (nI i)), some (.int (nI j)), none] [] (hh σ) Q := by
  obtain ⟨m, q1, q2⟩ := h.1
  have hsl := Bt_sl hb (i := i) (k := j - i) (by omega)
  have hbn := hb.2.1
  by_cases hf : m + (j - i) ≤ ly_n (a + 1)
  · rw [sp_Bytes_addSlice hB hBb hb.1 hb.2.1 (by omega) hij hj q1 hf (by omega), hsl]
    exact hQ _ (Ac_app h q1 (by omega) hc (by rw [slc_len]; exact hf) (hsl ▸ isb_sl (Bt_b hb) (by omega))) (fr_app (by omega))
  · have hBb0 := hBb
    obtain ⟨h1, h2, h3, h4, h5, h6⟩ := hB
    obtain ⟨g1, g2, g3, g4, g5, g6⟩ := hBb
    have hm := hb.1
    rw [go_to []]; simp only [gs_u, fns_if, fns_nx, fns_no, fns_rt, fns_cl, am_fs, am_cd, am_NM, am_sz, am_code, am_step, am_ldc, am_bin, am_div, am_un, am_iload, am_aload, am_istore, am_astore, am_iinc, am_j1, am_j2, am_jr, am_dup, am_dup2, am_pop, am_ret, am_rt, am_rc, am_ml, am_slen, am_schr, am_m1, am_m2, ty_getf, ty_pi, ty_p0, ty_p1, ty_alen, ty_iald, ty_bald, ty_cald, ty_iast, ty_bast, ty_cast, ty_aald, ty_tald, ty_copy, ty_c1, ty_c2, ty_c3, ty_c4, ty_c5, ty_c6, ty_c7, ty_c8, ty_c9, ty_c10, ty_s0, ty_s1, ty_s2, ty_s3, ty_s4, ty_s5, ty_s6, List.mem_cons, List.not_mem_nil, or_false, false_or, or_true, true_or, and_true, true_and, and_self, Nat.reduceLT, Nat.reduceLeDiff, Nat.reduceEqDiff, Nat.add_eq_left, Nat.reduceAdd, Nat.reduceSub, ↓reduceIte, reduceCtorEq, List.getElem?_cons_zero, List.getElem?_cons_succ, List.set_cons_zero, List.set_cons_succ, List.length_cons, List.length_nil, List.take_succ_cons, List.take_zero, List.drop_succ_cons, List.drop_zero, List.reverse_cons, List.reverse_nil, List.nil_append, List.cons_append, am_entry, List.map_cons, List.map_nil, List.replicate_zero, List.replicate_succ, List.append_nil, decide_eq_true_eq, eq_self, am_ty, am_nf, wf_1, wf_2, wa_1, wa_2, wa_3, wr_1, wr_2, wr_3, ty_q0, ty_q1, ty_q2, i_if, ac_18, aty1, g1]
    rw [sp_Bytes_hasSlice hBb0, hm, if_pos ⟨nI_pos (by omega), nI_le hij (by omega), nI_le hj (by omega)⟩]
    dsimp only [am_push]
    rw [go_to []]; simp only [gs_u, fns_if, fns_nx, fns_no, fns_rt, fns_cl, am_fs, am_cd, am_NM, am_sz, am_code, am_step, am_ldc, am_bin, am_div, am_un, am_iload, am_aload, am_istore, am_astore, am_iinc, am_j1, am_j2, am_jr, am_dup, am_dup2, am_pop, am_ret, am_rt, am_rc, am_ml, am_slen, am_schr, am_m1, am_m2, ty_getf, ty_pi, ty_p0, ty_p1, ty_alen, ty_iald, ty_bald, ty_cald, ty_iast, ty_bast, ty_cast, ty_aald, ty_tald, ty_copy, ty_c1, ty_c2, ty_c3, ty_c4, ty_c5, ty_c6, ty_c7, ty_c8, ty_c9, ty_c10, ty_s0, ty_s1, ty_s2, ty_s3, ty_s4, ty_s5, ty_s6, List.mem_cons, List.not_mem_nil, or_false, false_or, or_true, true_or, and_true, true_and, and_self, Nat.reduceLT, Nat.reduceLeDiff, Nat.reduceEqDiff, Nat.add_eq_left, Nat.reduceAdd, Nat.reduceSub, ↓reduceIte, reduceCtorEq, List.getElem?_cons_zero, List.getElem?_cons_succ, List.set_cons_zero, List.set_cons_succ, List.length_cons, List.length_nil, List.take_succ_cons, List.take_zero, List.drop_succ_cons, List.drop_zero, List.reverse_cons, List.reverse_nil, List.nil_append, List.cons_append, am_entry, List.map_cons, List.map_nil, List.replicate_zero, List.replicate_succ, List.append_nil, decide_eq_true_eq, eq_self, am_ty, am_nf, wf_1, wf_2, wa_1, wa_2, wa_3, wr_1, wr_2, wr_3, ty_q0, ty_q1, ty_q2, i_if, ac_18, aty1, h1, h2, h3, h4, h5, g1, g2, g3, g4, ly_vi h4, ly_vi g4, q1, hm]
    simp (disch := first | omega | assumption) only [↓mI_i, li_0, li_1, li_2, li_3, li_4, li_5, li_6, li_7, li_8, li_9, li_10, li_16, li_20, li_24, li_31, li_32, li_43, li_44, li_45, li_46, li_48, li_57, li_62, li_64, li_97, li_99, li_100, li_200, li_201, li_202, li_255, li_401, li_500, li_2000, li_5980, li_6000, li_6002, li_9000, li_10000, li_20000, li_40401, li_100000, li_1000000, nI_leI, nI_ltI, nI_eq, mI_eq, mI_eq2, mI_lt, mI_le, mI_gt, mI_ge, nI_m1, nI_add, pk_sub, pk_mul, nI_clamp, bq0, bq1, ite_not, Classical.not_not, or_false, false_or, or_self, not_true_eq_false, not_false_eq_true, ↓reduceIte, ite_true, ite_false, true_or, or_true, and_true, true_and, ne_eq, if_pos, if_neg]
    exact hQ _ (Ac_full h q1 (by omega) hc (by rw [slc_len]; omega)) (fr_wf (by omega))
theorem opv_l {b i j : Nat} {l : List Int32} (hb : Bt σ b l) (hn : l.length < 2 ^ 30) (hij : i ≤ j) (hj : j ≤ l.length) : opv σ b l.length (nI i) (nI j) = (if opE (gl l) i j then nI 1 else nI 0) := by
  rw [opv_n (Bt_b hb) hj (by omega) hij]
  by_cases h : j ≤ i
  · rw [if_pos (Or.inl h), if_pos (Or.inl h)]; rfl
  · have e := hb.2.2.1 (j - 1) (by omega)
    unfold opE
    rw [e]
    rfl
set_option maxRecDepth 100000 in
set_option maxHeartbeats 4000000 in
theorem sa_addLine {b i j : Nat} {l : List Int32} (hB : is_B a) (hBb : is_B b) (hne : b + 1 < a ∨ a + 1 < b) (hc : ly_n (a + 1) < 2 ^ 30) (h : Ac σ a s) (hb : Bt σ b l) (hcb : ly_n (b + 1) < 2 ^ 30) (hij : i ≤ j) (hj : j ≤ l.length) (hQ : ∀ τ, Ac τ a (ad1 (gl l) i j s) → fr a (a + 1) σ τ → Q none (hh τ)) : am_Go X 19 0 [some (.ref a), some (.ref b), some (.int (nI i)), some (.int (nI j))] [] (hh σ) Q := by
  have hB0 := hB
  obtain ⟨h1, h2, h3, h4, h5, h6⟩ := hB
  have hbn := hb.2.1
  rw [go_to []]; simp only [gs_u, fns_if, fns_nx, fns_no, fns_rt, fns_cl, am_fs, am_cd, am_NM, am_sz, am_code, am_step, am_ldc, am_bin, am_div, am_un, am_iload, am_aload, am_istore, am_astore, am_iinc, am_j1, am_j2, am_jr, am_dup, am_dup2, am_pop, am_ret, am_rt, am_rc, am_ml, am_slen, am_schr, am_m1, am_m2, ty_getf, ty_pi, ty_p0, ty_p1, ty_alen, ty_iald, ty_bald, ty_cald, ty_iast, ty_bast, ty_cast, ty_aald, ty_tald, ty_copy, ty_c1, ty_c2, ty_c3, ty_c4, ty_c5, ty_c6, ty_c7, ty_c8, ty_c9, ty_c10, ty_s0, ty_s1, ty_s2, ty_s3, ty_s4, ty_s5, ty_s6, List.mem_cons, List.not_mem_nil, or_false, false_or, or_true, true_or, and_true, true_and, and_self, Nat.reduceLT, Nat.reduceLeDiff, Nat.reduceEqDiff, Nat.add_eq_left, Nat.reduceAdd, Nat.reduceSub, ↓reduceIte, reduceCtorEq, List.getElem?_cons_zero, List.getElem?_cons_succ, List.set_cons_zero, List.set_cons_succ, List.length_cons, List.length_nil, List.take_succ_cons, List.take_zero, List.drop_succ_cons, List.drop_zero, List.reverse_cons, List.reverse_nil, List.nil_append, List.cons_append, am_entry, List.map_cons, List.map_nil, List.replicate_zero, List.replicate_succ, List.append_nil, decide_eq_true_eq, eq_self, am_ty, am_nf, wf_1, wf_2, wa_1, wa_2, wa_3, wr_1, wr_2, wr_3, ty_q0, ty_q1, ty_q2, i_if, ac_19, aty1, h1, hBb.1]
  refine sa_closeLine hB0 hc h (fun τ hτ hf => ?_)
  dsimp only [am_push]
  rw [go_to []]; simp only [gs_u, fns_if, fns_nx, fns_no, fns_rt, fns_cl, am_fs, am_cd, am_NM, am_sz, am_code, am_step, am_ldc, am_bin, am_div, am_un, am_iload, am_aload, am_istore, am_astore, am_iinc, am_j1, am_j2, am_jr, am_dup, am_dup2, am_pop, am_ret, am_rt, am_rc, am_ml, am_slen, am_schr, am_m1, am_m2, ty_getf, ty_pi, ty_p0, ty_p1, ty_alen, ty_iald, ty_bald, ty_cald, ty_iast, ty_bast, ty_cast, ty_aald, ty_tald, ty_copy, ty_c1, ty_c2, ty_c3, ty_c4, ty_c5, ty_c6, ty_c7, ty_c8, ty_c9, ty_c10, ty_s0, ty_s1, ty_s2, ty_s3, ty_s4, ty_s5, ty_s6, List.mem_cons, List.not_mem_nil, or_false, false_or, or_true, true_or, and_true, true_and, and_self, Nat.reduceLT, Nat.reduceLeDiff, Nat.reduceEqDiff, Nat.add_eq_left, Nat.reduceAdd, Nat.reduceSub, ↓reduceIte, reduceCtorEq, List.getElem?_cons_zero, List.getElem?_cons_succ, List.set_cons_zero, List.set_cons_succ, List.length_cons, List.length_nil, List.take_succ_cons, List.take_zero, List.drop_succ_cons, List.drop_zero, List.reverse_cons, List.reverse_nil, List.nil_append, List.cons_append, am_entry, List.map_cons, List.map_nil, List.replicate_zero, List.replicate_succ, List.append_nil, decide_eq_true_eq, eq_self, am_ty, am_nf, wf_1, wf_2, wa_1, wa_2, wa_3, wr_1, wr_2, wr_3, ty_q0, ty_q1, ty_q2, i_if, ac_19, aty1, h1, hBb.1]
  have hb1 := Bt_fr hb hf (by omega)
  refine sa_addSlice hB0 hBb hc hτ hb1 hcb hij hj (fun υ hυ hf2 => ?_)
  dsimp only [am_push]
  rw [go_to []]; simp only [gs_u, fns_if, fns_nx, fns_no, fns_rt, fns_cl, am_fs, am_cd, am_NM, am_sz, am_code, am_step, am_ldc, am_bin, am_div, am_un, am_iload, am_aload, am_istore, am_astore, am_iinc, am_j1, am_j2, am_jr, am_dup, am_dup2, am_pop, am_ret, am_rt, am_rc, am_ml, am_slen, am_schr, am_m1, am_m2, ty_getf, ty_pi, ty_p0, ty_p1, ty_alen, ty_iald, ty_bald, ty_cald, ty_iast, ty_bast, ty_cast, ty_aald, ty_tald, ty_copy, ty_c1, ty_c2, ty_c3, ty_c4, ty_c5, ty_c6, ty_c7, ty_c8, ty_c9, ty_c10, ty_s0, ty_s1, ty_s2, ty_s3, ty_s4, ty_s5, ty_s6, List.mem_cons, List.not_mem_nil, or_false, false_or, or_true, true_or, and_true, true_and, and_self, Nat.reduceLT, Nat.reduceLeDiff, Nat.reduceEqDiff, Nat.add_eq_left, Nat.reduceAdd, Nat.reduceSub, ↓reduceIte, reduceCtorEq, List.getElem?_cons_zero, List.getElem?_cons_succ, List.set_cons_zero, List.set_cons_succ, List.length_cons, List.length_nil, List.take_succ_cons, List.take_zero, List.drop_succ_cons, List.drop_zero, List.reverse_cons, List.reverse_nil, List.nil_append, List.cons_append, am_entry, List.map_cons, List.map_nil, List.replicate_zero, List.replicate_succ, List.append_nil, decide_eq_true_eq, eq_self, am_ty, am_nf, wf_1, wf_2, wa_1, wa_2, wa_3, wr_1, wr_2, wr_3, ty_q0, ty_q1, ty_q2, i_if, ac_19, aty1, h1, hBb.1]
  have hb2 := Bt_fr hb1 hf2 (by omega)
  rw [sp_Bytes_isOpen hBb hb2.1 hb2.2.1 (by omega), opv_l hb2 (by omega) hij hj]
  dsimp only [am_push]
  rw [go_to []]; simp only [gs_u, fns_if, fns_nx, fns_no, fns_rt, fns_cl, am_fs, am_cd, am_NM, am_sz, am_code, am_step, am_ldc, am_bin, am_div, am_un, am_iload, am_aload, am_istore, am_astore, am_iinc, am_j1, am_j2, am_jr, am_dup, am_dup2, am_pop, am_ret, am_rt, am_rc, am_ml, am_slen, am_schr, am_m1, am_m2, ty_getf, ty_pi, ty_p0, ty_p1, ty_alen, ty_iald, ty_bald, ty_cald, ty_iast, ty_bast, ty_cast, ty_aald, ty_tald, ty_copy, ty_c1, ty_c2, ty_c3, ty_c4, ty_c5, ty_c6, ty_c7, ty_c8, ty_c9, ty_c10, ty_s0, ty_s1, ty_s2, ty_s3, ty_s4, ty_s5, ty_s6, List.mem_cons, List.not_mem_nil, or_false, false_or, or_true, true_or, and_true, true_and, and_self, Nat.reduceLT, Nat.reduceLeDiff, Nat.reduceEqDiff, Nat.add_eq_left, Nat.reduceAdd, Nat.reduceSub, ↓reduceIte, reduceCtorEq, List.getElem?_cons_zero, List.getElem?_cons_succ, List.set_cons_zero, List.set_cons_succ, List.length_cons, List.length_nil, List.take_succ_cons, List.take_zero, List.drop_succ_cons, List.drop_zero, List.reverse_cons, List.reverse_nil, List.nil_append, List.cons_append, am_entry, List.map_cons, List.map_nil, List.replicate_zero, List.replicate_succ, List.append_nil, decide_eq_true_eq, eq_self, am_ty, am_nf, wf_1, wf_2, wa_1, wa_2, wa_3, wr_1, wr_2, wr_3, ty_q0, ty_q1, ty_q2, i_if, ac_19, aty1, h1, h6, ly_vi h6]
  refine hQ _ ?_ (fr_trans hf (fr_trans hf2 (fr_wf (by omega))))
  unfold ad1
  rw [List.append_assoc] at hυ
  have := Ac_flag (e2 := decide (opE (gl l) i j)) hυ
  simpa only [decide_eq_true_eq] using this
set_option maxRecDepth 100000 in
set_option maxHeartbeats 4000000 in
theorem lp_addLines {t : Nat} {l : List Int32} (hB : is_B a) (hT : is_T t) (hne : t + 4 < a ∨ a + 1 < t) (hc : ly_n (a + 1) < 2 ^ 30) (f b : Nat) (hb : b ≤ lnum l) : ∀ (d i : Nat) (σ : am_M) (s : List Int32 × Bool), i + d = b → Tx σ t l → Ac σ a s → (∀ τ, Ac τ a (adL l d i s) → fr a (a + 1) σ τ → Q none (hh τ)) → am_Go X 21 3 [some (.ref a), some (.ref t), some (.int (nI f)), some (.int (nI b)), some (.int (nI i))] [] (hh σ) Q := by
  have hB0 := hB
  have hT0 := hT
  obtain ⟨h1, h2, h3, h4, h5, h6⟩ := hB
  obtain ⟨t1, hTB, ⟨t3, t4⟩, ⟨t5, t6, t7⟩, t8, t9, t10⟩ := hT
  have v0 := fun σ => (t8 σ).1
  have e6 : ly_n (t + 1 + 1) = 2000 := t5
  intro d
  induction d with
  | zero =>
    intro i σ s hi hx h hQ
    have hl := hx.2.2.2.2.2.1
    rw [go_to [3]]; simp only [gs_u, fns_if, fns_nx, fns_no, fns_rt, fns_cl, am_fs, am_cd, am_NM, am_sz, am_code, am_step, am_ldc, am_bin, am_div, am_un, am_iload, am_aload, am_istore, am_astore, am_iinc, am_j1, am_j2, am_jr, am_dup, am_dup2, am_pop, am_ret, am_rt, am_rc, am_ml, am_slen, am_schr, am_m1, am_m2, ty_getf, ty_pi, ty_p0, ty_p1, ty_alen, ty_iald, ty_bald, ty_cald, ty_iast, ty_bast, ty_cast, ty_aald, ty_tald, ty_copy, ty_c1, ty_c2, ty_c3, ty_c4, ty_c5, ty_c6, ty_c7, ty_c8, ty_c9, ty_c10, ty_s0, ty_s1, ty_s2, ty_s3, ty_s4, ty_s5, ty_s6, List.mem_cons, List.not_mem_nil, or_false, false_or, or_true, true_or, and_true, true_and, and_self, Nat.reduceLT, Nat.reduceLeDiff, Nat.reduceEqDiff, Nat.add_eq_left, Nat.reduceAdd, Nat.reduceSub, ↓reduceIte, reduceCtorEq, List.getElem?_cons_zero, List.getElem?_cons_succ, List.set_cons_zero, List.set_cons_succ, List.length_cons, List.length_nil, List.take_succ_cons, List.take_zero, List.drop_succ_cons, List.drop_zero, List.reverse_cons, List.reverse_nil, List.nil_append, List.cons_append, am_entry, List.map_cons, List.map_nil, List.replicate_zero, List.replicate_succ, List.append_nil, decide_eq_true_eq, eq_self, am_ty, am_nf, wf_1, wf_2, wa_1, wa_2, wa_3, wr_1, wr_2, wr_3, ty_q0, ty_q1, ty_q2, i_if, ac_21, h1, t1]
    simp (disch := first | omega | assumption) only [↓mI_i, li_0, li_1, li_2, li_3, li_4, li_5, li_6, li_7, li_8, li_9, li_10, li_16, li_20, li_24, li_31, li_32, li_43, li_44, li_45, li_46, li_48, li_57, li_62, li_64, li_97, li_99, li_100, li_200, li_201, li_202, li_255, li_401, li_500, li_2000, li_5980, li_6000, li_6002, li_9000, li_10000, li_20000, li_40401, li_100000, li_1000000, nI_leI, nI_ltI, nI_eq, mI_eq, mI_eq2, mI_lt, mI_le, mI_gt, mI_ge, nI_m1, nI_add, pk_sub, pk_mul, nI_clamp, bq0, bq1, ite_not, Classical.not_not, or_false, false_or, or_self, not_true_eq_false, not_false_eq_true, ↓reduceIte, ite_true, ite_false, true_or, or_true, and_true, true_and, ne_eq, if_pos, if_neg]
    exact hQ σ h fr_refl
  | succ d ih =>
    intro i σ s hi hx h hQ
    have hl := hx.2.2.2.2.2.1
    rw [go_to [3]]; simp only [gs_u, fns_if, fns_nx, fns_no, fns_rt, fns_cl, am_fs, am_cd, am_NM, am_sz, am_code, am_step, am_ldc, am_bin, am_div, am_un, am_iload, am_aload, am_istore, am_astore, am_iinc, am_j1, am_j2, am_jr, am_dup, am_dup2, am_pop, am_ret, am_rt, am_rc, am_ml, am_slen, am_schr, am_m1, am_m2, ty_getf, ty_pi, ty_p0, ty_p1, ty_alen, ty_iald, ty_bald, ty_cald, ty_iast, ty_bast, ty_cast, ty_aald, ty_tald, ty_copy, ty_c1, ty_c2, ty_c3, ty_c4, ty_c5, ty_c6, ty_c7, ty_c8, ty_c9, ty_c10, ty_s0, ty_s1, ty_s2, ty_s3, ty_s4, ty_s5, ty_s6, List.mem_cons, List.not_mem_nil, or_false, false_or, or_true, true_or, and_true, true_and, and_self, Nat.reduceLT, Nat.reduceLeDiff, Nat.reduceEqDiff, Nat.add_eq_left, Nat.reduceAdd, Nat.reduceSub, ↓reduceIte, reduceCtorEq, List.getElem?_cons_zero, List.getElem?_cons_succ, List.set_cons_zero, List.set_cons_succ, List.length_cons, List.length_nil, List.take_succ_cons, List.take_zero, List.drop_succ_cons, List.drop_zero, List.reverse_cons, List.reverse_nil, List.nil_append, List.cons_append, am_entry, List.map_cons, List.map_nil, List.replicate_zero, List.replicate_succ, List.append_nil, decide_eq_true_eq, eq_self, am_ty, am_nf, wf_1, wf_2, wa_1, wa_2, wa_3, wr_1, wr_2, wr_3, ty_q0, ty_q1, ty_q2, i_if, ac_21, h1, t1, v0]
    simp (disch := first | omega | assumption) only [↓mI_i, li_0, li_1, li_2, li_3, li_4, li_5, li_6, li_7, li_8, li_9, li_10, li_16, li_20, li_24, li_31, li_32, li_43, li_44, li_45, li_46, li_48, li_57, li_62, li_64, li_97, li_99, li_100, li_200, li_201, li_202, li_255, li_401, li_500, li_2000, li_5980, li_6000, li_6002, li_9000, li_10000, li_20000, li_40401, li_100000, li_1000000, nI_leI, nI_ltI, nI_eq, mI_eq, mI_eq2, mI_lt, mI_le, mI_gt, mI_ge, nI_m1, nI_add, pk_sub, pk_mul, nI_clamp, bq0, bq1, ite_not, Classical.not_not, or_false, false_or, or_self, not_true_eq_false, not_false_eq_true, ↓reduceIte, ite_true, ite_false, true_or, or_true, and_true, true_and, ne_eq, if_pos, if_neg]
    rw [sx_Text_startOf hT0 hx (by omega)]
    dsimp only [am_push]
    rw [go_to [3]]; simp only [gs_u, fns_if, fns_nx, fns_no, fns_rt, fns_cl, am_fs, am_cd, am_NM, am_sz, am_code, am_step, am_ldc, am_bin, am_div, am_un, am_iload, am_aload, am_istore, am_astore, am_iinc, am_j1, am_j2, am_jr, am_dup, am_dup2, am_pop, am_ret, am_rt, am_rc, am_ml, am_slen, am_schr, am_m1, am_m2, ty_getf, ty_pi, ty_p0, ty_p1, ty_alen, ty_iald, ty_bald, ty_cald, ty_iast, ty_bast, ty_cast, ty_aald, ty_tald, ty_copy, ty_c1, ty_c2, ty_c3, ty_c4, ty_c5, ty_c6, ty_c7, ty_c8, ty_c9, ty_c10, ty_s0, ty_s1, ty_s2, ty_s3, ty_s4, ty_s5, ty_s6, List.mem_cons, List.not_mem_nil, or_false, false_or, or_true, true_or, and_true, true_and, and_self, Nat.reduceLT, Nat.reduceLeDiff, Nat.reduceEqDiff, Nat.add_eq_left, Nat.reduceAdd, Nat.reduceSub, ↓reduceIte, reduceCtorEq, List.getElem?_cons_zero, List.getElem?_cons_succ, List.set_cons_zero, List.set_cons_succ, List.length_cons, List.length_nil, List.take_succ_cons, List.take_zero, List.drop_succ_cons, List.drop_zero, List.reverse_cons, List.reverse_nil, List.nil_append, List.cons_append, am_entry, List.map_cons, List.map_nil, List.replicate_zero, List.replicate_succ, List.append_nil, decide_eq_true_eq, eq_self, am_ty, am_nf, wf_1, wf_2, wa_1, wa_2, wa_3, wr_1, wr_2, wr_3, ty_q0, ty_q1, ty_q2, i_if, ac_21, h1, t1, v0]
    simp (disch := first | omega | assumption) only [↓mI_i, li_0, li_1, li_2, li_3, li_4, li_5, li_6, li_7, li_8, li_9, li_10, li_16, li_20, li_24, li_31, li_32, li_43, li_44, li_45, li_46, li_48, li_57, li_62, li_64, li_97, li_99, li_100, li_200, li_201, li_202, li_255, li_401, li_500, li_2000, li_5980, li_6000, li_6002, li_9000, li_10000, li_20000, li_40401, li_100000, li_1000000, nI_leI, nI_ltI, nI_eq, mI_eq, mI_eq2, mI_lt, mI_le, mI_gt, mI_ge, nI_m1, nI_add, pk_sub, pk_mul, nI_clamp, bq0, bq1, ite_not, Classical.not_not, or_false, false_or, or_self, not_true_eq_false, not_false_eq_true, ↓reduceIte, ite_true, ite_false, true_or, or_true, and_true, true_and, ne_eq, if_pos, if_neg]
    rw [sx_Text_startOf hT0 hx (by omega)]
    dsimp only [am_push]
    rw [go_to [3]]; simp only [gs_u, fns_if, fns_nx, fns_no, fns_rt, fns_cl, am_fs, am_cd, am_NM, am_sz, am_code, am_step, am_ldc, am_bin, am_div, am_un, am_iload, am_aload, am_istore, am_astore, am_iinc, am_j1, am_j2, am_jr, am_dup, am_dup2, am_pop, am_ret, am_rt, am_rc, am_ml, am_slen, am_schr, am_m1, am_m2, ty_getf, ty_pi, ty_p0, ty_p1, ty_alen, ty_iald, ty_bald, ty_cald, ty_iast, ty_bast, ty_cast, ty_aald, ty_tald, ty_copy, ty_c1, ty_c2, ty_c3, ty_c4, ty_c5, ty_c6, ty_c7, ty_c8, ty_c9, ty_c10, ty_s0, ty_s1, ty_s2, ty_s3, ty_s4, ty_s5, ty_s6, List.mem_cons, List.not_mem_nil, or_false, false_or, or_true, true_or, and_true, true_and, and_self, Nat.reduceLT, Nat.reduceLeDiff, Nat.reduceEqDiff, Nat.add_eq_left, Nat.reduceAdd, Nat.reduceSub, ↓reduceIte, reduceCtorEq, List.getElem?_cons_zero, List.getElem?_cons_succ, List.set_cons_zero, List.set_cons_succ, List.length_cons, List.length_nil, List.take_succ_cons, List.take_zero, List.drop_succ_cons, List.drop_zero, List.reverse_cons, List.reverse_nil, List.nil_append, List.cons_append, am_entry, List.map_cons, List.map_nil, List.replicate_zero, List.replicate_succ, List.append_nil, decide_eq_true_eq, eq_self, am_ty, am_nf, wf_1, wf_2, wa_1, wa_2, wa_3, wr_1, wr_2, wr_3, ty_q0, ty_q1, ty_q2, i_if, ac_21, h1, t1, v0, hTB.1]
    have r1 := lsta_rise (l := l) (k := i) (by omega)
    have r2 := lsta_n (l := l) (k := i + 1) (by omega)
    refine sa_addLine hB0 hTB (by omega) hc h (Tx_B hx hT0) (by omega) (by omega) r2 (fun τ hτ hf => ?_)
    dsimp only [am_push]
    rw [go_to [3]]; simp only [gs_u, fns_if, fns_nx, fns_no, fns_rt, fns_cl, am_fs, am_cd, am_NM, am_sz, am_code, am_step, am_ldc, am_bin, am_div, am_un, am_iload, am_aload, am_istore, am_astore, am_iinc, am_j1, am_j2, am_jr, am_dup, am_dup2, am_pop, am_ret, am_rt, am_rc, am_ml, am_slen, am_schr, am_m1, am_m2, ty_getf, ty_pi, ty_p0, ty_p1, ty_alen, ty_iald, ty_bald, ty_cald, ty_iast, ty_bast, ty_cast, ty_aald, ty_tald, ty_copy, ty_c1, ty_c2, ty_c3, ty_c4, ty_c5, ty_c6, ty_c7, ty_c8, ty_c9, ty_c10, ty_s0, ty_s1, ty_s2, ty_s3, ty_s4, ty_s5, ty_s6, List.mem_cons, List.not_mem_nil, or_false, false_or, or_true, true_or, and_true, true_and, and_self, Nat.reduceLT, Nat.reduceLeDiff, Nat.reduceEqDiff, Nat.add_eq_left, Nat.reduceAdd, Nat.reduceSub, ↓reduceIte, reduceCtorEq, List.getElem?_cons_zero, List.getElem?_cons_succ, List.set_cons_zero, List.set_cons_succ, List.length_cons, List.length_nil, List.take_succ_cons, List.take_zero, List.drop_succ_cons, List.drop_zero, List.reverse_cons, List.reverse_nil, List.nil_append, List.cons_append, am_entry, List.map_cons, List.map_nil, List.replicate_zero, List.replicate_succ, List.append_nil, decide_eq_true_eq, eq_self, am_ty, am_nf, wf_1, wf_2, wa_1, wa_2, wa_3, wr_1, wr_2, wr_3, ty_q0, ty_q1, ty_q2, i_if, ac_21, h1, t1, v0, hTB.1]
    simp (disch := first | omega | assumption) only [↓mI_i, li_0, li_1, li_2, li_3, li_4, li_5, li_6, li_7, li_8, li_9, li_10, li_16, li_20, li_24, li_31, li_32, li_43, li_44, li_45, li_46, li_48, li_57, li_62, li_64, li_97, li_99, li_100, li_200, li_201, li_202, li_255, li_401, li_500, li_2000, li_5980, li_6000, li_6002, li_9000, li_10000, li_20000, li_40401, li_100000, li_1000000, nI_leI, nI_ltI, nI_eq, mI_eq, mI_eq2, mI_lt, mI_le, mI_gt, mI_ge, nI_m1, nI_add, pk_sub, pk_mul, nI_clamp, bq0, bq1, ite_not, Classical.not_not, or_false, false_or, or_self, not_true_eq_false, not_false_eq_true, ↓reduceIte, ite_true, ite_false, true_or, or_true, and_true, true_and, ne_eq, if_pos, if_neg]
    exact ih (i + 1) τ _ (by omega) (Tx_fr hx hf (by omega)) hτ (fun υ hυ hf2 => hQ υ hυ (fr_trans hf hf2))
theorem sa_addLines {t f b : Nat} {l : List Int32} (hB : is_B a) (hT : is_T t) (hne : t + 4 < a ∨ a + 1 < t) (hc : ly_n (a + 1) < 2 ^ 30) (hfb : f ≤ b) (hb : b ≤ lnum l) (hx : Tx σ t l) (h : Ac σ a s) (hQ : ∀ τ, Ac τ a (adL l (b - f) f s) → fr a (a + 1) σ τ → Q none (hh τ)) : am_Go X 21 0 [some (.ref a), some (.ref t), some (.int (nI f)), some (.int (nI b)), none] [] (hh σ) Q := by
  rw [go_to [3]]; simp only [gs_u, fns_if, fns_nx, fns_no, fns_rt, fns_cl, am_fs, am_cd, am_NM, am_sz, am_code, am_step, am_ldc, am_bin, am_div, am_un, am_iload, am_aload, am_istore, am_astore, am_iinc, am_j1, am_j2, am_jr, am_dup, am_dup2, am_pop, am_ret, am_rt, am_rc, am_ml, am_slen, am_schr, am_m1, am_m2, ty_getf, ty_pi, ty_p0, ty_p1, ty_alen, ty_iald, ty_bald, ty_cald, ty_iast, ty_bast, ty_cast, ty_aald, ty_tald, ty_copy, ty_c1, ty_c2, ty_c3, ty_c4, ty_c5, ty_c6, ty_c7, ty_c8, ty_c9, ty_c10, ty_s0, ty_s1, ty_s2, ty_s3, ty_s4, ty_s5, ty_s6, List.mem_cons, List.not_mem_nil, or_false, false_or, or_true, true_or, and_true, true_and, and_self, Nat.reduceLT, Nat.reduceLeDiff, Nat.reduceEqDiff, Nat.add_eq_left, Nat.reduceAdd, Nat.reduceSub, ↓reduceIte, reduceCtorEq, List.getElem?_cons_zero, List.getElem?_cons_succ, List.set_cons_zero, List.set_cons_succ, List.length_cons, List.length_nil, List.take_succ_cons, List.take_zero, List.drop_succ_cons, List.drop_zero, List.reverse_cons, List.reverse_nil, List.nil_append, List.cons_append, am_entry, List.map_cons, List.map_nil, List.replicate_zero, List.replicate_succ, List.append_nil, decide_eq_true_eq, eq_self, am_ty, am_nf, wf_1, wf_2, wa_1, wa_2, wa_3, wr_1, wr_2, wr_3, ty_q0, ty_q1, ty_q2, i_if, ac_21]
  exact lp_addLines hB hT hne hc f b hb (b - f) f σ s (by omega) hx h hQ
set_option maxRecDepth 100000 in
set_option maxHeartbeats 4000000 in
theorem lp_addText2 {j : Nat} (hX : X.2.2 = am_txt) (hB : is_B a) (hc : ly_n (a + 1) < 2 ^ 30) : ∀ (k i : Nat) (σ : am_M) (s : List Int32 × Bool), i + k = (am_txt j).length → Ac σ a s → (∀ τ, Ac τ a (s.1 ++ (am_txt j).drop i, s.2) → fr a (a + 1) σ τ → Q none (hh τ)) → am_Go X 16 2 [some (.ref a), some (.retAddr (j + 1)), some (.int (nI i))] [] (hh σ) Q := by
  have hB0 := hB
  obtain ⟨h1, h2, h3, h4, h5, h6⟩ := hB
  have hT := txt_len j
  intro k
  induction k with
  | zero =>
    intro i σ s hi h hQ
    rw [go_to [2]]; simp only [gs_u, fns_if, fns_nx, fns_no, fns_rt, fns_cl, am_fs, am_cd, am_NM, am_sz, am_code, am_step, am_ldc, am_bin, am_div, am_un, am_iload, am_aload, am_istore, am_astore, am_iinc, am_j1, am_j2, am_jr, am_dup, am_dup2, am_pop, am_ret, am_rt, am_rc, am_ml, am_slen, am_schr, am_m1, am_m2, ty_getf, ty_pi, ty_p0, ty_p1, ty_alen, ty_iald, ty_bald, ty_cald, ty_iast, ty_bast, ty_cast, ty_aald, ty_tald, ty_copy, ty_c1, ty_c2, ty_c3, ty_c4, ty_c5, ty_c6, ty_c7, ty_c8, ty_c9, ty_c10, ty_s0, ty_s1, ty_s2, ty_s3, ty_s4, ty_s5, ty_s6, List.mem_cons, List.not_mem_nil, or_false, false_or, or_true, true_or, and_true, true_and, and_self, Nat.reduceLT, Nat.reduceLeDiff, Nat.reduceEqDiff, Nat.add_eq_left, Nat.reduceAdd, Nat.reduceSub, ↓reduceIte, reduceCtorEq, List.getElem?_cons_zero, List.getElem?_cons_succ, List.set_cons_zero, List.set_cons_succ, List.length_cons, List.length_nil, List.take_succ_cons, List.take_zero, List.drop_succ_cons, List.drop_zero, List.reverse_cons, List.reverse_nil, List.nil_append, List.cons_append, am_entry, List.map_cons, List.map_nil, List.replicate_zero, List.replicate_succ, List.append_nil, decide_eq_true_eq, eq_self, am_ty, am_nf, wf_1, wf_2, wa_1, wa_2, wa_3, wr_1, wr_2, wr_3, ty_q0, ty_q1, ty_q2, i_if, ac_16, h1, h4, hX, ofN]
    simp (disch := first | omega | assumption) only [↓mI_i, li_0, li_1, li_2, li_3, li_4, li_5, li_6, li_7, li_8, li_9, li_10, li_16, li_20, li_24, li_31, li_32, li_43, li_44, li_45, li_46, li_48, li_57, li_62, li_64, li_97, li_99, li_100, li_200, li_201, li_202, li_255, li_401, li_500, li_2000, li_5980, li_6000, li_6002, li_9000, li_10000, li_20000, li_40401, li_100000, li_1000000, nI_leI, nI_ltI, nI_eq, mI_eq, mI_eq2, mI_lt, mI_le, mI_gt, mI_ge, nI_m1, nI_add, pk_sub, pk_mul, nI_clamp, bq0, bq1, ite_not, Classical.not_not, or_false, false_or, or_self, not_true_eq_false, not_false_eq_true, ↓reduceIte, ite_true, ite_false, true_or, or_true, and_true, true_and, ne_eq, if_pos, if_neg]
    exact hQ _ (by rw [List.drop_eq_nil_of_le (by omega), List.append_nil]; exact h) fr_refl
  | succ k ih =>
    intro i σ s hi h hQ
    rw [go_to [2]]; simp only [gs_u, fns_if, fns_nx, fns_no, fns_rt, fns_cl, am_fs, am_cd, am_NM, am_sz, am_code, am_step, am_ldc, am_bin, am_div, am_un, am_iload, am_aload, am_istore, am_astore, am_iinc, am_j1, am_j2, am_jr, am_dup, am_dup2, am_pop, am_ret, am_rt, am_rc, am_ml, am_slen, am_schr, am_m1, am_m2, ty_getf, ty_pi, ty_p0, ty_p1, ty_alen, ty_iald, ty_bald, ty_cald, ty_iast, ty_bast, ty_cast, ty_aald, ty_tald, ty_copy, ty_c1, ty_c2, ty_c3, ty_c4, ty_c5, ty_c6, ty_c7, ty_c8, ty_c9, ty_c10, ty_s0, ty_s1, ty_s2, ty_s3, ty_s4, ty_s5, ty_s6, List.mem_cons, List.not_mem_nil, or_false, false_or, or_true, true_or, and_true, true_and, and_self, Nat.reduceLT, Nat.reduceLeDiff, Nat.reduceEqDiff, Nat.add_eq_left, Nat.reduceAdd, Nat.reduceSub, ↓reduceIte, reduceCtorEq, List.getElem?_cons_zero, List.getElem?_cons_succ, List.set_cons_zero, List.set_cons_succ, List.length_cons, List.length_nil, List.take_succ_cons, List.take_zero, List.drop_succ_cons, List.drop_zero, List.reverse_cons, List.reverse_nil, List.nil_append, List.cons_append, am_entry, List.map_cons, List.map_nil, List.replicate_zero, List.replicate_succ, List.append_nil, decide_eq_true_eq, eq_self, am_ty, am_nf, wf_1, wf_2, wa_1, wa_2, wa_3, wr_1, wr_2, wr_3, ty_q0, ty_q1, ty_q2, i_if, ac_16, h1, h4, hX, ofN]
    simp (disch := first | omega | assumption) only [↓mI_i, li_0, li_1, li_2, li_3, li_4, li_5, li_6, li_7, li_8, li_9, li_10, li_16, li_20, li_24, li_31, li_32, li_43, li_44, li_45, li_46, li_48, li_57, li_62, li_64, li_97, li_99, li_100, li_200, li_201, li_202, li_255, li_401, li_500, li_2000, li_5980, li_6000, li_6002, li_9000, li_10000, li_20000, li_40401, li_100000, li_1000000, nI_leI, nI_ltI, nI_eq, mI_eq, mI_eq2, mI_lt, mI_le, mI_gt, mI_ge, nI_m1, nI_add, pk_sub, pk_mul, nI_clamp, bq0, bq1, ite_not, Classical.not_not, or_false, false_or, or_self, not_true_eq_false, not_false_eq_true, ↓reduceIte, ite_true, ite_false, true_or, or_true, and_true, true_and, ne_eq, if_pos, if_neg]
    refine sa_add hB0 hc h (txt_b8 j i) (fun τ hτ hf => ?_)
    dsimp only [am_push]
    rw [go_to [2]]; simp only [gs_u, fns_if, fns_nx, fns_no, fns_rt, fns_cl, am_fs, am_cd, am_NM, am_sz, am_code, am_step, am_ldc, am_bin, am_div, am_un, am_iload, am_aload, am_istore, am_astore, am_iinc, am_j1, am_j2, am_jr, am_dup, am_dup2, am_pop, am_ret, am_rt, am_rc, am_ml, am_slen, am_schr, am_m1, am_m2, ty_getf, ty_pi, ty_p0, ty_p1, ty_alen, ty_iald, ty_bald, ty_cald, ty_iast, ty_bast, ty_cast, ty_aald, ty_tald, ty_copy, ty_c1, ty_c2, ty_c3, ty_c4, ty_c5, ty_c6, ty_c7, ty_c8, ty_c9, ty_c10, ty_s0, ty_s1, ty_s2, ty_s3, ty_s4, ty_s5, ty_s6, List.mem_cons, List.not_mem_nil, or_false, false_or, or_true, true_or, and_true, true_and, and_self, Nat.reduceLT, Nat.reduceLeDiff, Nat.reduceEqDiff, Nat.add_eq_left, Nat.reduceAdd, Nat.reduceSub, ↓reduceIte, reduceCtorEq, List.getElem?_cons_zero, List.getElem?_cons_succ, List.set_cons_zero, List.set_cons_succ, List.length_cons, List.length_nil, List.take_succ_cons, List.take_zero, List.drop_succ_cons, List.drop_zero, List.reverse_cons, List.reverse_nil, List.nil_append, List.cons_append, am_entry, List.map_cons, List.map_nil, List.replicate_zero, List.replicate_succ, List.append_nil, decide_eq_true_eq, eq_self, am_ty, am_nf, wf_1, wf_2, wa_1, wa_2, wa_3, wr_1, wr_2, wr_3, ty_q0, ty_q1, ty_q2, i_if, ac_16, h1, h4, hX, ofN]
    simp (disch := first | omega | assumption) only [↓mI_i, li_0, li_1, li_2, li_3, li_4, li_5, li_6, li_7, li_8, li_9, li_10, li_16, li_20, li_24, li_31, li_32, li_43, li_44, li_45, li_46, li_48, li_57, li_62, li_64, li_97, li_99, li_100, li_200, li_201, li_202, li_255, li_401, li_500, li_2000, li_5980, li_6000, li_6002, li_9000, li_10000, li_20000, li_40401, li_100000, li_1000000, nI_leI, nI_ltI, nI_eq, mI_eq, mI_eq2, mI_lt, mI_le, mI_gt, mI_ge, nI_m1, nI_add, pk_sub, pk_mul, nI_clamp, bq0, bq1, ite_not, Classical.not_not, or_false, false_or, or_self, not_true_eq_false, not_false_eq_true, ↓reduceIte, ite_true, ite_false, true_or, or_true, and_true, true_and, ne_eq, if_pos, if_neg]
    refine ih (i + 1) τ _ (by omega) hτ (fun υ hυ hf2 => hQ υ ?_ (fr_trans hf hf2))
    rw [List.append_assoc] at hυ
    rw [drop_D (L := am_txt j) (i := i) (by omega)]
    exact hυ
theorem sa_addText {j : Nat} (hX : X.2.2 = am_txt) (hB : is_B a) (hc : ly_n (a + 1) < 2 ^ 30) (h : Ac σ a s) (hQ : ∀ τ, Ac τ a (s.1 ++ am_txt j, s.2) → fr a (a + 1) σ τ → Q none (hh τ)) : am_Go X 16 0 [some (.ref a), some (.retAddr (j + 1)), none] [] (hh σ) Q := by
  rw [go_to [2]]; simp only [gs_u, fns_if, fns_nx, fns_no, fns_rt, fns_cl, am_fs, am_cd, am_NM, am_sz, am_code, am_step, am_ldc, am_bin, am_div, am_un, am_iload, am_aload, am_istore, am_astore, am_iinc, am_j1, am_j2, am_jr, am_dup, am_dup2, am_pop, am_ret, am_rt, am_rc, am_ml, am_slen, am_schr, am_m1, am_m2, ty_getf, ty_pi, ty_p0, ty_p1, ty_alen, ty_iald, ty_bald, ty_cald, ty_iast, ty_bast, ty_cast, ty_aald, ty_tald, ty_copy, ty_c1, ty_c2, ty_c3, ty_c4, ty_c5, ty_c6, ty_c7, ty_c8, ty_c9, ty_c10, ty_s0, ty_s1, ty_s2, ty_s3, ty_s4, ty_s5, ty_s6, List.mem_cons, List.not_mem_nil, or_false, false_or, or_true, true_or, and_true, true_and, and_self, Nat.reduceLT, Nat.reduceLeDiff, Nat.reduceEqDiff, Nat.add_eq_left, Nat.reduceAdd, Nat.reduceSub, ↓reduceIte, reduceCtorEq, List.getElem?_cons_zero, List.getElem?_cons_succ, List.set_cons_zero, List.set_cons_succ, List.length_cons, List.length_nil, List.take_succ_cons, List.take_zero, List.drop_succ_cons, List.drop_zero, List.reverse_cons, List.reverse_nil, List.nil_append, List.cons_append, am_entry, List.map_cons, List.map_nil, List.replicate_zero, List.replicate_succ, List.append_nil, decide_eq_true_eq, eq_self, am_ty, am_nf, wf_1, wf_2, wa_1, wa_2, wa_3, wr_1, wr_2, wr_3, ty_q0, ty_q1, ty_q2, i_if, ac_16, hX]
  exact lp_addText2 hX hB hc (am_txt j).length 0 σ s (by omega) h hQ
end AC
