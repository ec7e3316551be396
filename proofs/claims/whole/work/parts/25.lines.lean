/-! alike slices, lines behind a row -/
section BY
variable {X : am_X} {σ : am_M} {a n : Nat} {Q : Option Value → am_H → Prop}
theorem slc_ext {f g : Nat → Int32} {i p k : Nat} (h : ∀ x, x < k → f (i + x) = g (p + x)) : slc f i k = slc g p k := by
  unfold slc
  exact List.map_congr_left fun x hx => h x (List.mem_range.mp hx)
theorem slc_inj {f g : Nat → Int32} {i p k : Nat} (h : slc f i k = slc g p k) : ∀ x, x < k → f (i + x) = g (p + x) := fun x hx => by
  rw [← slc_get (f := f) (i := i) hx, ← slc_get (f := g) (i := p) hx, h]
set_option maxRecDepth 100000 in
set_option maxHeartbeats 4000000 in
theorem lp_Bytes_isAlike {b i j p q k : Nat} (hB : is_B a) (hBb : is_B b) (ha : i + k ≤ ly_n (a + 1)) (hb : p + k ≤ ly_n (b + 1)) (hca : ly_n (a + 1) < 2 ^ 31) (hcb : ly_n (b + 1) < 2 ^ 31) : ∀ (d x : Nat), x + d = k → (∀ y, y < x → σ.2.1 (a + 1) (i + y) = σ.2.1 (b + 1) (p + y)) → am_Go X 12 40 [some (.ref a), some (.int (nI i)), some (.int (nI j)), some (.ref b), some (.int (nI p)), some (.int (nI q)), some (.int (nI k)), some (.int (nI x))] [] (hh σ) Q = Q (some (.int (if slc (σ.2.1 (a + 1)) i k = slc (σ.2.1 (b + 1)) p k then 1 else 0))) (hh σ) := by
  obtain ⟨h1, h2, h3, h4, h5, h6⟩ := hB
  obtain ⟨g1, g2, g3, g4, g5, g6⟩ := hBb
  intro d
  induction d with
  | zero =>
    intro x hx hy
    rw [go_to [40]]; simp only [gs_u, fns_if, fns_nx, fns_no, fns_rt, fns_cl, am_fs, am_cd, am_NM, am_sz, am_code, am_step, am_ldc, am_bin, am_div, am_un, am_iload, am_aload, am_istore, am_astore, am_iinc, am_j1, am_j2, am_jr, am_dup, am_dup2, am_pop, am_ret, am_rt, am_rc, am_ml, am_slen, am_schr, am_m1, am_m2, ty_getf, ty_pi, ty_p0, ty_p1, ty_alen, ty_iald, ty_bald, ty_cald, ty_iast, ty_bast, ty_cast, ty_aald, ty_tald, ty_copy, ty_c1, ty_c2, ty_c3, ty_c4, ty_c5, ty_c6, ty_c7, ty_c8, ty_c9, ty_c10, ty_s0, ty_s1, ty_s2, ty_s3, ty_s4, ty_s5, ty_s6, List.mem_cons, List.not_mem_nil, or_false, false_or, or_true, true_or, and_true, true_and, and_self, Nat.reduceLT, Nat.reduceLeDiff, Nat.reduceEqDiff, Nat.reduceAdd, Nat.reduceSub, ↓reduceIte, reduceCtorEq, List.getElem?_cons_zero, List.getElem?_cons_succ, List.set_cons_zero, List.set_cons_succ, List.length_cons, List.length_nil, List.take_succ_cons, List.take_zero, List.drop_succ_cons, List.drop_zero, List.reverse_cons, List.reverse_nil, List.nil_append, List.cons_append, am_entry, List.map_cons, List.map_nil, List.replicate_zero, List.replicate_succ, List.append_nil, decide_eq_true_eq, eq_self, am_ty, am_nf, wf_1, wf_2, wa_1, wa_2, wa_3, wr_1, wr_2, wr_3, ac_12, h1, h2, h3, g1, g2, g3]
    rw [if_pos (nI_le (by omega) (by omega)), if_pos (slc_ext (fun y h => hy y (by omega)))]
  | succ d ih =>
    intro x hx hy
    rw [go_to [40]]; simp only [gs_u, fns_if, fns_nx, fns_no, fns_rt, fns_cl, am_fs, am_cd, am_NM, am_sz, am_code, am_step, am_ldc, am_bin, am_div, am_un, am_iload, am_aload, am_istore, am_astore, am_iinc, am_j1, am_j2, am_jr, am_dup, am_dup2, am_pop, am_ret, am_rt, am_rc, am_ml, am_slen, am_schr, am_m1, am_m2, ty_getf, ty_pi, ty_p0, ty_p1, ty_alen, ty_iald, ty_bald, ty_cald, ty_iast, ty_bast, ty_cast, ty_aald, ty_tald, ty_copy, ty_c1, ty_c2, ty_c3, ty_c4, ty_c5, ty_c6, ty_c7, ty_c8, ty_c9, ty_c10, ty_s0, ty_s1, ty_s2, ty_s3, ty_s4, ty_s5, ty_s6, List.mem_cons, List.not_mem_nil, or_false, false_or, or_true, true_or, and_true, true_and, and_self, Nat.reduceLT, Nat.reduceLeDiff, Nat.reduceEqDiff, Nat.reduceAdd, Nat.reduceSub, ↓reduceIte, reduceCtorEq, List.getElem?_cons_zero, List.getElem?_cons_succ, List.set_cons_zero, List.set_cons_succ, List.length_cons, List.length_nil, List.take_succ_cons, List.take_zero, List.drop_succ_cons, List.drop_zero, List.reverse_cons, List.reverse_nil, List.nil_append, List.cons_append, am_entry, List.map_cons, List.map_nil, List.replicate_zero, List.replicate_succ, List.append_nil, decide_eq_true_eq, eq_self, am_ty, am_nf, wf_1, wf_2, wa_1, wa_2, wa_3, wr_1, wr_2, wr_3, ac_12, h1, h2, h3, g1, g2, g3]
    rw [if_neg (nI_ge (by omega) (by omega)), nI_add, nI_add, nI_clamp (by omega), nI_clamp (by omega), if_neg (by rintro (h | h); exact nI_pos (n := i + x) (by omega) h; omega), if_neg (by rintro (h | h); exact nI_pos (n := p + x) (by omega) h; omega)]
    by_cases h7 : σ.2.1 (a + 1) (i + x) = σ.2.1 (b + 1) (p + x)
    · rw [if_pos h7, nI_1, ih (x + 1) (by omega) (fun y h => by
        rcases Nat.lt_or_ge y x with q1 | q1
        · exact hy y q1
        · obtain rfl : y = x := by omega
          exact h7)]
    · rw [if_neg h7, if_neg (fun h => h7 (slc_inj h x (by omega)))]
set_option maxRecDepth 100000 in
set_option maxHeartbeats 4000000 in
/-- isAlike of two slices that are there -/
theorem sp_Bytes_isAlike {b i j p q m : Nat} (hB : is_B a) (hBb : is_B b) (hn : σ.1 a 1 = nI n) (hm : σ.1 b 1 = nI m) (hna : n ≤ ly_n (a + 1)) (hmb : m ≤ ly_n (b + 1)) (hca : ly_n (a + 1) < 2 ^ 31) (hcb : ly_n (b + 1) < 2 ^ 31) (hij : i ≤ j) (hj : j ≤ n) (hpq : p ≤ q) (hq : q ≤ m) : am_Go X 12 0 [some (.ref a), some (.int (nI i)), some (.int (nI j)), some (.ref b), some (.int (nI p)), some (.int (nI q)), none, none] [] (hh σ) Q = Q (some (.int (if slc (σ.2.1 (a + 1)) i (j - i) = slc (σ.2.1 (b + 1)) p (q - p) then 1 else 0))) (hh σ) := by
  have hB0 := hB
  have hBb0 := hBb
  obtain ⟨h1, h2, h3, h4, h5, h6⟩ := hB
  obtain ⟨g1, g2, g3, g4, g5, g6⟩ := hBb
  rw [go_to [40]]; simp only [gs_u, fns_if, fns_nx, fns_no, fns_rt, fns_cl, am_fs, am_cd, am_NM, am_sz, am_code, am_step, am_ldc, am_bin, am_div, am_un, am_iload, am_aload, am_istore, am_astore, am_iinc, am_j1, am_j2, am_jr, am_dup, am_dup2, am_pop, am_ret, am_rt, am_rc, am_ml, am_slen, am_schr, am_m1, am_m2, ty_getf, ty_pi, ty_p0, ty_p1, ty_alen, ty_iald, ty_bald, ty_cald, ty_iast, ty_bast, ty_cast, ty_aald, ty_tald, ty_copy, ty_c1, ty_c2, ty_c3, ty_c4, ty_c5, ty_c6, ty_c7, ty_c8, ty_c9, ty_c10, ty_s0, ty_s1, ty_s2, ty_s3, ty_s4, ty_s5, ty_s6, List.mem_cons, List.not_mem_nil, or_false, false_or, or_true, true_or, and_true, true_and, and_self, Nat.reduceLT, Nat.reduceLeDiff, Nat.reduceEqDiff, Nat.reduceAdd, Nat.reduceSub, ↓reduceIte, reduceCtorEq, List.getElem?_cons_zero, List.getElem?_cons_succ, List.set_cons_zero, List.set_cons_succ, List.length_cons, List.length_nil, List.take_succ_cons, List.take_zero, List.drop_succ_cons, List.drop_zero, List.reverse_cons, List.reverse_nil, List.nil_append, List.cons_append, am_entry, List.map_cons, List.map_nil, List.replicate_zero, List.replicate_succ, List.append_nil, decide_eq_true_eq, eq_self, am_ty, am_nf, wf_1, wf_2, wa_1, wa_2, wa_3, wr_1, wr_2, wr_3, ac_12, h1, g1]
  rw [pk_sub hij, pk_sub hpq]
  by_cases h7 : j - i = q - p
  · rw [if_neg (fun h => h (by rw [h7])), sp_Bytes_hasSlice hB0, hn, if_pos ⟨nI_pos (by omega), nI_le hij (by omega), nI_le hj (by omega)⟩]
    dsimp only [am_push]
    rw [go_to [40]]; simp only [gs_u, fns_if, fns_nx, fns_no, fns_rt, fns_cl, am_fs, am_cd, am_NM, am_sz, am_code, am_step, am_ldc, am_bin, am_div, am_un, am_iload, am_aload, am_istore, am_astore, am_iinc, am_j1, am_j2, am_jr, am_dup, am_dup2, am_pop, am_ret, am_rt, am_rc, am_ml, am_slen, am_schr, am_m1, am_m2, ty_getf, ty_pi, ty_p0, ty_p1, ty_alen, ty_iald, ty_bald, ty_cald, ty_iast, ty_bast, ty_cast, ty_aald, ty_tald, ty_copy, ty_c1, ty_c2, ty_c3, ty_c4, ty_c5, ty_c6, ty_c7, ty_c8, ty_c9, ty_c10, ty_s0, ty_s1, ty_s2, ty_s3, ty_s4, ty_s5, ty_s6, List.mem_cons, List.not_mem_nil, or_false, false_or, or_true, true_or, and_true, true_and, and_self, Nat.reduceLT, Nat.reduceLeDiff, Nat.reduceEqDiff, Nat.reduceAdd, Nat.reduceSub, ↓reduceIte, reduceCtorEq, List.getElem?_cons_zero, List.getElem?_cons_succ, List.set_cons_zero, List.set_cons_succ, List.length_cons, List.length_nil, List.take_succ_cons, List.take_zero, List.drop_succ_cons, List.drop_zero, List.reverse_cons, List.reverse_nil, List.nil_append, List.cons_append, am_entry, List.map_cons, List.map_nil, List.replicate_zero, List.replicate_succ, List.append_nil, decide_eq_true_eq, eq_self, am_ty, am_nf, wf_1, wf_2, wa_1, wa_2, wa_3, wr_1, wr_2, wr_3, ac_12, h1, g1]
    rw [if_neg (by decide), sp_Bytes_hasSlice hBb0, hm, if_pos ⟨nI_pos (by omega), nI_le hpq (by omega), nI_le hq (by omega)⟩]
    dsimp only [am_push]
    rw [go_to [40]]; simp only [gs_u, fns_if, fns_nx, fns_no, fns_rt, fns_cl, am_fs, am_cd, am_NM, am_sz, am_code, am_step, am_ldc, am_bin, am_div, am_un, am_iload, am_aload, am_istore, am_astore, am_iinc, am_j1, am_j2, am_jr, am_dup, am_dup2, am_pop, am_ret, am_rt, am_rc, am_ml, am_slen, am_schr, am_m1, am_m2, ty_getf, ty_pi, ty_p0, ty_p1, ty_alen, ty_iald, ty_bald, ty_cald, ty_iast, ty_bast, ty_cast, ty_aald, ty_tald, ty_copy, ty_c1, ty_c2, ty_c3, ty_c4, ty_c5, ty_c6, ty_c7, ty_c8, ty_c9, ty_c10, ty_s0, ty_s1, ty_s2, ty_s3, ty_s4, ty_s5, ty_s6, List.mem_cons, List.not_mem_nil, or_false, false_or, or_true, true_or, and_true, true_and, and_self, Nat.reduceLT, Nat.reduceLeDiff, Nat.reduceEqDiff, Nat.reduceAdd, Nat.reduceSub, ↓reduceIte, reduceCtorEq, List.getElem?_cons_zero, List.getElem?_cons_succ, List.set_cons_zero, List.set_cons_succ, List.length_cons, List.length_nil, List.take_succ_cons, List.take_zero, List.drop_succ_cons, List.drop_zero, List.reverse_cons, List.reverse_nil, List.nil_append, List.cons_append, am_entry, List.map_cons, List.map_nil, List.replicate_zero, List.replicate_succ, List.append_nil, decide_eq_true_eq, eq_self, am_ty, am_nf, wf_1, wf_2, wa_1, wa_2, wa_3, wr_1, wr_2, wr_3, ac_12, h1, g1]
    rw [if_pos (by decide), ← h7]
    exact lp_Bytes_isAlike hB0 hBb0 (by omega) (by omega) hca hcb (j - i) 0 (by omega) (fun y h => absurd h (Nat.not_lt_zero y))
  · rw [if_pos (fun h => h7 ((nI_eq (by omega) (by omega)).mp h)), if_neg (fun h => h7 (by rw [← slc_len (f := σ.2.1 (a + 1)) (i := i) (k := j - i), h, slc_len]))]
end BY
