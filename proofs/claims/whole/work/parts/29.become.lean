/-! lines counted and found, a text becomes what a row is -/
section TX
variable {X : am_X} {Q : Option Value → am_H → Prop}
theorem at_n {σ : am_M} {a n i : Nat} (hi : i < n) (hn : n < 2 ^ 31) : atv σ a n (nI i) = σ.2.1 (a + 1) i &&& 255 := by
  unfold atv
  rw [if_neg (by rintro (q | q); exact nI_pos (by omega) q; exact nI_ge hi hn q), nI_clamp (by omega)]
theorem ct_succ {f : Nat → Int32} {n x : Nat} : ct f n (x + 1) = ct f n x ++ (if f x = 10 ∨ x + 1 = n then [x + 1] else []) := rfl
set_option maxRecDepth 100000 in
set_option maxHeartbeats 4000000 in
theorem lp_Text_countLines {σ : am_M} {a n : Nat} (hB : is_B a) (hn : σ.1 a 1 = nI n) (hle : n ≤ ly_n (a + 1)) (hc : ly_n (a + 1) < 2 ^ 31) (hb : is_b (σ.2.1 (a + 1)) n) : ∀ (d i : Nat), i + d = n → am_Go X 92 4 [some (.ref a), some (.int (nI (ct (σ.2.1 (a + 1)) n i).length)), some (.int (nI i))] [] (hh σ) Q = Q (some (.int (nI (nl (σ.2.1 (a + 1)) n)))) (hh σ) := by
  have hB0 := hB
  obtain ⟨h1, h2, h3, h4, h5, h6⟩ := hB
  intro d
  induction d with
  | zero =>
    intro i hi
    obtain rfl : i = n := by omega
    rw [go_to [4]]; simp only [gs_u, fns_if, fns_nx, fns_no, fns_rt, fns_cl, am_fs, am_cd, am_NM, am_sz, am_code, am_step, am_ldc, am_bin, am_div, am_un, am_iload, am_aload, am_istore, am_astore, am_iinc, am_j1, am_j2, am_jr, am_dup, am_dup2, am_pop, am_ret, am_rt, am_rc, am_ml, am_slen, am_schr, am_m1, am_m2, ty_getf, ty_pi, ty_p0, ty_p1, ty_alen, ty_iald, ty_bald, ty_cald, ty_iast, ty_bast, ty_cast, ty_aald, ty_tald, ty_copy, ty_c1, ty_c2, ty_c3, ty_c4, ty_c5, ty_c6, ty_c7, ty_c8, ty_c9, ty_c10, ty_s0, ty_s1, ty_s2, ty_s3, ty_s4, ty_s5, ty_s6, List.mem_cons, List.not_mem_nil, or_false, false_or, or_true, true_or, and_true, true_and, and_self, Nat.reduceLT, Nat.reduceLeDiff, Nat.reduceEqDiff, Nat.add_eq_left, Nat.reduceAdd, Nat.reduceSub, ↓reduceIte, reduceCtorEq, List.getElem?_cons_zero, List.getElem?_cons_succ, List.set_cons_zero, List.set_cons_succ, List.length_cons, List.length_nil, List.take_succ_cons, List.take_zero, List.drop_succ_cons, List.drop_zero, List.reverse_cons, List.reverse_nil, List.nil_append, List.cons_append, am_entry, List.map_cons, List.map_nil, List.replicate_zero, List.replicate_succ, List.append_nil, decide_eq_true_eq, eq_self, am_ty, am_nf, wf_1, wf_2, wa_1, wa_2, wa_3, wr_1, wr_2, wr_3, ac_92, h1, h4, ly_vi h4, hn]
    rw [if_pos (nI_le (Nat.le_refl _) (by omega))]
    rfl
  | succ d ih =>
    intro i hi
    rw [go_to [4]]; simp only [gs_u, fns_if, fns_nx, fns_no, fns_rt, fns_cl, am_fs, am_cd, am_NM, am_sz, am_code, am_step, am_ldc, am_bin, am_div, am_un, am_iload, am_aload, am_istore, am_astore, am_iinc, am_j1, am_j2, am_jr, am_dup, am_dup2, am_pop, am_ret, am_rt, am_rc, am_ml, am_slen, am_schr, am_m1, am_m2, ty_getf, ty_pi, ty_p0, ty_p1, ty_alen, ty_iald, ty_bald, ty_cald, ty_iast, ty_bast, ty_cast, ty_aald, ty_tald, ty_copy, ty_c1, ty_c2, ty_c3, ty_c4, ty_c5, ty_c6, ty_c7, ty_c8, ty_c9, ty_c10, ty_s0, ty_s1, ty_s2, ty_s3, ty_s4, ty_s5, ty_s6, List.mem_cons, List.not_mem_nil, or_false, false_or, or_true, true_or, and_true, true_and, and_self, Nat.reduceLT, Nat.reduceLeDiff, Nat.reduceEqDiff, Nat.add_eq_left, Nat.reduceAdd, Nat.reduceSub, ↓reduceIte, reduceCtorEq, List.getElem?_cons_zero, List.getElem?_cons_succ, List.set_cons_zero, List.set_cons_succ, List.length_cons, List.length_nil, List.take_succ_cons, List.take_zero, List.drop_succ_cons, List.drop_zero, List.reverse_cons, List.reverse_nil, List.nil_append, List.cons_append, am_entry, List.map_cons, List.map_nil, List.replicate_zero, List.replicate_succ, List.append_nil, decide_eq_true_eq, eq_self, am_ty, am_nf, wf_1, wf_2, wa_1, wa_2, wa_3, wr_1, wr_2, wr_3, ac_92, h1, h4, ly_vi h4, hn]
    rw [if_neg (nI_ge (by omega) (by omega)), sp_Bytes_at hB0 hn hle hc, at_n (by omega) (by omega)]
    dsimp only [am_push]
    rw [go_to [4]]; simp only [gs_u, fns_if, fns_nx, fns_no, fns_rt, fns_cl, am_fs, am_cd, am_NM, am_sz, am_code, am_step, am_ldc, am_bin, am_div, am_un, am_iload, am_aload, am_istore, am_astore, am_iinc, am_j1, am_j2, am_jr, am_dup, am_dup2, am_pop, am_ret, am_rt, am_rc, am_ml, am_slen, am_schr, am_m1, am_m2, ty_getf, ty_pi, ty_p0, ty_p1, ty_alen, ty_iald, ty_bald, ty_cald, ty_iast, ty_bast, ty_cast, ty_aald, ty_tald, ty_copy, ty_c1, ty_c2, ty_c3, ty_c4, ty_c5, ty_c6, ty_c7, ty_c8, ty_c9, ty_c10, ty_s0, ty_s1, ty_s2, ty_s3, ty_s4, ty_s5, ty_s6, List.mem_cons, List.not_mem_nil, or_false, false_or, or_true, true_or, and_true, true_and, and_self, Nat.reduceLT, Nat.reduceLeDiff, Nat.reduceEqDiff, Nat.add_eq_left, Nat.reduceAdd, Nat.reduceSub, ↓reduceIte, reduceCtorEq, List.getElem?_cons_zero, List.getElem?_cons_succ, List.set_cons_zero, List.set_cons_succ, List.length_cons, List.length_nil, List.take_succ_cons, List.take_zero, List.drop_succ_cons, List.drop_zero, List.reverse_cons, List.reverse_nil, List.nil_append, List.cons_append, am_entry, List.map_cons, List.map_nil, List.replicate_zero, List.replicate_succ, List.append_nil, decide_eq_true_eq, eq_self, am_ty, am_nf, wf_1, wf_2, wa_1, wa_2, wa_3, wr_1, wr_2, wr_3, ac_92, h1, h4, ly_vi h4, hn]
    have e3 : σ.2.1 (a + 1) i &&& 255 = 10 ↔ σ.2.1 (a + 1) i = 10 := by_eq (hb i (by omega)) (k := 10) (by omega)
    have e4 : nI n - 1 = nI (n - 1) := pk_sub (b := 1) (by omega)
    have e5 : nI i = nI (n - 1) ↔ i + 1 = n := (nI_eq (by omega) (by omega)).trans (by omega)
    rw [e4]
    have ih := ih (i + 1) (by omega)
    rw [ct_succ] at ih
    by_cases h7 : σ.2.1 (a + 1) i = 10
    · rw [if_pos (e3.mpr h7), nI_1, nI_1]
      rw [if_pos (Or.inl h7), List.length_append] at ih
      exact ih
    · rw [if_neg (fun q => h7 (e3.mp q))]
      by_cases h8 : i + 1 = n
      · rw [if_neg (fun q => q (e5.mpr h8)), nI_1, nI_1]
        rw [if_pos (Or.inr h8), List.length_append] at ih
        exact ih
      · rw [if_pos (fun q => h8 (e5.mp q)), nI_1]
        rw [if_neg (by rintro (q | q); exact h7 q; exact h8 q), List.append_nil] at ih
        exact ih
theorem sp_Text_countLines {σ : am_M} {a n : Nat} (hB : is_B a) (hn : σ.1 a 1 = nI n) (hle : n ≤ ly_n (a + 1)) (hc : ly_n (a + 1) < 2 ^ 31) (hb : is_b (σ.2.1 (a + 1)) n) : am_Go X 92 0 [some (.ref a), none, none] [] (hh σ) Q = Q (some (.int (nI (nl (σ.2.1 (a + 1)) n)))) (hh σ) := by
  rw [go_to [4]]; simp only [gs_u, fns_if, fns_nx, fns_no, fns_rt, fns_cl, am_fs, am_cd, am_NM, am_sz, am_code, am_step, am_ldc, am_bin, am_div, am_un, am_iload, am_aload, am_istore, am_astore, am_iinc, am_j1, am_j2, am_jr, am_dup, am_dup2, am_pop, am_ret, am_rt, am_rc, am_ml, am_slen, am_schr, am_m1, am_m2, ty_getf, ty_pi, ty_p0, ty_p1, ty_alen, ty_iald, ty_bald, ty_cald, ty_iast, ty_bast, ty_cast, ty_aald, ty_tald, ty_copy, ty_c1, ty_c2, ty_c3, ty_c4, ty_c5, ty_c6, ty_c7, ty_c8, ty_c9, ty_c10, ty_s0, ty_s1, ty_s2, ty_s3, ty_s4, ty_s5, ty_s6, List.mem_cons, List.not_mem_nil, or_false, false_or, or_true, true_or, and_true, true_and, and_self, Nat.reduceLT, Nat.reduceLeDiff, Nat.reduceEqDiff, Nat.add_eq_left, Nat.reduceAdd, Nat.reduceSub, ↓reduceIte, reduceCtorEq, List.getElem?_cons_zero, List.getElem?_cons_succ, List.set_cons_zero, List.set_cons_succ, List.length_cons, List.length_nil, List.take_succ_cons, List.take_zero, List.drop_succ_cons, List.drop_zero, List.reverse_cons, List.reverse_nil, List.nil_append, List.cons_append, am_entry, List.map_cons, List.map_nil, List.replicate_zero, List.replicate_succ, List.append_nil, decide_eq_true_eq, eq_self, am_ty, am_nf, wf_1, wf_2, wa_1, wa_2, wa_3, wr_1, wr_2, wr_3, ac_92, hn]
  exact lp_Text_countLines hB hn hle hc hb n 0 (by omega)
/-- the text at t while its lines are found: those before x -/
def fnd (σ : am_M) (t c : Nat) (f g : Nat → Int32) : am_M := wa (wa (wf σ t 3 (nI c)) (t + 3) f) (t + 4) g
theorem fnd_fi {σ : am_M} {t c b k : Nat} {f g : Nat → Int32} (h : ¬ (b = t ∧ k = 3)) : (fnd σ t c f g).1 b k = σ.1 b k := by simp [fnd, wf, wa, h]
theorem fnd_c {σ : am_M} {t c : Nat} {f g : Nat → Int32} : (fnd σ t c f g).1 t 3 = nI c := by simp [fnd, wf, wa]
theorem fnd_f {σ : am_M} {t c : Nat} {f g : Nat → Int32} : (fnd σ t c f g).2.1 (t + 3) = f := by simp [fnd, wf, wa]
theorem fnd_g {σ : am_M} {t c : Nat} {f g : Nat → Int32} : (fnd σ t c f g).2.1 (t + 4) = g := by simp [fnd, wf, wa]
theorem fnd_m {σ : am_M} {t c b : Nat} {f g : Nat → Int32} (h : b ≠ t + 3) (h2 : b ≠ t + 4) : (fnd σ t c f g).2.1 b = σ.2.1 b := by simp [fnd, wf, wa, h, h2]
theorem fnd_put {σ : am_M} {t c c2 : Nat} {f g f2 g2 : Nat → Int32} : wf (wa (wa (fnd σ t c f g) (t + 3) f2) (t + 4) g2) t 3 (nI c2) = fnd σ t c2 f2 g2 := by
  refine mm_ext (fun b k => ?_) (fun b i => ?_) (fun j => rfl)
  · by_cases h : b = t ∧ k = 3 <;> simp [fnd, wf, wa, h]
  · by_cases h : b = t + 4
    · simp [fnd, wf, wa, h]
    · by_cases h2 : b = t + 3 <;> simp [fnd, wf, wa, h, h2]
set_option maxRecDepth 100000 in
set_option maxHeartbeats 8000000 in
theorem lp_Text_findLines {σ : am_M} {t n : Nat} (hT : is_T t) (hn : σ.1 (t + 1) 1 = nI n) (hle : n ≤ 2000) (hb : is_b (σ.2.1 (t + 2)) n) (hl : nl (σ.2.1 (t + 2)) n ≤ 200) (hQ : ∀ f g, (∀ k, k < nl (σ.2.1 (t + 2)) n → f k = nI (sta (σ.2.1 (t + 2)) n k)) → (∀ k, k < nl (σ.2.1 (t + 2)) n → g k = hs (σ.2.1 (t + 2)) (sta (σ.2.1 (t + 2)) n k) (sta (σ.2.1 (t + 2)) n (k + 1) - sta (σ.2.1 (t + 2)) n k)) → Q none (hh (fnd σ t (nl (σ.2.1 (t + 2)) n) f g))) : ∀ (d x : Nat) (f g : Nat → Int32), x + d = n → (∀ k, k < (ct (σ.2.1 (t + 2)) n x).length → f k = nI (sta (σ.2.1 (t + 2)) n k)) → (∀ k, k < (ct (σ.2.1 (t + 2)) n x).length → g k = hs (σ.2.1 (t + 2)) (sta (σ.2.1 (t + 2)) n k) (sta (σ.2.1 (t + 2)) n (k + 1) - sta (σ.2.1 (t + 2)) n k)) → am_Go X 93 11 [some (.ref t), some (.int (nI (lst (ct (σ.2.1 (t + 2)) n x)))), some (.int (hs (σ.2.1 (t + 2)) (lst (ct (σ.2.1 (t + 2)) n x)) (x - lst (ct (σ.2.1 (t + 2)) n x)))), some (.int (nI x))] [] (hh (fnd σ t (ct (σ.2.1 (t + 2)) n x).length f g)) Q := by
  obtain ⟨h1, hB, ⟨h3, h4⟩, ⟨h5, h6, h7⟩, h8, h9, h10⟩ := hT
  have hB0 := hB
  obtain ⟨b1, b2, b3, b4, b5, b6⟩ := hB
  have v0 := fun σ => (h8 σ).1
  have v1 := fun σ => (h8 σ).2.1
  have v2 := fun σ => (h8 σ).2.2
  intro d
  induction d with
  | zero =>
    intro x f g hx hf hg
    obtain rfl : x = n := by omega
    have hn2 : (fnd σ t (ct (σ.2.1 (t + 2)) x x).length f g).1 (t + 1) 1 = nI x := by rw [fnd_fi (by omega)]; exact hn
    rw [go_to [11]]; simp only [gs_u, fns_if, fns_nx, fns_no, fns_rt, fns_cl, am_fs, am_cd, am_NM, am_sz, am_code, am_step, am_ldc, am_bin, am_div, am_un, am_iload, am_aload, am_istore, am_astore, am_iinc, am_j1, am_j2, am_jr, am_dup, am_dup2, am_pop, am_ret, am_rt, am_rc, am_ml, am_slen, am_schr, am_m1, am_m2, ty_getf, ty_pi, ty_p0, ty_p1, ty_alen, ty_iald, ty_bald, ty_cald, ty_iast, ty_bast, ty_cast, ty_aald, ty_tald, ty_copy, ty_c1, ty_c2, ty_c3, ty_c4, ty_c5, ty_c6, ty_c7, ty_c8, ty_c9, ty_c10, ty_s0, ty_s1, ty_s2, ty_s3, ty_s4, ty_s5, ty_s6, List.mem_cons, List.not_mem_nil, or_false, false_or, or_true, true_or, and_true, true_and, and_self, Nat.reduceLT, Nat.reduceLeDiff, Nat.reduceEqDiff, Nat.add_eq_left, Nat.reduceAdd, Nat.reduceSub, ↓reduceIte, reduceCtorEq, List.getElem?_cons_zero, List.getElem?_cons_succ, List.set_cons_zero, List.set_cons_succ, List.length_cons, List.length_nil, List.take_succ_cons, List.take_zero, List.drop_succ_cons, List.drop_zero, List.reverse_cons, List.reverse_nil, List.nil_append, List.cons_append, am_entry, List.map_cons, List.map_nil, List.replicate_zero, List.replicate_succ, List.append_nil, decide_eq_true_eq, eq_self, am_ty, am_nf, wf_1, wf_2, wa_1, wa_2, wa_3, wr_1, wr_2, wr_3, ac_93, aty9, h1, b1, v0, b4, ly_vi b4, hn2]
    rw [if_pos (nI_le (Nat.le_refl _) (by omega))]
    exact hQ f g hf hg
  | succ d ih =>
    intro x f g hx hf hg
    have hn2 : (fnd σ t (ct (σ.2.1 (t + 2)) n x).length f g).1 (t + 1) 1 = nI n := by rw [fnd_fi (by omega)]; exact hn
    have hmore := ct_more (f := σ.2.1 (t + 2)) (n := n) (x := x) (by omega)
    have q5 : ly_n (t + 1 + 1) = 2000 := h5
    have row : (fnd σ t (ct (σ.2.1 (t + 2)) n x).length f g).2.1 (t + 1 + 1) = σ.2.1 (t + 2) := fnd_m (by omega) (by omega)
    rw [go_to [11]]; simp only [gs_u, fns_if, fns_nx, fns_no, fns_rt, fns_cl, am_fs, am_cd, am_NM, am_sz, am_code, am_step, am_ldc, am_bin, am_div, am_un, am_iload, am_aload, am_istore, am_astore, am_iinc, am_j1, am_j2, am_jr, am_dup, am_dup2, am_pop, am_ret, am_rt, am_rc, am_ml, am_slen, am_schr, am_m1, am_m2, ty_getf, ty_pi, ty_p0, ty_p1, ty_alen, ty_iald, ty_bald, ty_cald, ty_iast, ty_bast, ty_cast, ty_aald, ty_tald, ty_copy, ty_c1, ty_c2, ty_c3, ty_c4, ty_c5, ty_c6, ty_c7, ty_c8, ty_c9, ty_c10, ty_s0, ty_s1, ty_s2, ty_s3, ty_s4, ty_s5, ty_s6, List.mem_cons, List.not_mem_nil, or_false, false_or, or_true, true_or, and_true, true_and, and_self, Nat.reduceLT, Nat.reduceLeDiff, Nat.reduceEqDiff, Nat.add_eq_left, Nat.reduceAdd, Nat.reduceSub, ↓reduceIte, reduceCtorEq, List.getElem?_cons_zero, List.getElem?_cons_succ, List.set_cons_zero, List.set_cons_succ, List.length_cons, List.length_nil, List.take_succ_cons, List.take_zero, List.drop_succ_cons, List.drop_zero, List.reverse_cons, List.reverse_nil, List.nil_append, List.cons_append, am_entry, List.map_cons, List.map_nil, List.replicate_zero, List.replicate_succ, List.append_nil, decide_eq_true_eq, eq_self, am_ty, am_nf, wf_1, wf_2, wa_1, wa_2, wa_3, wr_1, wr_2, wr_3, ac_93, aty9, h1, b1, v0, b4, ly_vi b4, hn2, h9, ly_vi h9, fnd_c]
    rw [if_neg (nI_ge (by omega) (by omega)), if_neg (show ¬ (200 : Int32) ≤ nI (ct (σ.2.1 (t + 2)) n x).length from nI_ge (b := 200) (by omega) (by omega)), sp_Bytes_at hB0 hn2 (by omega) (by omega), at_n (by omega) (by omega), row]
    dsimp only [am_push]
    rw [go_to [11]]; simp only [gs_u, fns_if, fns_nx, fns_no, fns_rt, fns_cl, am_fs, am_cd, am_NM, am_sz, am_code, am_step, am_ldc, am_bin, am_div, am_un, am_iload, am_aload, am_istore, am_astore, am_iinc, am_j1, am_j2, am_jr, am_dup, am_dup2, am_pop, am_ret, am_rt, am_rc, am_ml, am_slen, am_schr, am_m1, am_m2, ty_getf, ty_pi, ty_p0, ty_p1, ty_alen, ty_iald, ty_bald, ty_cald, ty_iast, ty_bast, ty_cast, ty_aald, ty_tald, ty_copy, ty_c1, ty_c2, ty_c3, ty_c4, ty_c5, ty_c6, ty_c7, ty_c8, ty_c9, ty_c10, ty_s0, ty_s1, ty_s2, ty_s3, ty_s4, ty_s5, ty_s6, List.mem_cons, List.not_mem_nil, or_false, false_or, or_true, true_or, and_true, true_and, and_self, Nat.reduceLT, Nat.reduceLeDiff, Nat.reduceEqDiff, Nat.add_eq_left, Nat.reduceAdd, Nat.reduceSub, ↓reduceIte, reduceCtorEq, List.getElem?_cons_zero, List.getElem?_cons_succ, List.set_cons_zero, List.set_cons_succ, List.length_cons, List.length_nil, List.take_succ_cons, List.take_zero, List.drop_succ_cons, List.drop_zero, List.reverse_cons, List.reverse_nil, List.nil_append, List.cons_append, am_entry, List.map_cons, List.map_nil, List.replicate_zero, List.replicate_succ, List.append_nil, decide_eq_true_eq, eq_self, am_ty, am_nf, wf_1, wf_2, wa_1, wa_2, wa_3, wr_1, wr_2, wr_3, ac_93, aty9, h1, b1, v0, b4, ly_vi b4, hn2, h9, ly_vi h9, fnd_c]
    rw [sp_Bytes_at hB0 hn2 (by omega) (by omega), at_n (by omega) (by omega), row]
    dsimp only [am_push]
    rw [go_to [11]]; simp only [gs_u, fns_if, fns_nx, fns_no, fns_rt, fns_cl, am_fs, am_cd, am_NM, am_sz, am_code, am_step, am_ldc, am_bin, am_div, am_un, am_iload, am_aload, am_istore, am_astore, am_iinc, am_j1, am_j2, am_jr, am_dup, am_dup2, am_pop, am_ret, am_rt, am_rc, am_ml, am_slen, am_schr, am_m1, am_m2, ty_getf, ty_pi, ty_p0, ty_p1, ty_alen, ty_iald, ty_bald, ty_cald, ty_iast, ty_bast, ty_cast, ty_aald, ty_tald, ty_copy, ty_c1, ty_c2, ty_c3, ty_c4, ty_c5, ty_c6, ty_c7, ty_c8, ty_c9, ty_c10, ty_s0, ty_s1, ty_s2, ty_s3, ty_s4, ty_s5, ty_s6, List.mem_cons, List.not_mem_nil, or_false, false_or, or_true, true_or, and_true, true_and, and_self, Nat.reduceLT, Nat.reduceLeDiff, Nat.reduceEqDiff, Nat.add_eq_left, Nat.reduceAdd, Nat.reduceSub, ↓reduceIte, reduceCtorEq, List.getElem?_cons_zero, List.getElem?_cons_succ, List.set_cons_zero, List.set_cons_succ, List.length_cons, List.length_nil, List.take_succ_cons, List.take_zero, List.drop_succ_cons, List.drop_zero, List.reverse_cons, List.reverse_nil, List.nil_append, List.cons_append, am_entry, List.map_cons, List.map_nil, List.replicate_zero, List.replicate_succ, List.append_nil, decide_eq_true_eq, eq_self, am_ty, am_nf, wf_1, wf_2, wa_1, wa_2, wa_3, wr_1, wr_2, wr_3, ac_93, aty9, h1, h3, h4, h6, h7, b1, v0, v1, v2, b4, ly_vi b4, hn2, h9, ly_vi h9, fnd_c]
    have e3 : σ.2.1 (t + 2) x &&& 255 = 10 ↔ σ.2.1 (t + 2) x = 10 := by_eq (hb x (by omega)) (k := 10) (by omega)
    have e4 : nI n - 1 = nI (n - 1) := pk_sub (b := 1) (by omega)
    have e5 : nI x = nI (n - 1) ↔ x + 1 = n := (nI_eq (by omega) (by omega)).trans (by omega)
    have hlst := ct_lst (f := σ.2.1 (t + 2)) (n := n) x
    have ehs : hs (σ.2.1 (t + 2)) (lst (ct (σ.2.1 (t + 2)) n x)) (x - lst (ct (σ.2.1 (t + 2)) n x)) * 31 + (σ.2.1 (t + 2) x &&& 255) = hs (σ.2.1 (t + 2)) (lst (ct (σ.2.1 (t + 2)) n x)) (x + 1 - lst (ct (σ.2.1 (t + 2)) n x)) := by
      rw [show x + 1 - lst (ct (σ.2.1 (t + 2)) n x) = x - lst (ct (σ.2.1 (t + 2)) n x) + 1 by omega, hs, show lst (ct (σ.2.1 (t + 2)) n x) + (x - lst (ct (σ.2.1 (t + 2)) n x)) = x by omega]
    have hidx : ¬ (nI (ct (σ.2.1 (t + 2)) n x).length < 0 ∨ 200 ≤ (nI (ct (σ.2.1 (t + 2)) n x).length).toNatClampNeg) := by
      rw [nI_clamp (by omega)]
      rintro (q | q)
      · exact nI_pos (by omega) q
      · omega
    rw [e4, ehs, if_neg hidx, if_neg hidx, nI_clamp (by omega), nI_1, nI_1, fnd_f, fnd_g, fnd_put]
    have cut : (σ.2.1 (t + 2) x = 10 ∨ x + 1 = n) → am_Go X 93 11 [some (.ref t), some (.int (nI (x + 1))), some (.int 0), some (.int (nI (x + 1)))] [] (hh (fnd σ t ((ct (σ.2.1 (t + 2)) n x).length + 1) (upd f (ct (σ.2.1 (t + 2)) n x).length (nI (lst (ct (σ.2.1 (t + 2)) n x)))) (upd g (ct (σ.2.1 (t + 2)) n x).length (hs (σ.2.1 (t + 2)) (lst (ct (σ.2.1 (t + 2)) n x)) (x + 1 - lst (ct (σ.2.1 (t + 2)) n x)))))) Q := by
      intro hcut
      have ec : ct (σ.2.1 (t + 2)) n (x + 1) = ct (σ.2.1 (t + 2)) n x ++ [x + 1] := by rw [ct_succ, if_pos hcut]
      have el : (ct (σ.2.1 (t + 2)) n (x + 1)).length = (ct (σ.2.1 (t + 2)) n x).length + 1 := by rw [ec, List.length_append]; rfl
      have es0 : sta (σ.2.1 (t + 2)) n (ct (σ.2.1 (t + 2)) n x).length = lst (ct (σ.2.1 (t + 2)) n x) := by
        rw [← sta_ct (x := x) (by omega) (Nat.le_refl _), lst_getD]
      have es1 : sta (σ.2.1 (t + 2)) n ((ct (σ.2.1 (t + 2)) n x).length + 1) = x + 1 := by
        rw [← el, ← sta_ct (x := x + 1) (by omega) (Nat.le_refl _), lst_getD, ec, lst_app]
      have ih2 := ih (x + 1) (upd f (ct (σ.2.1 (t + 2)) n x).length (nI (lst (ct (σ.2.1 (t + 2)) n x)))) (upd g (ct (σ.2.1 (t + 2)) n x).length (hs (σ.2.1 (t + 2)) (lst (ct (σ.2.1 (t + 2)) n x)) (x + 1 - lst (ct (σ.2.1 (t + 2)) n x)))) (by omega) (fun k hk => by
        rw [el] at hk
        unfold upd
        split
        · rename_i e
          rw [e, es0]
        · exact hf k (by omega)) (fun k hk => by
        rw [el] at hk
        unfold upd
        split
        · rename_i e
          rw [e, es0, es1]
        · exact hg k (by omega))
      rw [el, ec, lst_app, Nat.sub_self] at ih2
      exact ih2
    by_cases h11 : σ.2.1 (t + 2) x = 10
    · rw [if_pos (e3.mpr h11)]
      exact cut (Or.inl h11)
    · rw [if_neg (fun q => h11 (e3.mp q))]
      by_cases h12 : x + 1 = n
      · rw [if_neg (fun q => q (e5.mpr h12))]
        exact cut (Or.inr h12)
      · rw [if_pos (fun q => h12 (e5.mp q))]
        have ec : ct (σ.2.1 (t + 2)) n (x + 1) = ct (σ.2.1 (t + 2)) n x := by rw [ct_succ, if_neg (by rintro (q | q); exact h11 q; exact h12 q), List.append_nil]
        have ih2 := ih (x + 1) f g (by omega) (by rw [ec]; exact hf) (by rw [ec]; exact hg)
        rw [ec] at ih2
        exact ih2
theorem sp_Text_findLines {σ : am_M} {t n : Nat} (hT : is_T t) (hn : σ.1 (t + 1) 1 = nI n) (hle : n ≤ 2000) (hb : is_b (σ.2.1 (t + 2)) n) (hl : nl (σ.2.1 (t + 2)) n ≤ 200) (hQ : ∀ f g, (∀ k, k < nl (σ.2.1 (t + 2)) n → f k = nI (sta (σ.2.1 (t + 2)) n k)) → (∀ k, k < nl (σ.2.1 (t + 2)) n → g k = hs (σ.2.1 (t + 2)) (sta (σ.2.1 (t + 2)) n k) (sta (σ.2.1 (t + 2)) n (k + 1) - sta (σ.2.1 (t + 2)) n k)) → Q none (hh (fnd σ t (nl (σ.2.1 (t + 2)) n) f g))) : am_Go X 93 0 [some (.ref t), none, none, none] [] (hh σ) Q := by
  have h1 := hT.1
  have h9 := hT.2.2.2.2.2.1
  rw [go_to [11]]; simp only [gs_u, fns_if, fns_nx, fns_no, fns_rt, fns_cl, am_fs, am_cd, am_NM, am_sz, am_code, am_step, am_ldc, am_bin, am_div, am_un, am_iload, am_aload, am_istore, am_astore, am_iinc, am_j1, am_j2, am_jr, am_dup, am_dup2, am_pop, am_ret, am_rt, am_rc, am_ml, am_slen, am_schr, am_m1, am_m2, ty_getf, ty_pi, ty_p0, ty_p1, ty_alen, ty_iald, ty_bald, ty_cald, ty_iast, ty_bast, ty_cast, ty_aald, ty_tald, ty_copy, ty_c1, ty_c2, ty_c3, ty_c4, ty_c5, ty_c6, ty_c7, ty_c8, ty_c9, ty_c10, ty_s0, ty_s1, ty_s2, ty_s3, ty_s4, ty_s5, ty_s6, List.mem_cons, List.not_mem_nil, or_false, false_or, or_true, true_or, and_true, true_and, and_self, Nat.reduceLT, Nat.reduceLeDiff, Nat.reduceEqDiff, Nat.add_eq_left, Nat.reduceAdd, Nat.reduceSub, ↓reduceIte, reduceCtorEq, List.getElem?_cons_zero, List.getElem?_cons_succ, List.set_cons_zero, List.set_cons_succ, List.length_cons, List.length_nil, List.take_succ_cons, List.take_zero, List.drop_succ_cons, List.drop_zero, List.reverse_cons, List.reverse_nil, List.nil_append, List.cons_append, am_entry, List.map_cons, List.map_nil, List.replicate_zero, List.replicate_succ, List.append_nil, decide_eq_true_eq, eq_self, am_ty, am_nf, wf_1, wf_2, wa_1, wa_2, wa_3, wr_1, wr_2, wr_3, ac_93, aty9, h1, h9, ly_vi h9]
  have e : wf σ t 3 0 = fnd σ t 0 (σ.2.1 (t + 3)) (σ.2.1 (t + 4)) := by
    refine mm_ext (fun b k => rfl) (fun b i => ?_) (fun j => rfl)
    by_cases h : b = t + 4
    · simp [fnd, wf, wa, h]
    · by_cases h2 : b = t + 3 <;> simp [fnd, wf, wa, h, h2]
  rw [e]
  exact lp_Text_findLines hT hn hle hb hl hQ n 0 _ _ (by omega) (fun k hk => absurd hk (Nat.not_lt_zero k)) (fun k hk => absurd hk (Nat.not_lt_zero k))
end TX
