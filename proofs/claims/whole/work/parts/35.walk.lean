/-! the class's walk -/
/-- the first n of f are g's numbers -/
def rl (f : Nat → Int32) (g : Nat → Nat) (n : Nat) : Prop := ∀ k, k < n → f k = nI (g k)
theorem rl_upd {f : Nat → Int32} {g : Nat → Nat} {n m v : Nat} (h : rl f g n) : rl (upd f m (nI v)) (upn g m v) n := by
  intro k hk
  unfold upd upn
  split
  · rfl
  · exact h k hk
theorem rl_ext {f : Nat → Int32} {g : Nat → Nat} {n v : Nat} (h : rl f g n) : rl (upd f n (nI v)) (upn g n v) (n + 1) := by
  intro k hk
  unfold upd upn
  split
  · rfl
  · exact h k (by omega)
theorem upC_s {C : Nat → Nat → Nat} {w k v : Nat} : upC C w k v w = upn (C w) k v := by
  funext y
  simp [upC, upn]
theorem upC_n {C : Nat → Nat → Nat} {w k v x : Nat} (h : x ≠ w) : upC C w k v x = C x := by
  funext y
  simp [upC, h]
/-- what the class has of the walk -/
def Wr (σ : am_M) (w : Wk) : Prop := σ.1 70 6 = nI w.2.2.2.2.1 ∧ rl (σ.2.1 72) w.2.2.2.1 w.1 ∧ rl (σ.2.1 73) (w.2.2.2.2.2 0) w.2.2.2.2.1 ∧ rl (σ.2.1 74) (w.2.2.2.2.2 1) w.2.2.2.2.1 ∧ rl (σ.2.1 75) (w.2.2.2.2.2 2) w.2.2.2.2.1 ∧ rl (σ.2.1 76) (w.2.2.2.2.2 3) w.2.2.2.2.1
def cf (σ τ : am_M) : Prop := fr 70 76 σ τ ∧ τ.2.1 71 = σ.2.1 71 ∧ τ.1 70 9 = σ.1 70 9 ∧ τ.1 70 10 = σ.1 70 10
theorem cf_refl {σ : am_M} : cf σ σ := ⟨fr_refl, rfl, rfl, rfl⟩
theorem cf_trans {σ τ υ : am_M} (h1 : cf σ τ) (h2 : cf τ υ) : cf σ υ := ⟨fr_trans h1.1 h2.1, h2.2.1.trans h1.2.1, h2.2.2.1.trans h1.2.2.1, h2.2.2.2.trans h1.2.2.2⟩
theorem cf_wf {σ : am_M} {v : Int32} : cf σ (wf σ 70 6 v) := ⟨fr_wf (by omega), rfl, rfl, rfl⟩
theorem cf_wa {σ : am_M} {a : Nat} {f : Nat → Int32} (h : 72 ≤ a ∧ a ≤ 76) : cf σ (wa σ a f) := ⟨fr_wa (by omega), by rw [wa_2, if_neg (by omega)], rfl, rfl⟩
theorem Lp_cf {σ τ : am_M} {A B : List Int32} (h : Lp σ A B 0 0) (hf : cf σ τ) : Lp τ A B 0 0 := fun x y hx hy hxy => by rw [hf.2.1]; exact h x y hx hy hxy
section CP
variable {X : am_X} {t u : Nat} {A B : List Int32} {Q : Option Value → am_H → Prop}
set_option maxRecDepth 100000 in
set_option maxHeartbeats 4000000 in
theorem sx_beginChange {σ : am_M} {w : Wk} (h : Wr σ w) (ho : w.2.2.1 = false) (hn : w.2.2.2.2.1 ≤ 200) (hQ : ∀ τ, Wr τ (wkB w) → cf σ τ → Q none (hh τ)) : am_Go X 45 0 [some (.ref 70), some (.int (nI w.1)), some (.int (nI w.2.1))] [] (hh σ) Q := by
  obtain ⟨i, j, o, p, n, C⟩ := w
  dsimp only at ho hn
  obtain ⟨h1, h2, h3, h4, h5, h6⟩ := h
  dsimp only at h1 h2 h3 h4 h5 h6
  rw [go_to []]; simp only [gs_u, fns_if, fns_nx, fns_no, fns_rt, fns_cl, am_fs, am_cd, am_NM, am_sz, am_code, am_step, am_ldc, am_bin, am_div, am_un, am_iload, am_aload, am_istore, am_astore, am_iinc, am_j1, am_j2, am_jr, am_dup, am_dup2, am_pop, am_ret, am_rt, am_rc, am_ml, am_slen, am_schr, am_m1, am_m2, ty_getf, ty_pi, ty_p0, ty_p1, ty_alen, ty_iald, ty_bald, ty_cald, ty_iast, ty_bast, ty_cast, ty_aald, ty_tald, ty_copy, ty_c1, ty_c2, ty_c3, ty_c4, ty_c5, ty_c6, ty_c7, ty_c8, ty_c9, ty_c10, ty_s0, ty_s1, ty_s2, ty_s3, ty_s4, ty_s5, ty_s6, List.mem_cons, List.not_mem_nil, or_false, false_or, or_true, true_or, and_true, true_and, and_self, Nat.reduceLT, Nat.reduceLeDiff, Nat.reduceEqDiff, Nat.add_eq_left, Nat.reduceAdd, Nat.reduceSub, ↓reduceIte, reduceCtorEq, List.getElem?_cons_zero, List.getElem?_cons_succ, List.set_cons_zero, List.set_cons_succ, List.length_cons, List.length_nil, List.take_succ_cons, List.take_zero, List.drop_succ_cons, List.drop_zero, List.reverse_cons, List.reverse_nil, List.nil_append, List.cons_append, am_entry, List.map_cons, List.map_nil, List.replicate_zero, List.replicate_succ, List.append_nil, decide_eq_true_eq, eq_self, am_ty, am_nf, wf_1, wf_2, wa_1, wa_2, wa_3, wr_1, wr_2, wr_3, ty_q0, ty_q1, ty_q2, i_if, and_false, false_and, ac_45, aty3, kc_70, lv_70_0, lv_70_1, lv_70_2, lv_70_3, lv_70_4, lv_70_5, lv_70_6, li_70_6, lv_70_7, lv_70_8, lv_70_9, li_70_9, lv_70_10, li_70_10, kc_71, kn_71, kc_72, kn_72, kc_73, kn_73, kc_74, kn_74, kc_75, kn_75, kc_76, kn_76, h1]
  simp (disch := first | omega | assumption) only [↓mI_i, li_0, li_1, li_2, li_3, li_4, li_5, li_6, li_7, li_8, li_9, li_10, li_16, li_20, li_24, li_31, li_32, li_43, li_44, li_45, li_46, li_48, li_57, li_62, li_64, li_97, li_99, li_100, li_200, li_201, li_202, li_255, li_401, li_500, li_2000, li_5980, li_6000, li_6002, li_9000, li_10000, li_20000, li_40401, li_100000, li_1000000, nI_leI, nI_ltI, nI_eq, mI_eq, mI_eq2, mI_lt, mI_le, mI_gt, mI_ge, nI_m1, nI_add, pk_sub, pk_mul, nI_clamp, bq0, bq1, ite_not, Classical.not_not, or_false, false_or, or_self, not_true_eq_false, not_false_eq_true, ↓reduceIte, ite_true, ite_false, true_or, or_true, and_true, true_and, ne_eq, if_pos, if_neg]
  refine hQ _ ?_ (cf_trans (cf_trans (cf_trans (cf_trans (cf_wa (by omega)) (cf_wa (by omega))) (cf_wa (by omega))) (cf_wa (by omega))) cf_wf)
  subst ho
  show Wr _ (i, j, true, p, n + 1, upC (upC (upC (upC C 0 n i) 2 n j) 1 n 0) 3 n 0)
  unfold Wr
  dsimp only
  refine ⟨by simp [wf], ?_, ?_, ?_, ?_, ?_⟩
  · simpa [wf, wa] using h2
  · rw [upC_n (by decide), upC_n (by decide), upC_n (by decide), upC_s]
    simpa [wf, wa] using rl_ext (v := i) h3
  · rw [upC_n (by decide), upC_s, upC_n (by decide), upC_n (by decide)]
    simpa [wf, wa] using rl_ext (v := 0) h4
  · rw [upC_n (by decide), upC_n (by decide), upC_s, upC_n (by decide)]
    simpa [wf, wa] using rl_ext (v := j) h5
  · rw [upC_s, upC_n (by decide), upC_n (by decide), upC_n (by decide)]
    simpa [wf, wa] using rl_ext (v := 0) h6
set_option maxRecDepth 100000 in
set_option maxHeartbeats 8000000 in
theorem lp_walk (hT : is_T t) (hU : is_T u) (ht : 76 < t ∨ t + 4 < 70) (hu : 76 < u ∨ u + 4 < 70) : ∀ (d : Nat) (w : Wk) (σ : am_M) (v5 : Option Value), d ≤ 400 → σ.2.2 2 = t → σ.2.2 3 = u → Tx σ t A → Tx σ u B → Lp σ A B 0 0 → wkI A B w → Wr σ w → (∀ τ, Wr τ (wk A B d w) → cf σ τ → Q none (hh τ)) → am_Go X 43 28 [some (.ref 70), some (.int (if w.2.2.1 = true then nI 1 else nI 0)), some (.int (nI w.1)), some (.int (nI w.2.1)), some (.int (nI d)), v5] [] (hh σ) Q := by
  intro d
  induction d with
  | zero =>
    intro w σ v5 hd r1 r2 xt xu hL hI h hQ
    rw [go_to [28]]; simp only [gs_u, fns_if, fns_nx, fns_no, fns_rt, fns_cl, am_fs, am_cd, am_NM, am_sz, am_code, am_step, am_ldc, am_bin, am_div, am_un, am_iload, am_aload, am_istore, am_astore, am_iinc, am_j1, am_j2, am_jr, am_dup, am_dup2, am_pop, am_ret, am_rt, am_rc, am_ml, am_slen, am_schr, am_m1, am_m2, ty_getf, ty_pi, ty_p0, ty_p1, ty_alen, ty_iald, ty_bald, ty_cald, ty_iast, ty_bast, ty_cast, ty_aald, ty_tald, ty_copy, ty_c1, ty_c2, ty_c3, ty_c4, ty_c5, ty_c6, ty_c7, ty_c8, ty_c9, ty_c10, ty_s0, ty_s1, ty_s2, ty_s3, ty_s4, ty_s5, ty_s6, List.mem_cons, List.not_mem_nil, or_false, false_or, or_true, true_or, and_true, true_and, and_self, Nat.reduceLT, Nat.reduceLeDiff, Nat.reduceEqDiff, Nat.add_eq_left, Nat.reduceAdd, Nat.reduceSub, ↓reduceIte, reduceCtorEq, List.getElem?_cons_zero, List.getElem?_cons_succ, List.set_cons_zero, List.set_cons_succ, List.length_cons, List.length_nil, List.take_succ_cons, List.take_zero, List.drop_succ_cons, List.drop_zero, List.reverse_cons, List.reverse_nil, List.nil_append, List.cons_append, am_entry, List.map_cons, List.map_nil, List.replicate_zero, List.replicate_succ, List.append_nil, decide_eq_true_eq, eq_self, am_ty, am_nf, wf_1, wf_2, wa_1, wa_2, wa_3, wr_1, wr_2, wr_3, ty_q0, ty_q1, ty_q2, i_if, and_false, false_and, ac_43, aty3, kc_70, lv_70_0, lv_70_1, lv_70_2, lv_70_3, lv_70_4, lv_70_5, lv_70_6, li_70_6, lv_70_7, lv_70_8, lv_70_9, li_70_9, lv_70_10, li_70_10]
    simp (disch := first | omega | assumption) only [↓mI_i, li_0, li_1, li_2, li_3, li_4, li_5, li_6, li_7, li_8, li_9, li_10, li_16, li_20, li_24, li_31, li_32, li_43, li_44, li_45, li_46, li_48, li_57, li_62, li_64, li_97, li_99, li_100, li_200, li_201, li_202, li_255, li_401, li_500, li_2000, li_5980, li_6000, li_6002, li_9000, li_10000, li_20000, li_40401, li_100000, li_1000000, nI_leI, nI_ltI, nI_eq, mI_eq, mI_eq2, mI_lt, mI_le, mI_gt, mI_ge, nI_m1, nI_add, pk_sub, pk_mul, nI_clamp, bq0, bq1, ite_not, Classical.not_not, or_false, false_or, or_self, not_true_eq_false, not_false_eq_true, ↓reduceIte, ite_true, ite_false, true_or, or_true, and_true, true_and, ne_eq, if_pos, if_neg]
    exact hQ σ h cf_refl
  | succ d ih =>
    intro w σ v5 hd r1 r2 xt xu hL hI h hQ
    have na := xt.2.2.2.2.2.1
    have nb := xu.2.2.2.2.2.1
    have na2 := xt.2.2.2.2.1
    have nb2 := xu.2.2.2.2.1
    have t9 := hT.2.2.2.2.2.1
    have u9 := hU.2.2.2.2.2.1
    have i1 := hI.1
    have i2 := hI.2.1
    have i3 := hI.2.2.1
    have i4 := hI.2.2.2.1
    rw [go_to [28]]; simp only [gs_u, fns_if, fns_nx, fns_no, fns_rt, fns_cl, am_fs, am_cd, am_NM, am_sz, am_code, am_step, am_ldc, am_bin, am_div, am_un, am_iload, am_aload, am_istore, am_astore, am_iinc, am_j1, am_j2, am_jr, am_dup, am_dup2, am_pop, am_ret, am_rt, am_rc, am_ml, am_slen, am_schr, am_m1, am_m2, ty_getf, ty_pi, ty_p0, ty_p1, ty_alen, ty_iald, ty_bald, ty_cald, ty_iast, ty_bast, ty_cast, ty_aald, ty_tald, ty_copy, ty_c1, ty_c2, ty_c3, ty_c4, ty_c5, ty_c6, ty_c7, ty_c8, ty_c9, ty_c10, ty_s0, ty_s1, ty_s2, ty_s3, ty_s4, ty_s5, ty_s6, List.mem_cons, List.not_mem_nil, or_false, false_or, or_true, true_or, and_true, true_and, and_self, Nat.reduceLT, Nat.reduceLeDiff, Nat.reduceEqDiff, Nat.add_eq_left, Nat.reduceAdd, Nat.reduceSub, ↓reduceIte, reduceCtorEq, List.getElem?_cons_zero, List.getElem?_cons_succ, List.set_cons_zero, List.set_cons_succ, List.length_cons, List.length_nil, List.take_succ_cons, List.take_zero, List.drop_succ_cons, List.drop_zero, List.reverse_cons, List.reverse_nil, List.nil_append, List.cons_append, am_entry, List.map_cons, List.map_nil, List.replicate_zero, List.replicate_succ, List.append_nil, decide_eq_true_eq, eq_self, am_ty, am_nf, wf_1, wf_2, wa_1, wa_2, wa_3, wr_1, wr_2, wr_3, ty_q0, ty_q1, ty_q2, i_if, and_false, false_and, ac_43, aty3, kc_70, lv_70_0, lv_70_1, lv_70_2, lv_70_3, lv_70_4, lv_70_5, lv_70_6, li_70_6, lv_70_7, lv_70_8, lv_70_9, li_70_9, lv_70_10, li_70_10, hT.1, hU.1, r1, r2, u9, ly_vi u9, nb2, t9, ly_vi t9, na2]
    simp (disch := first | omega | assumption) only [↓mI_i, li_0, li_1, li_2, li_3, li_4, li_5, li_6, li_7, li_8, li_9, li_10, li_16, li_20, li_24, li_31, li_32, li_43, li_44, li_45, li_46, li_48, li_57, li_62, li_64, li_97, li_99, li_100, li_200, li_201, li_202, li_255, li_401, li_500, li_2000, li_5980, li_6000, li_6002, li_9000, li_10000, li_20000, li_40401, li_100000, li_1000000, nI_leI, nI_ltI, nI_eq, mI_eq, mI_eq2, mI_lt, mI_le, mI_gt, mI_ge, nI_m1, nI_add, pk_sub, pk_mul, nI_clamp, bq0, bq1, ite_not, Classical.not_not, or_false, false_or, or_self, not_true_eq_false, not_false_eq_true, ↓reduceIte, ite_true, ite_false, true_or, or_true, and_true, true_and, ne_eq, if_pos, if_neg]
    by_cases hc : w.1 < lnum A ∨ w.2.1 < lnum B
    case neg =>
      simp (disch := first | omega | assumption) only [↓mI_i, li_0, li_1, li_2, li_3, li_4, li_5, li_6, li_7, li_8, li_9, li_10, li_16, li_20, li_24, li_31, li_32, li_43, li_44, li_45, li_46, li_48, li_57, li_62, li_64, li_97, li_99, li_100, li_200, li_201, li_202, li_255, li_401, li_500, li_2000, li_5980, li_6000, li_6002, li_9000, li_10000, li_20000, li_40401, li_100000, li_1000000, nI_leI, nI_ltI, nI_eq, mI_eq, mI_eq2, mI_lt, mI_le, mI_gt, mI_ge, nI_m1, nI_add, pk_sub, pk_mul, nI_clamp, bq0, bq1, ite_not, Classical.not_not, or_false, false_or, or_self, not_true_eq_false, not_false_eq_true, ↓reduceIte, ite_true, ite_false, true_or, or_true, and_true, true_and, ne_eq, if_pos, if_neg]
      refine hQ σ ?_ cf_refl
      rw [wk, if_neg hc]
      exact h
    have hk : wk A B (d + 1) w = wk A B d (wk1 A B w) := by rw [wk, if_pos hc]
    have hI1 := (wkI_1 hI hc).1
    rw [hk] at hQ
    have mid : ∀ (τ : am_M) (v1 : Option Value), ¬ alk A B w.1 w.2.1 → Wr τ (wkB w) → cf σ τ → am_Go X 43 85 [some (.ref 70), v1, some (.int (nI w.1)), some (.int (nI w.2.1)), some (.int (nI (d + 1))), some (.int (nI 0))] [] (hh τ) Q := by
      intro τ v1 ha hτ hf
      obtain ⟨b1, b2, b3, b4, b5⟩ := wkI_B hI
      have r1 : τ.2.2 2 = t := by rw [hf.1.2.2]; exact r1
      have r2 : τ.2.2 3 = u := by rw [hf.1.2.2]; exact r2
      have xt := Tx_fr xt hf.1 (by omega)
      have xu := Tx_fr xu hf.1 (by omega)
      have hL := Lp_cf hL hf
      have j3 := b1.2.2.1
      have j5 := b1.2.2.2.2.1 b2
      have hB1 : wk1 A B w = if goes A B w.1 w.2.1 then wkG (wkB w) else wkC (wkB w) := by rw [wk1, if_neg ha]
      obtain ⟨h1, h2, h3, h4, h5, h6⟩ := hτ
      rw [b3] at h2 j3
      rw [go_to [28]]; simp only [gs_u, fns_if, fns_nx, fns_no, fns_rt, fns_cl, am_fs, am_cd, am_NM, am_sz, am_code, am_step, am_ldc, am_bin, am_div, am_un, am_iload, am_aload, am_istore, am_astore, am_iinc, am_j1, am_j2, am_jr, am_dup, am_dup2, am_pop, am_ret, am_rt, am_rc, am_ml, am_slen, am_schr, am_m1, am_m2, ty_getf, ty_pi, ty_p0, ty_p1, ty_alen, ty_iald, ty_bald, ty_cald, ty_iast, ty_bast, ty_cast, ty_aald, ty_tald, ty_copy, ty_c1, ty_c2, ty_c3, ty_c4, ty_c5, ty_c6, ty_c7, ty_c8, ty_c9, ty_c10, ty_s0, ty_s1, ty_s2, ty_s3, ty_s4, ty_s5, ty_s6, List.mem_cons, List.not_mem_nil, or_false, false_or, or_true, true_or, and_true, true_and, and_self, Nat.reduceLT, Nat.reduceLeDiff, Nat.reduceEqDiff, Nat.add_eq_left, Nat.reduceAdd, Nat.reduceSub, ↓reduceIte, reduceCtorEq, List.getElem?_cons_zero, List.getElem?_cons_succ, List.set_cons_zero, List.set_cons_succ, List.length_cons, List.length_nil, List.take_succ_cons, List.take_zero, List.drop_succ_cons, List.drop_zero, List.reverse_cons, List.reverse_nil, List.nil_append, List.cons_append, am_entry, List.map_cons, List.map_nil, List.replicate_zero, List.replicate_succ, List.append_nil, decide_eq_true_eq, eq_self, am_ty, am_nf, wf_1, wf_2, wa_1, wa_2, wa_3, wr_1, wr_2, wr_3, ty_q0, ty_q1, ty_q2, i_if, and_false, false_and, ac_43, aty3, kc_70, lv_70_0, lv_70_1, lv_70_2, lv_70_3, lv_70_4, lv_70_5, lv_70_6, li_70_6, lv_70_7, lv_70_8, lv_70_9, li_70_9, lv_70_10, li_70_10, kc_72, kn_72, hT.1, hU.1, r1, r2]
      simp (disch := first | omega | assumption) only [↓mI_i, li_0, li_1, li_2, li_3, li_4, li_5, li_6, li_7, li_8, li_9, li_10, li_16, li_20, li_24, li_31, li_32, li_43, li_44, li_45, li_46, li_48, li_57, li_62, li_64, li_97, li_99, li_100, li_200, li_201, li_202, li_255, li_401, li_500, li_2000, li_5980, li_6000, li_6002, li_9000, li_10000, li_20000, li_40401, li_100000, li_1000000, nI_leI, nI_ltI, nI_eq, mI_eq, mI_eq2, mI_lt, mI_le, mI_gt, mI_ge, nI_m1, nI_add, pk_sub, pk_mul, nI_clamp, bq0, bq1, ite_not, Classical.not_not, or_false, false_or, or_self, not_true_eq_false, not_false_eq_true, ↓reduceIte, ite_true, ite_false, true_or, or_true, and_true, true_and, ne_eq, if_pos, if_neg]
      rw [sx_goesAt hT hU r1 r2 xt xu hL (by omega) (by omega)]
      dsimp only [am_push]
      rw [go_to [28]]; simp only [gs_u, fns_if, fns_nx, fns_no, fns_rt, fns_cl, am_fs, am_cd, am_NM, am_sz, am_code, am_step, am_ldc, am_bin, am_div, am_un, am_iload, am_aload, am_istore, am_astore, am_iinc, am_j1, am_j2, am_jr, am_dup, am_dup2, am_pop, am_ret, am_rt, am_rc, am_ml, am_slen, am_schr, am_m1, am_m2, ty_getf, ty_pi, ty_p0, ty_p1, ty_alen, ty_iald, ty_bald, ty_cald, ty_iast, ty_bast, ty_cast, ty_aald, ty_tald, ty_copy, ty_c1, ty_c2, ty_c3, ty_c4, ty_c5, ty_c6, ty_c7, ty_c8, ty_c9, ty_c10, ty_s0, ty_s1, ty_s2, ty_s3, ty_s4, ty_s5, ty_s6, List.mem_cons, List.not_mem_nil, or_false, false_or, or_true, true_or, and_true, true_and, and_self, Nat.reduceLT, Nat.reduceLeDiff, Nat.reduceEqDiff, Nat.add_eq_left, Nat.reduceAdd, Nat.reduceSub, ↓reduceIte, reduceCtorEq, List.getElem?_cons_zero, List.getElem?_cons_succ, List.set_cons_zero, List.set_cons_succ, List.length_cons, List.length_nil, List.take_succ_cons, List.take_zero, List.drop_succ_cons, List.drop_zero, List.reverse_cons, List.reverse_nil, List.nil_append, List.cons_append, am_entry, List.map_cons, List.map_nil, List.replicate_zero, List.replicate_succ, List.append_nil, decide_eq_true_eq, eq_self, am_ty, am_nf, wf_1, wf_2, wa_1, wa_2, wa_3, wr_1, wr_2, wr_3, ty_q0, ty_q1, ty_q2, i_if, and_false, false_and, ac_43, aty3, kc_70, lv_70_0, lv_70_1, lv_70_2, lv_70_3, lv_70_4, lv_70_5, lv_70_6, li_70_6, lv_70_7, lv_70_8, lv_70_9, li_70_9, lv_70_10, li_70_10, kc_71, kn_71, kc_72, kn_72, kc_73, kn_73, kc_74, kn_74, kc_75, kn_75, kc_76, kn_76, hT.1, hU.1, r1, r2, h1]
      have g1 := h4 ((wkB w).2.2.2.2.1 - 1) (by omega)
      have g2 := h6 ((wkB w).2.2.2.2.1 - 1) (by omega)
      simp (disch := first | omega | assumption) only [↓mI_i, li_0, li_1, li_2, li_3, li_4, li_5, li_6, li_7, li_8, li_9, li_10, li_16, li_20, li_24, li_31, li_32, li_43, li_44, li_45, li_46, li_48, li_57, li_62, li_64, li_97, li_99, li_100, li_200, li_201, li_202, li_255, li_401, li_500, li_2000, li_5980, li_6000, li_6002, li_9000, li_10000, li_20000, li_40401, li_100000, li_1000000, nI_leI, nI_ltI, nI_eq, mI_eq, mI_eq2, mI_lt, mI_le, mI_gt, mI_ge, nI_m1, nI_add, pk_sub, pk_mul, nI_clamp, bq0, bq1, ite_not, Classical.not_not, or_false, false_or, or_self, not_true_eq_false, not_false_eq_true, ↓reduceIte, ite_true, ite_false, true_or, or_true, and_true, true_and, ne_eq, if_pos, if_neg, g1, g2]
      by_cases hg : goes A B w.1 w.2.1
      · rw [if_pos hg] at hB1 ⊢
        rw [hB1] at hI1 hQ
        have f2 : cf τ (wa (wa τ 72 (upd (τ.2.1 72) w.1 (nI 0))) 74 (upd (τ.2.1 74) ((wkB w).2.2.2.2.1 - 1) (nI ((wkB w).2.2.2.2.2 1 ((wkB w).2.2.2.2.1 - 1) + 1)))) := cf_trans (cf_wa (by omega)) (cf_wa (by omega))
        have ih2 := ih (wkG (wkB w)) _ (some (.int (nI 0))) (by omega) (by rw [f2.1.2.2]; exact r1) (by rw [f2.1.2.2]; exact r2) (Tx_fr xt f2.1 (by omega)) (Tx_fr xu f2.1 (by omega)) (Lp_cf hL f2) hI1 (by
          refine ⟨h1, ?_, h3, ?_, h5, h6⟩
          · simp only [wkG, b3, b5]
            simp only [wa_2]
            exact rl_ext (v := 0) (by rw [← b5]; exact h2)
          · simp only [wkG, upC_s, wa_2]
            exact rl_upd h4) (fun υ hυ hf3 => hQ υ hυ (cf_trans hf (cf_trans f2 hf3)))
        simp only [wkG, b3, b4] at ih2
        exact ih2
      · rw [if_neg hg] at hB1 ⊢
        rw [hB1] at hI1 hQ
        have f2 : cf τ (wa τ 76 (upd (τ.2.1 76) ((wkB w).2.2.2.2.1 - 1) (nI ((wkB w).2.2.2.2.2 3 ((wkB w).2.2.2.2.1 - 1) + 1)))) := cf_wa (by omega)
        have ih2 := ih (wkC (wkB w)) _ (some (.int (nI 0))) (by omega) (by rw [f2.1.2.2]; exact r1) (by rw [f2.1.2.2]; exact r2) (Tx_fr xt f2.1 (by omega)) (Tx_fr xu f2.1 (by omega)) (Lp_cf hL f2) hI1 (by
          refine ⟨h1, ?_, h3, h4, h5, ?_⟩
          · simp only [wkC, b3]
            exact h2
          · simp only [wkC, upC_s, wa_2]
            exact rl_upd h6) (fun υ hυ hf3 => hQ υ hυ (cf_trans hf (cf_trans f2 hf3)))
        simp only [wkC, b3, b4] at ih2
        exact ih2
    have key : am_Go X 91 0 [some (.ref t), some (.int (nI w.1)), some (.ref u), some (.int (nI w.2.1))] [] (hh σ) (fun v H1 => am_Go X 43 68 [some (.ref 70), some (.int (if w.2.2.1 = true then nI 1 else nI 0)), some (.int (nI w.1)), some (.int (nI w.2.1)), some (.int (nI (d + 1))), v5] (am_push v []) H1 Q) := by
      rw [sx_Text_isAlike hT xt hU xu (by omega) (by omega)]
      dsimp only [am_push]
      by_cases ha : alk A B w.1 w.2.1
      · have e1 : wk1 A B w = wkP w := by rw [wk1, if_pos ha]
        have ha1 := ha.1
        rw [e1] at hI1 hQ
        obtain ⟨h1, h2, h3, h4, h5, h6⟩ := h
        rw [if_pos ha]
        rw [go_to [28]]; simp only [gs_u, fns_if, fns_nx, fns_no, fns_rt, fns_cl, am_fs, am_cd, am_NM, am_sz, am_code, am_step, am_ldc, am_bin, am_div, am_un, am_iload, am_aload, am_istore, am_astore, am_iinc, am_j1, am_j2, am_jr, am_dup, am_dup2, am_pop, am_ret, am_rt, am_rc, am_ml, am_slen, am_schr, am_m1, am_m2, ty_getf, ty_pi, ty_p0, ty_p1, ty_alen, ty_iald, ty_bald, ty_cald, ty_iast, ty_bast, ty_cast, ty_aald, ty_tald, ty_copy, ty_c1, ty_c2, ty_c3, ty_c4, ty_c5, ty_c6, ty_c7, ty_c8, ty_c9, ty_c10, ty_s0, ty_s1, ty_s2, ty_s3, ty_s4, ty_s5, ty_s6, List.mem_cons, List.not_mem_nil, or_false, false_or, or_true, true_or, and_true, true_and, and_self, Nat.reduceLT, Nat.reduceLeDiff, Nat.reduceEqDiff, Nat.add_eq_left, Nat.reduceAdd, Nat.reduceSub, ↓reduceIte, reduceCtorEq, List.getElem?_cons_zero, List.getElem?_cons_succ, List.set_cons_zero, List.set_cons_succ, List.length_cons, List.length_nil, List.take_succ_cons, List.take_zero, List.drop_succ_cons, List.drop_zero, List.reverse_cons, List.reverse_nil, List.nil_append, List.cons_append, am_entry, List.map_cons, List.map_nil, List.replicate_zero, List.replicate_succ, List.append_nil, decide_eq_true_eq, eq_self, am_ty, am_nf, wf_1, wf_2, wa_1, wa_2, wa_3, wr_1, wr_2, wr_3, ty_q0, ty_q1, ty_q2, i_if, and_false, false_and, ac_43, aty3, kc_70, lv_70_0, lv_70_1, lv_70_2, lv_70_3, lv_70_4, lv_70_5, lv_70_6, li_70_6, lv_70_7, lv_70_8, lv_70_9, li_70_9, lv_70_10, li_70_10, kc_72, kn_72, hT.1, hU.1, r1, r2]
        simp (disch := first | omega | assumption) only [↓mI_i, li_0, li_1, li_2, li_3, li_4, li_5, li_6, li_7, li_8, li_9, li_10, li_16, li_20, li_24, li_31, li_32, li_43, li_44, li_45, li_46, li_48, li_57, li_62, li_64, li_97, li_99, li_100, li_200, li_201, li_202, li_255, li_401, li_500, li_2000, li_5980, li_6000, li_6002, li_9000, li_10000, li_20000, li_40401, li_100000, li_1000000, nI_leI, nI_ltI, nI_eq, mI_eq, mI_eq2, mI_lt, mI_le, mI_gt, mI_ge, nI_m1, nI_add, pk_sub, pk_mul, nI_clamp, bq0, bq1, ite_not, Classical.not_not, or_false, false_or, or_self, not_true_eq_false, not_false_eq_true, ↓reduceIte, ite_true, ite_false, true_or, or_true, and_true, true_and, ne_eq, if_pos, if_neg]
        have f2 : cf σ (wa σ 72 (upd (σ.2.1 72) w.1 (nI (w.2.1 + 1)))) := cf_wa (by omega)
        refine ih (wkP w) _ _ (by omega) (by rw [f2.1.2.2]; exact r1) (by rw [f2.1.2.2]; exact r2) (Tx_fr xt f2.1 (by omega)) (Tx_fr xu f2.1 (by omega)) (Lp_cf hL f2) hI1 ⟨h1, ?_, h3, h4, h5, h6⟩ (fun υ hυ hf3 => hQ υ hυ (cf_trans f2 hf3))
        exact rl_ext h2
      · rw [if_neg ha]
        rw [go_to [28, 85]]; simp only [gs_u, fns_if, fns_nx, fns_no, fns_rt, fns_cl, am_fs, am_cd, am_NM, am_sz, am_code, am_step, am_ldc, am_bin, am_div, am_un, am_iload, am_aload, am_istore, am_astore, am_iinc, am_j1, am_j2, am_jr, am_dup, am_dup2, am_pop, am_ret, am_rt, am_rc, am_ml, am_slen, am_schr, am_m1, am_m2, ty_getf, ty_pi, ty_p0, ty_p1, ty_alen, ty_iald, ty_bald, ty_cald, ty_iast, ty_bast, ty_cast, ty_aald, ty_tald, ty_copy, ty_c1, ty_c2, ty_c3, ty_c4, ty_c5, ty_c6, ty_c7, ty_c8, ty_c9, ty_c10, ty_s0, ty_s1, ty_s2, ty_s3, ty_s4, ty_s5, ty_s6, List.mem_cons, List.not_mem_nil, or_false, false_or, or_true, true_or, and_true, true_and, and_self, Nat.reduceLT, Nat.reduceLeDiff, Nat.reduceEqDiff, Nat.add_eq_left, Nat.reduceAdd, Nat.reduceSub, ↓reduceIte, reduceCtorEq, List.getElem?_cons_zero, List.getElem?_cons_succ, List.set_cons_zero, List.set_cons_succ, List.length_cons, List.length_nil, List.take_succ_cons, List.take_zero, List.drop_succ_cons, List.drop_zero, List.reverse_cons, List.reverse_nil, List.nil_append, List.cons_append, am_entry, List.map_cons, List.map_nil, List.replicate_zero, List.replicate_succ, List.append_nil, decide_eq_true_eq, eq_self, am_ty, am_nf, wf_1, wf_2, wa_1, wa_2, wa_3, wr_1, wr_2, wr_3, ty_q0, ty_q1, ty_q2, i_if, and_false, false_and, ac_43, aty3, kc_70, lv_70_0, lv_70_1, lv_70_2, lv_70_3, lv_70_4, lv_70_5, lv_70_6, li_70_6, lv_70_7, lv_70_8, lv_70_9, li_70_9, lv_70_10, li_70_10, kc_72, kn_72, hT.1, hU.1, r1, r2]
        simp (disch := first | omega | assumption) only [↓mI_i, li_0, li_1, li_2, li_3, li_4, li_5, li_6, li_7, li_8, li_9, li_10, li_16, li_20, li_24, li_31, li_32, li_43, li_44, li_45, li_46, li_48, li_57, li_62, li_64, li_97, li_99, li_100, li_200, li_201, li_202, li_255, li_401, li_500, li_2000, li_5980, li_6000, li_6002, li_9000, li_10000, li_20000, li_40401, li_100000, li_1000000, nI_leI, nI_ltI, nI_eq, mI_eq, mI_eq2, mI_lt, mI_le, mI_gt, mI_ge, nI_m1, nI_add, pk_sub, pk_mul, nI_clamp, bq0, bq1, ite_not, Classical.not_not, or_false, false_or, or_self, not_true_eq_false, not_false_eq_true, ↓reduceIte, ite_true, ite_false, true_or, or_true, and_true, true_and, ne_eq, if_pos, if_neg]
        by_cases ho : w.2.2.1 = true
        · rw [if_pos ho]
          refine mid σ _ ha ?_ cf_refl
          have : wkB w = w := by rw [wkB, if_pos ho]
          rw [this]
          exact h
        · rw [if_neg ho]
          have ho : w.2.2.1 = false := by simpa using ho
          exact sx_beginChange h ho (by have := i4 ho; omega) (fun τ hτ hf => mid τ _ ha hτ hf)
    by_cases q1 : w.1 < lnum A
    · rw [if_pos q1]; exact key
    · rw [if_neg q1, if_neg (by omega)]; exact key
set_option maxRecDepth 100000 in
set_option maxHeartbeats 4000000 in
theorem sx_walk {σ : am_M} (hT : is_T t) (hU : is_T u) (ht : 76 < t ∨ t + 4 < 70) (hu : 76 < u ∨ u + 4 < 70) (r1 : σ.2.2 2 = t) (r2 : σ.2.2 3 = u) (xt : Tx σ t A) (xu : Tx σ u B) (hL : Lp σ A B 0 0) (hQ : ∀ τ, Wr τ (wkF A B) → cf σ τ → Q none (hh τ)) : am_Go X 43 0 [some (.ref 70), none, none, none, none, none] [] (hh σ) Q := by
  have na := xt.2.2.2.2.2.1
  have nb := xu.2.2.2.2.2.1
  have na2 := xt.2.2.2.2.1
  have nb2 := xu.2.2.2.2.1
  have t9 := hT.2.2.2.2.2.1
  have u9 := hU.2.2.2.2.2.1
  have e1 : (if t = 70 then nI 0 else σ.1 t 3) = σ.1 t 3 := by rw [if_neg (by omega)]
  rw [go_to [28]]; simp only [gs_u, fns_if, fns_nx, fns_no, fns_rt, fns_cl, am_fs, am_cd, am_NM, am_sz, am_code, am_step, am_ldc, am_bin, am_div, am_un, am_iload, am_aload, am_istore, am_astore, am_iinc, am_j1, am_j2, am_jr, am_dup, am_dup2, am_pop, am_ret, am_rt, am_rc, am_ml, am_slen, am_schr, am_m1, am_m2, ty_getf, ty_pi, ty_p0, ty_p1, ty_alen, ty_iald, ty_bald, ty_cald, ty_iast, ty_bast, ty_cast, ty_aald, ty_tald, ty_copy, ty_c1, ty_c2, ty_c3, ty_c4, ty_c5, ty_c6, ty_c7, ty_c8, ty_c9, ty_c10, ty_s0, ty_s1, ty_s2, ty_s3, ty_s4, ty_s5, ty_s6, List.mem_cons, List.not_mem_nil, or_false, false_or, or_true, true_or, and_true, true_and, and_self, Nat.reduceLT, Nat.reduceLeDiff, Nat.reduceEqDiff, Nat.add_eq_left, Nat.reduceAdd, Nat.reduceSub, ↓reduceIte, reduceCtorEq, List.getElem?_cons_zero, List.getElem?_cons_succ, List.set_cons_zero, List.set_cons_succ, List.length_cons, List.length_nil, List.take_succ_cons, List.take_zero, List.drop_succ_cons, List.drop_zero, List.reverse_cons, List.reverse_nil, List.nil_append, List.cons_append, am_entry, List.map_cons, List.map_nil, List.replicate_zero, List.replicate_succ, List.append_nil, decide_eq_true_eq, eq_self, am_ty, am_nf, wf_1, wf_2, wa_1, wa_2, wa_3, wr_1, wr_2, wr_3, ty_q0, ty_q1, ty_q2, i_if, and_false, false_and, ac_43, aty3, kc_70, lv_70_0, lv_70_1, lv_70_2, lv_70_3, lv_70_4, lv_70_5, lv_70_6, li_70_6, lv_70_7, lv_70_8, lv_70_9, li_70_9, lv_70_10, li_70_10, hT.1, hU.1, r1, r2, u9, ly_vi u9, nb2, t9, ly_vi t9, na2]
  simp (disch := first | omega | assumption) only [↓mI_i, li_0, li_1, li_2, li_3, li_4, li_5, li_6, li_7, li_8, li_9, li_10, li_16, li_20, li_24, li_31, li_32, li_43, li_44, li_45, li_46, li_48, li_57, li_62, li_64, li_97, li_99, li_100, li_200, li_201, li_202, li_255, li_401, li_500, li_2000, li_5980, li_6000, li_6002, li_9000, li_10000, li_20000, li_40401, li_100000, li_1000000, nI_leI, nI_ltI, nI_eq, mI_eq, mI_eq2, mI_lt, mI_le, mI_gt, mI_ge, nI_m1, nI_add, pk_sub, pk_mul, nI_clamp, bq0, bq1, ite_not, Classical.not_not, or_false, false_or, or_self, not_true_eq_false, not_false_eq_true, ↓reduceIte, ite_true, ite_false, true_or, or_true, and_true, true_and, ne_eq, if_pos, if_neg]
  refine lp_walk hT hU ht hu (lnum A + lnum B) wk0 _ _ (by omega) (by exact r1) (by exact r2) (Tx_fr xt (fr_wf (by omega) : fr 70 76 _ _) (by omega)) (Tx_fr xu (fr_wf (by omega) : fr 70 76 _ _) (by omega)) (Lp_cf hL cf_wf) wkI_0 ?_ (fun τ hτ hf => hQ τ hτ (cf_trans cf_wf hf))
  exact ⟨by simp [wf, wk0], fun k hk => absurd hk (Nat.not_lt_zero k), fun k hk => absurd hk (Nat.not_lt_zero k), fun k hk => absurd hk (Nat.not_lt_zero k), fun k hk => absurd hk (Nat.not_lt_zero k), fun k hk => absurd hk (Nat.not_lt_zero k)⟩
/-- the comparison holds what is to be found between A and B -/
def Cmp (σ : am_M) (A B : List Int32) : Prop := Lp σ A B 0 0 ∧ Wr σ (wkF A B)
def fr3 (σ τ : am_M) : Prop := (∀ a k, a < 70 ∨ 76 < a → τ.1 a k = σ.1 a k) ∧ (∀ a, a < 70 ∨ 76 < a → τ.2.1 a = σ.2.1 a) ∧ τ.2.2 0 = σ.2.2 0 ∧ τ.2.2 1 = σ.2.2 1
theorem ty_w7 {σ : am_M} {n sl q pc : Nat} {ls : am_L} {r : List Value} : am_putf (.object "DiffBench$Text") 3 7 pc ls (.ref q :: .ref 70 :: r) (n, sl, hp σ) = am_nx (pc + 3) ls r (n, sl, hp (wr σ 2 q)) := ty_putr rfl (by decide) (by decide) rfl rfl (fun b i h => by
  unfold ly_d at h
  split at h
  · split at h
    · cases h
    · split at h <;> cases h
  · split at h
    · split at h
      · exact ⟨by assumption, by assumption⟩
      · split at h <;> cases h
    · cases h) rfl
theorem ty_w8 {σ : am_M} {n sl q pc : Nat} {ls : am_L} {r : List Value} : am_putf (.object "DiffBench$Text") 3 8 pc ls (.ref q :: .ref 70 :: r) (n, sl, hp σ) = am_nx (pc + 3) ls r (n, sl, hp (wr σ 3 q)) := ty_putr rfl (by decide) (by decide) rfl rfl (fun b i h => by
  unfold ly_d at h
  split at h
  · split at h
    · cases h
    · split at h <;> cases h
  · split at h
    · split at h
      · cases h
      · split at h
        · exact ⟨by assumption, by assumption⟩
        · cases h
    · cases h) rfl
set_option maxRecDepth 100000 in
set_option maxHeartbeats 4000000 in
theorem sx_compare {σ : am_M} (hT : is_T t) (hU : is_T u) (ht : 76 < t ∨ t + 4 < 70) (hu : 76 < u ∨ u + 4 < 70) (xt : Tx σ t A) (xu : Tx σ u B) (hK : σ.2.2 2 = t → σ.2.2 3 = u → σ.1 t 4 = σ.1 70 9 → σ.1 u 4 = σ.1 70 10 → Cmp σ A B) (hQ : ∀ τ, Cmp τ A B → τ.2.2 2 = t → τ.2.2 3 = u → τ.1 70 9 = σ.1 t 4 → τ.1 70 10 = σ.1 u 4 → fr3 σ τ → Q none (hh τ)) : am_Go X 37 0 [some (.ref 70), some (.ref t), some (.ref u)] [] (hh σ) Q := by
  have t10 := hT.2.2.2.2.2.2
  have u10 := hU.2.2.2.2.2.2
  have go : am_Go X 37 39 [some (.ref 70), some (.ref t), some (.ref u)] [] (hh σ) Q := by
    have e1 : (if t = 70 then σ.1 t 4 else σ.1 t 4) = σ.1 t 4 := by split <;> rfl
    rw [go_to []]; simp only [gs_u, fns_if, fns_nx, fns_no, fns_rt, fns_cl, am_fs, am_cd, am_NM, am_sz, am_code, am_step, am_ldc, am_bin, am_div, am_un, am_iload, am_aload, am_istore, am_astore, am_iinc, am_j1, am_j2, am_jr, am_dup, am_dup2, am_pop, am_ret, am_rt, am_rc, am_ml, am_slen, am_schr, am_m1, am_m2, ty_getf, ty_pi, ty_p0, ty_p1, ty_alen, ty_iald, ty_bald, ty_cald, ty_iast, ty_bast, ty_cast, ty_aald, ty_tald, ty_copy, ty_c1, ty_c2, ty_c3, ty_c4, ty_c5, ty_c6, ty_c7, ty_c8, ty_c9, ty_c10, ty_s0, ty_s1, ty_s2, ty_s3, ty_s4, ty_s5, ty_s6, List.mem_cons, List.not_mem_nil, or_false, false_or, or_true, true_or, and_true, true_and, and_self, Nat.reduceLT, Nat.reduceLeDiff, Nat.reduceEqDiff, Nat.add_eq_left, Nat.reduceAdd, Nat.reduceSub, ↓reduceIte, reduceCtorEq, List.getElem?_cons_zero, List.getElem?_cons_succ, List.set_cons_zero, List.set_cons_succ, List.length_cons, List.length_nil, List.take_succ_cons, List.take_zero, List.drop_succ_cons, List.drop_zero, List.reverse_cons, List.reverse_nil, List.nil_append, List.cons_append, am_entry, List.map_cons, List.map_nil, List.replicate_zero, List.replicate_succ, List.append_nil, decide_eq_true_eq, eq_self, am_ty, am_nf, wf_1, wf_2, wa_1, wa_2, wa_3, wr_1, wr_2, wr_3, ty_q0, ty_q1, ty_q2, i_if, and_false, false_and, ac_37, aty3, kc_70, lv_70_0, lv_70_1, lv_70_2, lv_70_3, lv_70_4, lv_70_5, lv_70_6, li_70_6, lv_70_7, lv_70_8, lv_70_9, li_70_9, lv_70_10, li_70_10, hT.1, hU.1, t10, u10, ly_vi t10, ly_vi u10, ty_w7, ty_w8]
    generalize hσ : wf (wf (wr (wr σ 2 t) 3 u) 70 9 (σ.1 t 4)) 70 10 (σ.1 u 4) = σ2
    have f1 : ∀ a k, a < 70 ∨ 76 < a → σ2.1 a k = σ.1 a k := by
      intro a k h
      rw [← hσ, wf_1, if_neg (by omega), wf_1, if_neg (by omega)]
      rfl
    have f2 : σ2.2.1 = σ.2.1 := by rw [← hσ]; rfl
    have f3 : σ2.2.2 0 = σ.2.2 0 ∧ σ2.2.2 1 = σ.2.2 1 ∧ σ2.2.2 2 = t ∧ σ2.2.2 3 = u := by
      rw [← hσ]
      exact ⟨rfl, rfl, rfl, rfl⟩
    have f4 : σ2.1 70 9 = σ.1 t 4 ∧ σ2.1 70 10 = σ.1 u 4 := by
      rw [← hσ]
      exact ⟨rfl, rfl⟩
    have xt2 : Tx σ2 t A := Tx_of xt (f1 _ _ (by omega)) (f1 _ _ (by omega)) (by rw [f2]) (by rw [f2]) (by rw [f2])
    have xu2 : Tx σ2 u B := Tx_of xu (f1 _ _ (by omega)) (f1 _ _ (by omega)) (by rw [f2]) (by rw [f2]) (by rw [f2])
    refine sx_fillLongest hT hU ht hu f3.2.2.1 f3.2.2.2 xt2 xu2 (fun τ hL g => ?_)
    dsimp only [am_push]
    rw [go_to []]; simp only [gs_u, fns_if, fns_nx, fns_no, fns_rt, fns_cl, am_fs, am_cd, am_NM, am_sz, am_code, am_step, am_ldc, am_bin, am_div, am_un, am_iload, am_aload, am_istore, am_astore, am_iinc, am_j1, am_j2, am_jr, am_dup, am_dup2, am_pop, am_ret, am_rt, am_rc, am_ml, am_slen, am_schr, am_m1, am_m2, ty_getf, ty_pi, ty_p0, ty_p1, ty_alen, ty_iald, ty_bald, ty_cald, ty_iast, ty_bast, ty_cast, ty_aald, ty_tald, ty_copy, ty_c1, ty_c2, ty_c3, ty_c4, ty_c5, ty_c6, ty_c7, ty_c8, ty_c9, ty_c10, ty_s0, ty_s1, ty_s2, ty_s3, ty_s4, ty_s5, ty_s6, List.mem_cons, List.not_mem_nil, or_false, false_or, or_true, true_or, and_true, true_and, and_self, Nat.reduceLT, Nat.reduceLeDiff, Nat.reduceEqDiff, Nat.add_eq_left, Nat.reduceAdd, Nat.reduceSub, ↓reduceIte, reduceCtorEq, List.getElem?_cons_zero, List.getElem?_cons_succ, List.set_cons_zero, List.set_cons_succ, List.length_cons, List.length_nil, List.take_succ_cons, List.take_zero, List.drop_succ_cons, List.drop_zero, List.reverse_cons, List.reverse_nil, List.nil_append, List.cons_append, am_entry, List.map_cons, List.map_nil, List.replicate_zero, List.replicate_succ, List.append_nil, decide_eq_true_eq, eq_self, am_ty, am_nf, wf_1, wf_2, wa_1, wa_2, wa_3, wr_1, wr_2, wr_3, ty_q0, ty_q1, ty_q2, i_if, and_false, false_and, ac_37, aty3, kc_70, lv_70_0, lv_70_1, lv_70_2, lv_70_3, lv_70_4, lv_70_5, lv_70_6, li_70_6, lv_70_7, lv_70_8, lv_70_9, li_70_9, lv_70_10, li_70_10]
    refine sx_walk hT hU ht hu (by rw [g.2.2]; exact f3.2.2.1) (by rw [g.2.2]; exact f3.2.2.2) (Tx_fr xt2 g (by omega)) (Tx_fr xu2 g (by omega)) hL (fun υ hW hc => ?_)
    dsimp only [am_push]
    rw [go_to []]; simp only [gs_u, fns_if, fns_nx, fns_no, fns_rt, fns_cl, am_fs, am_cd, am_NM, am_sz, am_code, am_step, am_ldc, am_bin, am_div, am_un, am_iload, am_aload, am_istore, am_astore, am_iinc, am_j1, am_j2, am_jr, am_dup, am_dup2, am_pop, am_ret, am_rt, am_rc, am_ml, am_slen, am_schr, am_m1, am_m2, ty_getf, ty_pi, ty_p0, ty_p1, ty_alen, ty_iald, ty_bald, ty_cald, ty_iast, ty_bast, ty_cast, ty_aald, ty_tald, ty_copy, ty_c1, ty_c2, ty_c3, ty_c4, ty_c5, ty_c6, ty_c7, ty_c8, ty_c9, ty_c10, ty_s0, ty_s1, ty_s2, ty_s3, ty_s4, ty_s5, ty_s6, List.mem_cons, List.not_mem_nil, or_false, false_or, or_true, true_or, and_true, true_and, and_self, Nat.reduceLT, Nat.reduceLeDiff, Nat.reduceEqDiff, Nat.add_eq_left, Nat.reduceAdd, Nat.reduceSub, ↓reduceIte, reduceCtorEq, List.getElem?_cons_zero, List.getElem?_cons_succ, List.set_cons_zero, List.set_cons_succ, List.length_cons, List.length_nil, List.take_succ_cons, List.take_zero, List.drop_succ_cons, List.drop_zero, List.reverse_cons, List.reverse_nil, List.nil_append, List.cons_append, am_entry, List.map_cons, List.map_nil, List.replicate_zero, List.replicate_succ, List.append_nil, decide_eq_true_eq, eq_self, am_ty, am_nf, wf_1, wf_2, wa_1, wa_2, wa_3, wr_1, wr_2, wr_3, ty_q0, ty_q1, ty_q2, i_if, and_false, false_and, ac_37, aty3, kc_70, lv_70_0, lv_70_1, lv_70_2, lv_70_3, lv_70_4, lv_70_5, lv_70_6, li_70_6, lv_70_7, lv_70_8, lv_70_9, li_70_9, lv_70_10, li_70_10]
    have e22 : υ.2.2 = σ2.2.2 := by rw [hc.1.2.2, g.2.2]
    refine hQ υ ⟨Lp_cf hL hc, hW⟩ (by rw [e22]; exact f3.2.2.1) (by rw [e22]; exact f3.2.2.2) ?_ ?_ ⟨fun a k h => ?_, fun a h => ?_, by rw [e22]; exact f3.1, by rw [e22]; exact f3.2.1⟩
    · rw [hc.2.2.1, g.1 _ _ (by omega), f4.1]
    · rw [hc.2.2.2, g.1 _ _ (by omega), f4.2]
    · rw [hc.1.1 _ _ h, g.1 _ _ (by omega), f1 _ _ h]
    · rw [hc.1.2.1 _ h, g.2.1 _ (by omega), f2]
  rw [go_to [39]]; simp only [gs_u, fns_if, fns_nx, fns_no, fns_rt, fns_cl, am_fs, am_cd, am_NM, am_sz, am_code, am_step, am_ldc, am_bin, am_div, am_un, am_iload, am_aload, am_istore, am_astore, am_iinc, am_j1, am_j2, am_jr, am_dup, am_dup2, am_pop, am_ret, am_rt, am_rc, am_ml, am_slen, am_schr, am_m1, am_m2, ty_getf, ty_pi, ty_p0, ty_p1, ty_alen, ty_iald, ty_bald, ty_cald, ty_iast, ty_bast, ty_cast, ty_aald, ty_tald, ty_copy, ty_c1, ty_c2, ty_c3, ty_c4, ty_c5, ty_c6, ty_c7, ty_c8, ty_c9, ty_c10, ty_s0, ty_s1, ty_s2, ty_s3, ty_s4, ty_s5, ty_s6, List.mem_cons, List.not_mem_nil, or_false, false_or, or_true, true_or, and_true, true_and, and_self, Nat.reduceLT, Nat.reduceLeDiff, Nat.reduceEqDiff, Nat.add_eq_left, Nat.reduceAdd, Nat.reduceSub, ↓reduceIte, reduceCtorEq, List.getElem?_cons_zero, List.getElem?_cons_succ, List.set_cons_zero, List.set_cons_succ, List.length_cons, List.length_nil, List.take_succ_cons, List.take_zero, List.drop_succ_cons, List.drop_zero, List.reverse_cons, List.reverse_nil, List.nil_append, List.cons_append, am_entry, List.map_cons, List.map_nil, List.replicate_zero, List.replicate_succ, List.append_nil, decide_eq_true_eq, eq_self, am_ty, am_nf, wf_1, wf_2, wa_1, wa_2, wa_3, wr_1, wr_2, wr_3, ty_q0, ty_q1, ty_q2, i_if, and_false, false_and, ac_37, aty3, kc_70, lv_70_0, lv_70_1, lv_70_2, lv_70_3, lv_70_4, lv_70_5, lv_70_6, li_70_6, lv_70_7, lv_70_8, lv_70_9, li_70_9, lv_70_10, li_70_10, hT.1, hU.1, t10, u10, ly_vi t10, ly_vi u10]
  by_cases h1 : t = σ.2.2 2
  case neg => rw [if_neg h1]; exact go
  by_cases h2 : u = σ.2.2 3
  case neg => rw [if_pos h1, if_neg h2]; exact go
  by_cases h3 : σ.1 t 4 = σ.1 70 9
  case neg => rw [if_pos h1, if_pos h2, if_pos h3]; exact go
  by_cases h4 : σ.1 u 4 = σ.1 70 10
  case neg => rw [if_pos h1, if_pos h2, if_neg (fun z => z h3), if_pos h4]; exact go
  rw [if_pos h1, if_pos h2, if_neg (fun z => z h3), if_neg (fun z => z h4)]
  exact hQ σ (hK h1.symm h2.symm h3 h4) h1.symm h2.symm h3.symm h4.symm ⟨fun _ _ _ => rfl, fun _ _ => rfl, rfl, rfl⟩
end CP
