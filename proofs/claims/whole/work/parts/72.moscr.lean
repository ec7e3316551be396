/-! the reference: what it has read -/
def MSc (u : Nat) (σ : am_M) (c : Nat) (s : Sk) : Prop := σ.1 80 24 = nI c ∧ σ.1 80 28 = nI s.2.1 ∧ rl (σ.2.1 313) (s.1.2 0) s.1.1 ∧ rl (σ.2.1 314) (s.1.2 1) s.1.1 ∧ rl (σ.2.1 315) (s.1.2 2) s.1.1 ∧ rl (σ.2.1 317) (s.1.2 4) s.1.1 ∧ rl (σ.2.1 320) (s.2.2 1) s.2.1 ∧ rl (σ.2.1 321) (s.2.2 2) s.2.1 ∧ (∀ i, i < c → σ.2.1 318 i = nI (beh s i)) ∧ (u ≠ 2 → rl (σ.2.1 316) (s.1.2 3) s.1.1) ∧ (u = 1 → rl (σ.2.1 319) (s.2.2 0) s.2.1) ∧ (u = 0 → ∀ i, i < s.1.1 → σ.2.1 312 i = nI (ltr (s.1.2 1 i) (s.1.2 3 i))) ∧ (u = 2 → ∀ i, i < s.1.1 → (σ.2.1 312 i = nI 97 ↔ s.1.2 1 i = 0))
/-- only what is read has changed -/
def frR (σ τ : am_M) : Prop := (∀ a k, ¬ (a = 80 ∧ (k = 24 ∨ k = 28 ∨ (31 ≤ k ∧ k ≤ 37))) → τ.1 a k = σ.1 a k) ∧ (∀ a, a < 312 ∨ 321 < a → τ.2.1 a = σ.2.1 a) ∧ τ.2.2 = σ.2.2
theorem frR_refl {σ : am_M} : frR σ σ := ⟨fun _ _ _ => rfl, fun _ _ => rfl, rfl⟩
theorem frR_trans {σ τ υ : am_M} (h1 : frR σ τ) (h2 : frR τ υ) : frR σ υ := ⟨fun a k h => (h2.1 a k h).trans (h1.1 a k h), fun a h => (h2.2.1 a h).trans (h1.2.1 a h), h2.2.2.trans h1.2.2⟩
theorem frR_K {lo hi : Nat} {σ τ : am_M} (h : frK lo hi σ τ) (h1 : 31 ≤ lo) (h2 : hi ≤ 37) : frR σ τ := ⟨fun a k q => h.1 a k (by omega), fun a _ => by rw [h.2], by rw [h.2]⟩
theorem frR_wf {k : Nat} {v : Int32} {σ : am_M} (h : k = 24 ∨ k = 28 ∨ (31 ≤ k ∧ k ≤ 37)) : frR σ (wf σ 80 k v) := ⟨fun a j q => by simp only [wf]; rw [if_neg (by omega)], fun _ _ => rfl, rfl⟩
theorem frR_wa {a : Nat} {f : Nat → Int32} {σ : am_M} (h : 312 ≤ a ∧ a ≤ 321) : frR σ (wa σ a f) := ⟨fun _ _ _ => rfl, fun b q => by rw [wa_2, if_neg (by omega)], rfl⟩
theorem MZ_R {σ τ : am_M} {T : List Int32} (h : MZ σ T) (hf : frR σ τ) : MZ τ T := MZ_fr h (fun k hk => hf.1 _ _ (by omega)) (hf.2.1 _ (by omega)) (hf.2.1 _ (by omega))
/-- frames that leave the script as it is -/
theorem MSc_K {u lo hi c : Nat} {s : Sk} {σ τ : am_M} (h : MSc u σ c s) (hf : frK lo hi σ τ) (hd : 29 ≤ lo) : MSc u τ c s := by
  obtain ⟨g1, g2, g⟩ := h
  have e : τ.2 = σ.2 := hf.2
  unfold MSc
  rw [e]
  exact ⟨by rw [hf.1 _ _ (by omega)]; exact g1, by rw [hf.1 _ _ (by omega)]; exact g2, g⟩
theorem stn_c {T : List Int32} {i j p : Nat} (h : am_txt j = am_txt i) : stn T j p ↔ stn T i p := by
  unfold stn
  rw [h]
theorem beh_addC {s : Sk} {a n b m i : Nat} (h : i < s.1.1) : beh (addC s a n b m) i = beh s i := by
  unfold beh
  have e : (addC s a n b m).1.1 = s.1.1 + 1 := rfl
  rw [e, if_pos (by omega)]
  by_cases q : i + 1 < s.1.1
  · rw [if_pos q, addC_o q]
  · rw [if_neg q, show i + 1 = s.1.1 by omega, addC_n]
    rfl
theorem beh_lines {s v : Sk} {i : Nat} (h : v.1 = s.1) (hi : i + 1 < s.1.1) : beh v i = beh s i := by
  unfold beh
  rw [h, if_pos hi, if_pos hi]
section MR
variable {X : am_X} {σ : am_M} {T : List Int32} {s : Sk} {u c : Nat} {Q : Option Value → am_H → Prop}
set_option maxRecDepth 100000 in
set_option maxHeartbeats 4000000 in
theorem mo_body {g p q : Nat} {sg : Int32} (h : MSc u σ c s) (hc : c + 1 = s.1.1) (hm : s.2.1 < 6000) (hg : u = 1 → sg = nI g) (hQ : ∀ τ, MSc u τ c (addD s g p q) → frR σ τ → τ.1 80 37 = σ.1 80 37 → Q none (hh τ)) : am_Go X 177 0 [some (.ref 80), some (.int sg), some (.int (nI p)), some (.int (nI q))] [] (hh σ) Q := by
  obtain ⟨g1, g2, g3, g4, g5, g6, g7, g8, g9, g10, g11, g12, g13⟩ := h
  rw [go_to []]; simp only [gs_u, fns_if, fns_nx, fns_no, fns_rt, fns_cl, am_fs, am_cd, am_NM, am_sz, am_code, am_step, am_ldc, am_bin, am_div, am_un, am_iload, am_aload, am_istore, am_astore, am_iinc, am_j1, am_j2, am_jr, am_dup, am_dup2, am_pop, am_ret, am_rt, am_rc, am_ml, am_slen, am_schr, am_m1, am_m2, ty_getf, ty_pi, ty_p0, ty_p1, ty_alen, ty_iald, ty_bald, ty_cald, ty_iast, ty_bast, ty_cast, ty_aald, ty_tald, ty_copy, ty_c1, ty_c2, ty_c3, ty_c4, ty_c5, ty_c6, ty_c7, ty_c8, ty_c9, ty_c10, ty_s0, ty_s1, ty_s2, ty_s3, ty_s4, ty_s5, ty_s6, List.mem_cons, List.not_mem_nil, or_false, false_or, or_true, true_or, and_true, true_and, and_self, Nat.reduceLT, Nat.reduceLeDiff, Nat.reduceEqDiff, Nat.add_eq_left, Nat.reduceAdd, Nat.reduceSub, ↓reduceIte, reduceCtorEq, List.getElem?_cons_zero, List.getElem?_cons_succ, List.set_cons_zero, List.set_cons_succ, List.length_cons, List.length_nil, List.take_succ_cons, List.take_zero, List.drop_succ_cons, List.drop_zero, List.reverse_cons, List.reverse_nil, List.nil_append, List.cons_append, am_entry, List.map_cons, List.map_nil, List.replicate_zero, List.replicate_succ, List.append_nil, decide_eq_true_eq, eq_self, am_ty, am_nf, wf_1, wf_2, wa_1, wa_2, wa_3, wr_1, wr_2, wr_3, ty_q0, ty_q1, ty_q2, i_if, and_false, false_and, ac_177, aty12, kc_80, lv_80_0, lv_80_1, lv_80_2, lv_80_3, lv_80_4, lv_80_5, lv_80_6, li_80_6, lv_80_7, li_80_7, lv_80_8, lv_80_9, lv_80_10, lv_80_11, lv_80_12, lv_80_13, lv_80_14, li_80_14, lv_80_15, lv_80_16, li_80_16, lv_80_17, lv_80_18, lv_80_19, lv_80_20, lv_80_21, lv_80_22, lv_80_23, lv_80_24, li_80_24, lv_80_25, lv_80_26, lv_80_27, lv_80_28, li_80_28, lv_80_29, li_80_29, lv_80_30, li_80_30, lv_80_31, li_80_31, lv_80_32, li_80_32, lv_80_33, li_80_33, lv_80_34, li_80_34, lv_80_35, li_80_35, lv_80_36, li_80_36, lv_80_37, li_80_37, lv_80_38, lv_80_39, li_80_39, lv_80_40, li_80_40, lv_80_41, lv_80_42, lv_80_43, lv_80_44, lv_80_45, lv_80_46, lv_80_47, li_80_47, lv_80_48, li_80_48, lv_80_49, li_80_49, lv_80_50, lv_80_51, kc_319, kn_319, kc_320, kn_320, kc_321, kn_321, g2]
  simp (disch := first | omega | assumption) only [↓mI_i, li_0, li_1, li_2, li_3, li_4, li_5, li_6, li_7, li_8, li_9, li_10, li_16, li_20, li_24, li_31, li_32, li_43, li_44, li_45, li_46, li_48, li_57, li_62, li_64, li_97, li_99, li_100, li_200, li_201, li_202, li_255, li_401, li_500, li_2000, li_5980, li_6000, li_6002, li_9000, li_10000, li_20000, li_40401, li_100000, li_1000000, nI_leI, nI_ltI, nI_eq, mI_eq, mI_eq2, mI_lt, mI_le, mI_gt, mI_ge, nI_m1, nI_add, pk_sub, pk_mul, nI_clamp, bq0, bq1, ite_not, Classical.not_not, or_false, false_or, or_self, not_true_eq_false, not_false_eq_true, ↓reduceIte, ite_true, ite_false, true_or, or_true, and_true, true_and, ne_eq, if_pos, if_neg]
  refine hQ _ ?_ (frR_trans (frR_trans (frR_trans (frR_wa (by omega)) (frR_wa (by omega))) (frR_wa (by omega))) (frR_wf (by omega))) (by simp [wf, wa])
  refine ⟨by simpa [wf, wa] using g1, by simp [wf, addD], ?_, ?_, ?_, ?_, ?_, ?_, fun i hi => ?_, fun hu => ?_, fun hu => ?_, fun hu => ?_, fun hu => ?_⟩
  · simp [wf, wa]
    exact g3
  · simp [wf, wa]
    exact g4
  · simp [wf, wa]
    exact g5
  · simp [wf, wa]
    exact g6
  · simp [wf, wa]
    exact rl_ext (v := p) g7
  · simp [wf, wa]
    exact rl_ext (v := q) g8
  · simp [wf, wa]
    rw [beh_lines (s := s) (v := addD s g p q) rfl (by omega)]
    exact g9 i hi
  · simp [wf, wa]
    exact g10 hu
  · simp [wf, wa]
    rw [hg hu]
    exact rl_ext (v := g) (g11 hu)
  · simp [wf, wa]
    exact g12 hu
  · simp [wf, wa]
    exact g13 hu
set_option maxRecDepth 100000 in
set_option maxHeartbeats 4000000 in
theorem mo_command {a n b m : Nat} {kd : Int32} (h : MSc u σ s.1.1 s) (hn : s.1.1 < 6000) (h0 : u = 0 → kd = nI (ltr n m)) (h2 : u = 2 → (kd = nI 97 ↔ n = 0)) (hQ : ∀ τ, MSc u τ s.1.1 (addC s a n b m) → frR σ τ → τ.1 = σ.1 → Q none (hh τ)) : am_Go X 179 0 [some (.ref 80), some (.int kd), some (.int (nI a)), some (.int (nI n)), some (.int (nI b)), some (.int (nI m))] [] (hh σ) Q := by
  obtain ⟨g1, g2, g3, g4, g5, g6, g7, g8, g9, g10, g11, g12, g13⟩ := h
  rw [go_to []]; simp only [gs_u, fns_if, fns_nx, fns_no, fns_rt, fns_cl, am_fs, am_cd, am_NM, am_sz, am_code, am_step, am_ldc, am_bin, am_div, am_un, am_iload, am_aload, am_istore, am_astore, am_iinc, am_j1, am_j2, am_jr, am_dup, am_dup2, am_pop, am_ret, am_rt, am_rc, am_ml, am_slen, am_schr, am_m1, am_m2, ty_getf, ty_pi, ty_p0, ty_p1, ty_alen, ty_iald, ty_bald, ty_cald, ty_iast, ty_bast, ty_cast, ty_aald, ty_tald, ty_copy, ty_c1, ty_c2, ty_c3, ty_c4, ty_c5, ty_c6, ty_c7, ty_c8, ty_c9, ty_c10, ty_s0, ty_s1, ty_s2, ty_s3, ty_s4, ty_s5, ty_s6, List.mem_cons, List.not_mem_nil, or_false, false_or, or_true, true_or, and_true, true_and, and_self, Nat.reduceLT, Nat.reduceLeDiff, Nat.reduceEqDiff, Nat.add_eq_left, Nat.reduceAdd, Nat.reduceSub, ↓reduceIte, reduceCtorEq, List.getElem?_cons_zero, List.getElem?_cons_succ, List.set_cons_zero, List.set_cons_succ, List.length_cons, List.length_nil, List.take_succ_cons, List.take_zero, List.drop_succ_cons, List.drop_zero, List.reverse_cons, List.reverse_nil, List.nil_append, List.cons_append, am_entry, List.map_cons, List.map_nil, List.replicate_zero, List.replicate_succ, List.append_nil, decide_eq_true_eq, eq_self, am_ty, am_nf, wf_1, wf_2, wa_1, wa_2, wa_3, wr_1, wr_2, wr_3, ty_q0, ty_q1, ty_q2, i_if, and_false, false_and, ac_179, kc_80, lv_80_0, lv_80_1, lv_80_2, lv_80_3, lv_80_4, lv_80_5, lv_80_6, li_80_6, lv_80_7, li_80_7, lv_80_8, lv_80_9, lv_80_10, lv_80_11, lv_80_12, lv_80_13, lv_80_14, li_80_14, lv_80_15, lv_80_16, li_80_16, lv_80_17, lv_80_18, lv_80_19, lv_80_20, lv_80_21, lv_80_22, lv_80_23, lv_80_24, li_80_24, lv_80_25, lv_80_26, lv_80_27, lv_80_28, li_80_28, lv_80_29, li_80_29, lv_80_30, li_80_30, lv_80_31, li_80_31, lv_80_32, li_80_32, lv_80_33, li_80_33, lv_80_34, li_80_34, lv_80_35, li_80_35, lv_80_36, li_80_36, lv_80_37, li_80_37, lv_80_38, lv_80_39, li_80_39, lv_80_40, li_80_40, lv_80_41, lv_80_42, lv_80_43, lv_80_44, lv_80_45, lv_80_46, lv_80_47, li_80_47, lv_80_48, li_80_48, lv_80_49, li_80_49, lv_80_50, lv_80_51, kc_312, kn_312, kc_313, kn_313, kc_314, kn_314, kc_315, kn_315, kc_316, kn_316, kc_317, kn_317, g1, g2]
  simp (disch := first | omega | assumption) only [↓mI_i, li_0, li_1, li_2, li_3, li_4, li_5, li_6, li_7, li_8, li_9, li_10, li_16, li_20, li_24, li_31, li_32, li_43, li_44, li_45, li_46, li_48, li_57, li_62, li_64, li_97, li_99, li_100, li_200, li_201, li_202, li_255, li_401, li_500, li_2000, li_5980, li_6000, li_6002, li_9000, li_10000, li_20000, li_40401, li_100000, li_1000000, nI_leI, nI_ltI, nI_eq, mI_eq, mI_eq2, mI_lt, mI_le, mI_gt, mI_ge, nI_m1, nI_add, pk_sub, pk_mul, nI_clamp, bq0, bq1, ite_not, Classical.not_not, or_false, false_or, or_self, not_true_eq_false, not_false_eq_true, ↓reduceIte, ite_true, ite_false, true_or, or_true, and_true, true_and, ne_eq, if_pos, if_neg]
  refine hQ _ ?_ (frR_trans (frR_trans (frR_trans (frR_trans (frR_trans (frR_wa (by omega)) (frR_wa (by omega))) (frR_wa (by omega))) (frR_wa (by omega))) (frR_wa (by omega))) (frR_wa (by omega))) rfl
  refine ⟨by simpa [wf, wa] using g1, by simpa [wf, wa, addC] using g2, ?_, ?_, ?_, ?_, ?_, ?_, fun i hi => ?_, fun hu => ?_, fun hu => ?_, fun hu => ?_, fun hu => ?_⟩
  · simp [wf, wa]
    exact rl_ext (v := a) g3
  · simp [wf, wa]
    exact rl_ext (v := n) g4
  · simp [wf, wa]
    exact rl_ext (v := b) g5
  · simp [wf, wa]
    exact rl_ext (v := s.2.1) g6
  · simp [wf, wa]
    exact g7
  · simp [wf, wa]
    exact g8
  · simp [wf, wa]
    rw [beh_addC hi]
    exact g9 i hi
  · simp [wf, wa]
    exact rl_ext (v := m) (g10 hu)
  · simp [wf, wa]
    exact g11 hu
  · simp [wf, wa]
    intro i hi
    have hi : i < s.1.1 + 1 := hi
    show upd (σ.2.1 312) s.1.1 kd i = nI (ltr ((addC s a n b m).1.2 1 i) ((addC s a n b m).1.2 3 i))
    unfold upd
    by_cases q : i = s.1.1
    · rw [if_pos q, q, addC_n, addC_n, h0 hu]
      rfl
    · rw [if_neg q, addC_o (by omega), addC_o (by omega)]
      exact g12 hu i (by omega)
  · simp [wf, wa]
    intro i hi
    have hi : i < s.1.1 + 1 := hi
    show upd (σ.2.1 312) s.1.1 kd i = nI 97 ↔ (addC s a n b m).1.2 1 i = 0
    unfold upd
    by_cases q : i = s.1.1
    · rw [if_pos q, q, addC_n]
      exact h2 hu
    · rw [if_neg q, addC_o (by omega)]
      exact g13 hu i (by omega)
theorem MSc_open (h : MSc u σ c s) (hc : c + 1 = s.1.1) {v : Int32} (hv : v = nI (s.2.2 2 (s.2.1 - 1) - 1)) (hm : 0 < s.2.1) : MSc u (wa σ 321 (upd (σ.2.1 321) (s.2.1 - 1) v)) c (opD s) := by
  obtain ⟨g1, g2, g3, g4, g5, g6, g7, g8, g9, g10, g11, g12, g13⟩ := h
  have e : (opD s).2.2 2 = upn (s.2.2 2) (s.2.1 - 1) (s.2.2 2 (s.2.1 - 1) - 1) := by
    funext x
    unfold upn
    show (if 2 = 2 ∧ x + 1 = s.2.1 then s.2.2 2 x - 1 else s.2.2 2 x) = _
    by_cases q : x = s.2.1 - 1
    · rw [if_pos ⟨rfl, by omega⟩, if_pos q, q]
    · rw [if_neg (fun z => q (by omega)), if_neg q]
  have e1 : (opD s).2.2 1 = s.2.2 1 := by
    funext x
    show (if 1 = 2 ∧ x + 1 = s.2.1 then s.2.2 1 x - 1 else s.2.2 1 x) = _
    rw [if_neg (by omega)]
  have e0 : (opD s).2.2 0 = s.2.2 0 := by
    funext x
    show (if 0 = 2 ∧ x + 1 = s.2.1 then s.2.2 0 x - 1 else s.2.2 0 x) = _
    rw [if_neg (by omega)]
  refine ⟨g1, g2, g3, g4, g5, g6, ?_, ?_, fun i hi => ?_, g10, fun hu => ?_, g12, g13⟩
  · rw [e1]
    exact g7
  · rw [e, wa_2, if_pos rfl, hv]
    exact rl_upd g8
  · rw [beh_lines (s := s) (v := opD s) rfl (by omega)]
    exact g9 i hi
  · rw [e0]
    exact g11 hu
set_option maxRecDepth 100000 in
set_option maxHeartbeats 8000000 in
theorem lp_moRows {j j1 sg n cc : Nat} (hX : X.2.2 = am_txt) (hj : (am_txt j).length = 2 ∧ ∀ i, i < (am_txt j).length → gl (am_txt j) i ≠ nI 10) (hj1 : am_txt j1 = am_txt j) (hu : u ≠ 1) (hn : n < 2 ^ 30) : ∀ (d i k : Nat) (s : Sk) (σ : am_M), i + d = n → MZ σ T → MSc u σ c s → c + 1 = s.1.1 → σ.1 80 37 = nI k → Iv cc T k s → (∀ e, rowsP T j sg d k s = .error e → ∀ τ, frR σ τ → Q (some (.int (nI e))) (hh τ)) → (∀ v, rowsP T j sg d k s = .ok v → ∀ τ, MZ τ T → MSc u τ c v.2 → τ.1 80 37 = nI v.1 → frR σ τ → am_Go X 180 73 [some (.ref 80), some (.retAddr (j1 + 1)), some (.int (nI n)), some (.int (nI n))] [] (hh τ) Q) → am_Go X 180 2 [some (.ref 80), some (.retAddr (j1 + 1)), some (.int (nI n)), some (.int (nI i))] [] (hh σ) Q := by
  intro d
  induction d with
  | zero =>
    intro i k s σ hi hz hs hc h37 hI h0 h1
    obtain rfl : i = n := by omega
    rw [go_to [2, 73]]; simp only [gs_u, fns_if, fns_nx, fns_no, fns_rt, fns_cl, am_fs, am_cd, am_NM, am_sz, am_code, am_step, am_ldc, am_bin, am_div, am_un, am_iload, am_aload, am_istore, am_astore, am_iinc, am_j1, am_j2, am_jr, am_dup, am_dup2, am_pop, am_ret, am_rt, am_rc, am_ml, am_slen, am_schr, am_m1, am_m2, ty_getf, ty_pi, ty_p0, ty_p1, ty_alen, ty_iald, ty_bald, ty_cald, ty_iast, ty_bast, ty_cast, ty_aald, ty_tald, ty_copy, ty_c1, ty_c2, ty_c3, ty_c4, ty_c5, ty_c6, ty_c7, ty_c8, ty_c9, ty_c10, ty_s0, ty_s1, ty_s2, ty_s3, ty_s4, ty_s5, ty_s6, List.mem_cons, List.not_mem_nil, or_false, false_or, or_true, true_or, and_true, true_and, and_self, Nat.reduceLT, Nat.reduceLeDiff, Nat.reduceEqDiff, Nat.add_eq_left, Nat.reduceAdd, Nat.reduceSub, ↓reduceIte, reduceCtorEq, List.getElem?_cons_zero, List.getElem?_cons_succ, List.set_cons_zero, List.set_cons_succ, List.length_cons, List.length_nil, List.take_succ_cons, List.take_zero, List.drop_succ_cons, List.drop_zero, List.reverse_cons, List.reverse_nil, List.nil_append, List.cons_append, am_entry, List.map_cons, List.map_nil, List.replicate_zero, List.replicate_succ, List.append_nil, decide_eq_true_eq, eq_self, am_ty, am_nf, wf_1, wf_2, wa_1, wa_2, wa_3, wr_1, wr_2, wr_3, ty_q0, ty_q1, ty_q2, i_if, and_false, false_and, ac_180, aty12, kc_80, lv_80_0, lv_80_1, lv_80_2, lv_80_3, lv_80_4, lv_80_5, lv_80_6, li_80_6, lv_80_7, li_80_7, lv_80_8, lv_80_9, lv_80_10, lv_80_11, lv_80_12, lv_80_13, lv_80_14, li_80_14, lv_80_15, lv_80_16, li_80_16, lv_80_17, lv_80_18, lv_80_19, lv_80_20, lv_80_21, lv_80_22, lv_80_23, lv_80_24, li_80_24, lv_80_25, lv_80_26, lv_80_27, lv_80_28, li_80_28, lv_80_29, li_80_29, lv_80_30, li_80_30, lv_80_31, li_80_31, lv_80_32, li_80_32, lv_80_33, li_80_33, lv_80_34, li_80_34, lv_80_35, li_80_35, lv_80_36, li_80_36, lv_80_37, li_80_37, lv_80_38, lv_80_39, li_80_39, lv_80_40, li_80_40, lv_80_41, lv_80_42, lv_80_43, lv_80_44, lv_80_45, lv_80_46, lv_80_47, li_80_47, lv_80_48, li_80_48, lv_80_49, li_80_49, lv_80_50, lv_80_51]
    simp (disch := first | omega | assumption) only [↓mI_i, li_0, li_1, li_2, li_3, li_4, li_5, li_6, li_7, li_8, li_9, li_10, li_16, li_20, li_24, li_31, li_32, li_43, li_44, li_45, li_46, li_48, li_57, li_62, li_64, li_97, li_99, li_100, li_200, li_201, li_202, li_255, li_401, li_500, li_2000, li_5980, li_6000, li_6002, li_9000, li_10000, li_20000, li_40401, li_100000, li_1000000, nI_leI, nI_ltI, nI_eq, mI_eq, mI_eq2, mI_lt, mI_le, mI_gt, mI_ge, nI_m1, nI_add, pk_sub, pk_mul, nI_clamp, bq0, bq1, ite_not, Classical.not_not, or_false, false_or, or_self, not_true_eq_false, not_false_eq_true, ↓reduceIte, ite_true, ite_false, true_or, or_true, and_true, true_and, ne_eq, if_pos, if_neg]
    exact h1 (k, s) rfl σ hz hs h37 frR_refl
  | succ d ih =>
    intro i k s σ hi hz hs hc h37 hI h0 h1
    have hT := hz.2.1
    have hll := lnum_len (T := T)
    have hI1 := hI.1
    have hI2 := hI.2.1
    have hR : rowsP T j sg (d + 1) k s = if whl T k ∧ stn T j (lsta T k) then rowsP T j sg d (k + 1) (addD s sg (lsta T k + 2) (lsta T (k + 1))) else .error (k + 1) := rfl
    rw [hR] at h0 h1
    rw [go_to [2, 73]]; simp only [gs_u, fns_if, fns_nx, fns_no, fns_rt, fns_cl, am_fs, am_cd, am_NM, am_sz, am_code, am_step, am_ldc, am_bin, am_div, am_un, am_iload, am_aload, am_istore, am_astore, am_iinc, am_j1, am_j2, am_jr, am_dup, am_dup2, am_pop, am_ret, am_rt, am_rc, am_ml, am_slen, am_schr, am_m1, am_m2, ty_getf, ty_pi, ty_p0, ty_p1, ty_alen, ty_iald, ty_bald, ty_cald, ty_iast, ty_bast, ty_cast, ty_aald, ty_tald, ty_copy, ty_c1, ty_c2, ty_c3, ty_c4, ty_c5, ty_c6, ty_c7, ty_c8, ty_c9, ty_c10, ty_s0, ty_s1, ty_s2, ty_s3, ty_s4, ty_s5, ty_s6, List.mem_cons, List.not_mem_nil, or_false, false_or, or_true, true_or, and_true, true_and, and_self, Nat.reduceLT, Nat.reduceLeDiff, Nat.reduceEqDiff, Nat.add_eq_left, Nat.reduceAdd, Nat.reduceSub, ↓reduceIte, reduceCtorEq, List.getElem?_cons_zero, List.getElem?_cons_succ, List.set_cons_zero, List.set_cons_succ, List.length_cons, List.length_nil, List.take_succ_cons, List.take_zero, List.drop_succ_cons, List.drop_zero, List.reverse_cons, List.reverse_nil, List.nil_append, List.cons_append, am_entry, List.map_cons, List.map_nil, List.replicate_zero, List.replicate_succ, List.append_nil, decide_eq_true_eq, eq_self, am_ty, am_nf, wf_1, wf_2, wa_1, wa_2, wa_3, wr_1, wr_2, wr_3, ty_q0, ty_q1, ty_q2, i_if, and_false, false_and, ac_180, aty12, kc_80, lv_80_0, lv_80_1, lv_80_2, lv_80_3, lv_80_4, lv_80_5, lv_80_6, li_80_6, lv_80_7, li_80_7, lv_80_8, lv_80_9, lv_80_10, lv_80_11, lv_80_12, lv_80_13, lv_80_14, li_80_14, lv_80_15, lv_80_16, li_80_16, lv_80_17, lv_80_18, lv_80_19, lv_80_20, lv_80_21, lv_80_22, lv_80_23, lv_80_24, li_80_24, lv_80_25, lv_80_26, lv_80_27, lv_80_28, li_80_28, lv_80_29, li_80_29, lv_80_30, li_80_30, lv_80_31, li_80_31, lv_80_32, li_80_32, lv_80_33, li_80_33, lv_80_34, li_80_34, lv_80_35, li_80_35, lv_80_36, li_80_36, lv_80_37, li_80_37, lv_80_38, lv_80_39, li_80_39, lv_80_40, li_80_40, lv_80_41, lv_80_42, lv_80_43, lv_80_44, lv_80_45, lv_80_46, lv_80_47, li_80_47, lv_80_48, li_80_48, lv_80_49, li_80_49, lv_80_50, lv_80_51, h37]
    simp (disch := first | omega | assumption) only [↓mI_i, li_0, li_1, li_2, li_3, li_4, li_5, li_6, li_7, li_8, li_9, li_10, li_16, li_20, li_24, li_31, li_32, li_43, li_44, li_45, li_46, li_48, li_57, li_62, li_64, li_97, li_99, li_100, li_200, li_201, li_202, li_255, li_401, li_500, li_2000, li_5980, li_6000, li_6002, li_9000, li_10000, li_20000, li_40401, li_100000, li_1000000, nI_leI, nI_ltI, nI_eq, mI_eq, mI_eq2, mI_lt, mI_le, mI_gt, mI_ge, nI_m1, nI_add, pk_sub, pk_mul, nI_clamp, bq0, bq1, ite_not, Classical.not_not, or_false, false_or, or_self, not_true_eq_false, not_false_eq_true, ↓reduceIte, ite_true, ite_false, true_or, or_true, and_true, true_and, ne_eq, if_pos, if_neg]
    rw [mo_starts hX hz (by omega) (by rw [hj1]; exact hj.2)]
    have hst : stn T j1 (lsta T k) ↔ stn T j (lsta T k) := stn_c hj1
    dsimp only [am_push]
    by_cases w : whl T k ∧ stn T j (lsta T k)
    case neg =>
      have w1 : ¬ (whl T k ∧ stn T j1 (lsta T k)) := fun hx => w ⟨hx.1, hst.mp hx.2⟩
      rw [if_neg w] at h0
      rw [if_neg w1]
      rw [go_to [2, 73]]; simp only [gs_u, fns_if, fns_nx, fns_no, fns_rt, fns_cl, am_fs, am_cd, am_NM, am_sz, am_code, am_step, am_ldc, am_bin, am_div, am_un, am_iload, am_aload, am_istore, am_astore, am_iinc, am_j1, am_j2, am_jr, am_dup, am_dup2, am_pop, am_ret, am_rt, am_rc, am_ml, am_slen, am_schr, am_m1, am_m2, ty_getf, ty_pi, ty_p0, ty_p1, ty_alen, ty_iald, ty_bald, ty_cald, ty_iast, ty_bast, ty_cast, ty_aald, ty_tald, ty_copy, ty_c1, ty_c2, ty_c3, ty_c4, ty_c5, ty_c6, ty_c7, ty_c8, ty_c9, ty_c10, ty_s0, ty_s1, ty_s2, ty_s3, ty_s4, ty_s5, ty_s6, List.mem_cons, List.not_mem_nil, or_false, false_or, or_true, true_or, and_true, true_and, and_self, Nat.reduceLT, Nat.reduceLeDiff, Nat.reduceEqDiff, Nat.add_eq_left, Nat.reduceAdd, Nat.reduceSub, ↓reduceIte, reduceCtorEq, List.getElem?_cons_zero, List.getElem?_cons_succ, List.set_cons_zero, List.set_cons_succ, List.length_cons, List.length_nil, List.take_succ_cons, List.take_zero, List.drop_succ_cons, List.drop_zero, List.reverse_cons, List.reverse_nil, List.nil_append, List.cons_append, am_entry, List.map_cons, List.map_nil, List.replicate_zero, List.replicate_succ, List.append_nil, decide_eq_true_eq, eq_self, am_ty, am_nf, wf_1, wf_2, wa_1, wa_2, wa_3, wr_1, wr_2, wr_3, ty_q0, ty_q1, ty_q2, i_if, and_false, false_and, ac_180, aty12, kc_80, lv_80_0, lv_80_1, lv_80_2, lv_80_3, lv_80_4, lv_80_5, lv_80_6, li_80_6, lv_80_7, li_80_7, lv_80_8, lv_80_9, lv_80_10, lv_80_11, lv_80_12, lv_80_13, lv_80_14, li_80_14, lv_80_15, lv_80_16, li_80_16, lv_80_17, lv_80_18, lv_80_19, lv_80_20, lv_80_21, lv_80_22, lv_80_23, lv_80_24, li_80_24, lv_80_25, lv_80_26, lv_80_27, lv_80_28, li_80_28, lv_80_29, li_80_29, lv_80_30, li_80_30, lv_80_31, li_80_31, lv_80_32, li_80_32, lv_80_33, li_80_33, lv_80_34, li_80_34, lv_80_35, li_80_35, lv_80_36, li_80_36, lv_80_37, li_80_37, lv_80_38, lv_80_39, li_80_39, lv_80_40, li_80_40, lv_80_41, lv_80_42, lv_80_43, lv_80_44, lv_80_45, lv_80_46, lv_80_47, li_80_47, lv_80_48, li_80_48, lv_80_49, li_80_49, lv_80_50, lv_80_51, h37]
      simp (disch := first | omega | assumption) only [↓mI_i, li_0, li_1, li_2, li_3, li_4, li_5, li_6, li_7, li_8, li_9, li_10, li_16, li_20, li_24, li_31, li_32, li_43, li_44, li_45, li_46, li_48, li_57, li_62, li_64, li_97, li_99, li_100, li_200, li_201, li_202, li_255, li_401, li_500, li_2000, li_5980, li_6000, li_6002, li_9000, li_10000, li_20000, li_40401, li_100000, li_1000000, nI_leI, nI_ltI, nI_eq, mI_eq, mI_eq2, mI_lt, mI_le, mI_gt, mI_ge, nI_m1, nI_add, pk_sub, pk_mul, nI_clamp, bq0, bq1, ite_not, Classical.not_not, or_false, false_or, or_self, not_true_eq_false, not_false_eq_true, ↓reduceIte, ite_true, ite_false, true_or, or_true, and_true, true_and, ne_eq, if_pos, if_neg]
      exact h0 (k + 1) rfl σ frR_refl
    have w1 : whl T k ∧ stn T j1 (lsta T k) := ⟨w.1, hst.mpr w.2⟩
    rw [if_pos w] at h0 h1
    rw [if_pos w1]
    have wl := w.1.1
    have p1 := hz.2.2.2.2 k (by omega)
    have p2 := hz.2.2.2.2 (k + 1) wl
    have a1 := whl_stn w.1 w.2 hj.2
    rw [hj.1] at a1
    have r2 := lsta_n (l := T) (k := k + 1) wl
    have hl1 : (am_txt j1).length = 2 := by rw [hj1]; exact hj.1
    rw [go_to [2, 73]]; simp only [gs_u, fns_if, fns_nx, fns_no, fns_rt, fns_cl, am_fs, am_cd, am_NM, am_sz, am_code, am_step, am_ldc, am_bin, am_div, am_un, am_iload, am_aload, am_istore, am_astore, am_iinc, am_j1, am_j2, am_jr, am_dup, am_dup2, am_pop, am_ret, am_rt, am_rc, am_ml, am_slen, am_schr, am_m1, am_m2, ty_getf, ty_pi, ty_p0, ty_p1, ty_alen, ty_iald, ty_bald, ty_cald, ty_iast, ty_bast, ty_cast, ty_aald, ty_tald, ty_copy, ty_c1, ty_c2, ty_c3, ty_c4, ty_c5, ty_c6, ty_c7, ty_c8, ty_c9, ty_c10, ty_s0, ty_s1, ty_s2, ty_s3, ty_s4, ty_s5, ty_s6, List.mem_cons, List.not_mem_nil, or_false, false_or, or_true, true_or, and_true, true_and, and_self, Nat.reduceLT, Nat.reduceLeDiff, Nat.reduceEqDiff, Nat.add_eq_left, Nat.reduceAdd, Nat.reduceSub, ↓reduceIte, reduceCtorEq, List.getElem?_cons_zero, List.getElem?_cons_succ, List.set_cons_zero, List.set_cons_succ, List.length_cons, List.length_nil, List.take_succ_cons, List.take_zero, List.drop_succ_cons, List.drop_zero, List.reverse_cons, List.reverse_nil, List.nil_append, List.cons_append, am_entry, List.map_cons, List.map_nil, List.replicate_zero, List.replicate_succ, List.append_nil, decide_eq_true_eq, eq_self, am_ty, am_nf, wf_1, wf_2, wa_1, wa_2, wa_3, wr_1, wr_2, wr_3, ty_q0, ty_q1, ty_q2, i_if, and_false, false_and, ac_180, aty12, kc_80, lv_80_0, lv_80_1, lv_80_2, lv_80_3, lv_80_4, lv_80_5, lv_80_6, li_80_6, lv_80_7, li_80_7, lv_80_8, lv_80_9, lv_80_10, lv_80_11, lv_80_12, lv_80_13, lv_80_14, li_80_14, lv_80_15, lv_80_16, li_80_16, lv_80_17, lv_80_18, lv_80_19, lv_80_20, lv_80_21, lv_80_22, lv_80_23, lv_80_24, li_80_24, lv_80_25, lv_80_26, lv_80_27, lv_80_28, li_80_28, lv_80_29, li_80_29, lv_80_30, li_80_30, lv_80_31, li_80_31, lv_80_32, li_80_32, lv_80_33, li_80_33, lv_80_34, li_80_34, lv_80_35, li_80_35, lv_80_36, li_80_36, lv_80_37, li_80_37, lv_80_38, lv_80_39, li_80_39, lv_80_40, li_80_40, lv_80_41, lv_80_42, lv_80_43, lv_80_44, lv_80_45, lv_80_46, lv_80_47, li_80_47, lv_80_48, li_80_48, lv_80_49, li_80_49, lv_80_50, lv_80_51, kc_311, kn_311, h37, hX, ofN]
    simp (disch := first | omega | assumption) only [↓mI_i, li_0, li_1, li_2, li_3, li_4, li_5, li_6, li_7, li_8, li_9, li_10, li_16, li_20, li_24, li_31, li_32, li_43, li_44, li_45, li_46, li_48, li_57, li_62, li_64, li_97, li_99, li_100, li_200, li_201, li_202, li_255, li_401, li_500, li_2000, li_5980, li_6000, li_6002, li_9000, li_10000, li_20000, li_40401, li_100000, li_1000000, nI_leI, nI_ltI, nI_eq, mI_eq, mI_eq2, mI_lt, mI_le, mI_gt, mI_ge, nI_m1, nI_add, pk_sub, pk_mul, nI_clamp, bq0, bq1, ite_not, Classical.not_not, or_false, false_or, or_self, not_true_eq_false, not_false_eq_true, ↓reduceIte, ite_true, ite_false, true_or, or_true, and_true, true_and, ne_eq, if_pos, if_neg, p1, p2, hl1]
    refine mo_body (g := sg) hs hc (by omega) (fun hx => absurd hx hu) (fun τ k1 k2 k3 => ?_)
    have h37' : τ.1 80 37 = nI k := by rw [k3]; exact h37
    dsimp only [am_push]
    rw [go_to [2, 73]]; simp only [gs_u, fns_if, fns_nx, fns_no, fns_rt, fns_cl, am_fs, am_cd, am_NM, am_sz, am_code, am_step, am_ldc, am_bin, am_div, am_un, am_iload, am_aload, am_istore, am_astore, am_iinc, am_j1, am_j2, am_jr, am_dup, am_dup2, am_pop, am_ret, am_rt, am_rc, am_ml, am_slen, am_schr, am_m1, am_m2, ty_getf, ty_pi, ty_p0, ty_p1, ty_alen, ty_iald, ty_bald, ty_cald, ty_iast, ty_bast, ty_cast, ty_aald, ty_tald, ty_copy, ty_c1, ty_c2, ty_c3, ty_c4, ty_c5, ty_c6, ty_c7, ty_c8, ty_c9, ty_c10, ty_s0, ty_s1, ty_s2, ty_s3, ty_s4, ty_s5, ty_s6, List.mem_cons, List.not_mem_nil, or_false, false_or, or_true, true_or, and_true, true_and, and_self, Nat.reduceLT, Nat.reduceLeDiff, Nat.reduceEqDiff, Nat.add_eq_left, Nat.reduceAdd, Nat.reduceSub, ↓reduceIte, reduceCtorEq, List.getElem?_cons_zero, List.getElem?_cons_succ, List.set_cons_zero, List.set_cons_succ, List.length_cons, List.length_nil, List.take_succ_cons, List.take_zero, List.drop_succ_cons, List.drop_zero, List.reverse_cons, List.reverse_nil, List.nil_append, List.cons_append, am_entry, List.map_cons, List.map_nil, List.replicate_zero, List.replicate_succ, List.append_nil, decide_eq_true_eq, eq_self, am_ty, am_nf, wf_1, wf_2, wa_1, wa_2, wa_3, wr_1, wr_2, wr_3, ty_q0, ty_q1, ty_q2, i_if, and_false, false_and, ac_180, aty12, kc_80, lv_80_0, lv_80_1, lv_80_2, lv_80_3, lv_80_4, lv_80_5, lv_80_6, li_80_6, lv_80_7, li_80_7, lv_80_8, lv_80_9, lv_80_10, lv_80_11, lv_80_12, lv_80_13, lv_80_14, li_80_14, lv_80_15, lv_80_16, li_80_16, lv_80_17, lv_80_18, lv_80_19, lv_80_20, lv_80_21, lv_80_22, lv_80_23, lv_80_24, li_80_24, lv_80_25, lv_80_26, lv_80_27, lv_80_28, li_80_28, lv_80_29, li_80_29, lv_80_30, li_80_30, lv_80_31, li_80_31, lv_80_32, li_80_32, lv_80_33, li_80_33, lv_80_34, li_80_34, lv_80_35, li_80_35, lv_80_36, li_80_36, lv_80_37, li_80_37, lv_80_38, lv_80_39, li_80_39, lv_80_40, li_80_40, lv_80_41, lv_80_42, lv_80_43, lv_80_44, lv_80_45, lv_80_46, lv_80_47, li_80_47, lv_80_48, li_80_48, lv_80_49, li_80_49, lv_80_50, lv_80_51, kc_311, kn_311, h37']
    simp (disch := first | omega | assumption) only [↓mI_i, li_0, li_1, li_2, li_3, li_4, li_5, li_6, li_7, li_8, li_9, li_10, li_16, li_20, li_24, li_31, li_32, li_43, li_44, li_45, li_46, li_48, li_57, li_62, li_64, li_97, li_99, li_100, li_200, li_201, li_202, li_255, li_401, li_500, li_2000, li_5980, li_6000, li_6002, li_9000, li_10000, li_20000, li_40401, li_100000, li_1000000, nI_leI, nI_ltI, nI_eq, mI_eq, mI_eq2, mI_lt, mI_le, mI_gt, mI_ge, nI_m1, nI_add, pk_sub, pk_mul, nI_clamp, bq0, bq1, ite_not, Classical.not_not, or_false, false_or, or_self, not_true_eq_false, not_false_eq_true, ↓reduceIte, ite_true, ite_false, true_or, or_true, and_true, true_and, ne_eq, if_pos, if_neg]
    have hf : frR σ (wf τ 80 37 (nI (k + 1))) := frR_trans k2 (frR_wf (by omega))
    have hI2 : Iv cc T (k + 1) (addD s sg (lsta T k + 2) (lsta T (k + 1))) := Iv_addD hI wl (by omega) r2 (by split <;> omega)
    exact ih (i + 1) (k + 1) _ _ (by omega) (MZ_R hz hf) (MSc_K k1 (frK_wf (lo := 37) (hi := 37) (by omega)) (by omega)) hc (by simp [wf]) hI2 (fun e he υ n1 => h0 e he υ (frR_trans hf n1)) (fun v hv υ n1 n2 n3 n4 => h1 v hv υ n1 n2 n3 (frR_trans hf n4))
set_option maxRecDepth 100000 in
set_option maxHeartbeats 8000000 in
theorem mo_rows {j j1 sg n cc k : Nat} (hX : X.2.2 = am_txt) (hj : (am_txt j).length = 2 ∧ ∀ i, i < (am_txt j).length → gl (am_txt j) i ≠ nI 10) (hj1 : am_txt j1 = am_txt j) (hu : u ≠ 1) (hn : n < 2 ^ 30) (hz : MZ σ T) (hs : MSc u σ c s) (hc : c + 1 = s.1.1) (h37 : σ.1 80 37 = nI k) (hI : Iv cc T k s) (h0 : ∀ e, rowP T j sg n k s = .error e → ∀ τ, frR σ τ → Q (some (.int (nI e))) (hh τ)) (h1 : ∀ v, rowP T j sg n k s = .ok v → ∀ τ, MZ τ T → MSc u τ c v.2 → τ.1 80 37 = nI v.1 → frR σ τ → Q (some (.int (nI 0))) (hh τ)) : am_Go X 180 0 [some (.ref 80), some (.retAddr (j1 + 1)), some (.int (nI n)), none] [] (hh σ) Q := by
  rw [go_to [2, 73]]; simp only [gs_u, fns_if, fns_nx, fns_no, fns_rt, fns_cl, am_fs, am_cd, am_NM, am_sz, am_code, am_step, am_ldc, am_bin, am_div, am_un, am_iload, am_aload, am_istore, am_astore, am_iinc, am_j1, am_j2, am_jr, am_dup, am_dup2, am_pop, am_ret, am_rt, am_rc, am_ml, am_slen, am_schr, am_m1, am_m2, ty_getf, ty_pi, ty_p0, ty_p1, ty_alen, ty_iald, ty_bald, ty_cald, ty_iast, ty_bast, ty_cast, ty_aald, ty_tald, ty_copy, ty_c1, ty_c2, ty_c3, ty_c4, ty_c5, ty_c6, ty_c7, ty_c8, ty_c9, ty_c10, ty_s0, ty_s1, ty_s2, ty_s3, ty_s4, ty_s5, ty_s6, List.mem_cons, List.not_mem_nil, or_false, false_or, or_true, true_or, and_true, true_and, and_self, Nat.reduceLT, Nat.reduceLeDiff, Nat.reduceEqDiff, Nat.add_eq_left, Nat.reduceAdd, Nat.reduceSub, ↓reduceIte, reduceCtorEq, List.getElem?_cons_zero, List.getElem?_cons_succ, List.set_cons_zero, List.set_cons_succ, List.length_cons, List.length_nil, List.take_succ_cons, List.take_zero, List.drop_succ_cons, List.drop_zero, List.reverse_cons, List.reverse_nil, List.nil_append, List.cons_append, am_entry, List.map_cons, List.map_nil, List.replicate_zero, List.replicate_succ, List.append_nil, decide_eq_true_eq, eq_self, am_ty, am_nf, wf_1, wf_2, wa_1, wa_2, wa_3, wr_1, wr_2, wr_3, ty_q0, ty_q1, ty_q2, i_if, and_false, false_and, ac_180, aty12, kc_80, lv_80_0, lv_80_1, lv_80_2, lv_80_3, lv_80_4, lv_80_5, lv_80_6, li_80_6, lv_80_7, li_80_7, lv_80_8, lv_80_9, lv_80_10, lv_80_11, lv_80_12, lv_80_13, lv_80_14, li_80_14, lv_80_15, lv_80_16, li_80_16, lv_80_17, lv_80_18, lv_80_19, lv_80_20, lv_80_21, lv_80_22, lv_80_23, lv_80_24, li_80_24, lv_80_25, lv_80_26, lv_80_27, lv_80_28, li_80_28, lv_80_29, li_80_29, lv_80_30, li_80_30, lv_80_31, li_80_31, lv_80_32, li_80_32, lv_80_33, li_80_33, lv_80_34, li_80_34, lv_80_35, li_80_35, lv_80_36, li_80_36, lv_80_37, li_80_37, lv_80_38, lv_80_39, li_80_39, lv_80_40, li_80_40, lv_80_41, lv_80_42, lv_80_43, lv_80_44, lv_80_45, lv_80_46, lv_80_47, li_80_47, lv_80_48, li_80_48, lv_80_49, li_80_49, lv_80_50, lv_80_51]
  simp (disch := first | omega | assumption) only [↓mI_i, li_0, li_1, li_2, li_3, li_4, li_5, li_6, li_7, li_8, li_9, li_10, li_16, li_20, li_24, li_31, li_32, li_43, li_44, li_45, li_46, li_48, li_57, li_62, li_64, li_97, li_99, li_100, li_200, li_201, li_202, li_255, li_401, li_500, li_2000, li_5980, li_6000, li_6002, li_9000, li_10000, li_20000, li_40401, li_100000, li_1000000, nI_leI, nI_ltI, nI_eq, mI_eq, mI_eq2, mI_lt, mI_le, mI_gt, mI_ge, nI_m1, nI_add, pk_sub, pk_mul, nI_clamp, bq0, bq1, ite_not, Classical.not_not, or_false, false_or, or_self, not_true_eq_false, not_false_eq_true, ↓reduceIte, ite_true, ite_false, true_or, or_true, and_true, true_and, ne_eq, if_pos, if_neg]
  refine lp_moRows hX hj hj1 hu hn n 0 k s σ (by omega) hz hs hc h37 hI (fun e he τ h3 => h0 e (by unfold rowP bnd; rw [he]) τ h3) (fun v hv τ g1 g2 g3 g4 => ?_)
  obtain ⟨b1, b2, b3, b4, b5⟩ := rowsP_I hj.1 hj.2 n k s hI v hv
  have hR : rowP T j sg n k s = .ok (if 0 < n then markP T v else v) := by unfold rowP bnd; rw [hv]
  rw [hR] at h1
  have hT := hz.2.1
  have hll := lnum_len (T := T)
  have hb1 := b1.1
  have hb2 := b1.2.1
  have hcv : c + 1 = v.2.1.1 := by rw [b3]; exact hc
  rw [go_to [2, 73]]; simp only [gs_u, fns_if, fns_nx, fns_no, fns_rt, fns_cl, am_fs, am_cd, am_NM, am_sz, am_code, am_step, am_ldc, am_bin, am_div, am_un, am_iload, am_aload, am_istore, am_astore, am_iinc, am_j1, am_j2, am_jr, am_dup, am_dup2, am_pop, am_ret, am_rt, am_rc, am_ml, am_slen, am_schr, am_m1, am_m2, ty_getf, ty_pi, ty_p0, ty_p1, ty_alen, ty_iald, ty_bald, ty_cald, ty_iast, ty_bast, ty_cast, ty_aald, ty_tald, ty_copy, ty_c1, ty_c2, ty_c3, ty_c4, ty_c5, ty_c6, ty_c7, ty_c8, ty_c9, ty_c10, ty_s0, ty_s1, ty_s2, ty_s3, ty_s4, ty_s5, ty_s6, List.mem_cons, List.not_mem_nil, or_false, false_or, or_true, true_or, and_true, true_and, and_self, Nat.reduceLT, Nat.reduceLeDiff, Nat.reduceEqDiff, Nat.add_eq_left, Nat.reduceAdd, Nat.reduceSub, ↓reduceIte, reduceCtorEq, List.getElem?_cons_zero, List.getElem?_cons_succ, List.set_cons_zero, List.set_cons_succ, List.length_cons, List.length_nil, List.take_succ_cons, List.take_zero, List.drop_succ_cons, List.drop_zero, List.reverse_cons, List.reverse_nil, List.nil_append, List.cons_append, am_entry, List.map_cons, List.map_nil, List.replicate_zero, List.replicate_succ, List.append_nil, decide_eq_true_eq, eq_self, am_ty, am_nf, wf_1, wf_2, wa_1, wa_2, wa_3, wr_1, wr_2, wr_3, ty_q0, ty_q1, ty_q2, i_if, and_false, false_and, ac_180, aty12, kc_80, lv_80_0, lv_80_1, lv_80_2, lv_80_3, lv_80_4, lv_80_5, lv_80_6, li_80_6, lv_80_7, li_80_7, lv_80_8, lv_80_9, lv_80_10, lv_80_11, lv_80_12, lv_80_13, lv_80_14, li_80_14, lv_80_15, lv_80_16, li_80_16, lv_80_17, lv_80_18, lv_80_19, lv_80_20, lv_80_21, lv_80_22, lv_80_23, lv_80_24, li_80_24, lv_80_25, lv_80_26, lv_80_27, lv_80_28, li_80_28, lv_80_29, li_80_29, lv_80_30, li_80_30, lv_80_31, li_80_31, lv_80_32, li_80_32, lv_80_33, li_80_33, lv_80_34, li_80_34, lv_80_35, li_80_35, lv_80_36, li_80_36, lv_80_37, li_80_37, lv_80_38, lv_80_39, li_80_39, lv_80_40, li_80_40, lv_80_41, lv_80_42, lv_80_43, lv_80_44, lv_80_45, lv_80_46, lv_80_47, li_80_47, lv_80_48, li_80_48, lv_80_49, li_80_49, lv_80_50, lv_80_51, g3]
  simp (disch := first | omega | assumption) only [↓mI_i, li_0, li_1, li_2, li_3, li_4, li_5, li_6, li_7, li_8, li_9, li_10, li_16, li_20, li_24, li_31, li_32, li_43, li_44, li_45, li_46, li_48, li_57, li_62, li_64, li_97, li_99, li_100, li_200, li_201, li_202, li_255, li_401, li_500, li_2000, li_5980, li_6000, li_6002, li_9000, li_10000, li_20000, li_40401, li_100000, li_1000000, nI_leI, nI_ltI, nI_eq, mI_eq, mI_eq2, mI_lt, mI_le, mI_gt, mI_ge, nI_m1, nI_add, pk_sub, pk_mul, nI_clamp, bq0, bq1, ite_not, Classical.not_not, or_false, false_or, or_self, not_true_eq_false, not_false_eq_true, ↓reduceIte, ite_true, ite_false, true_or, or_true, and_true, true_and, ne_eq, if_pos, if_neg]
  by_cases hn0 : n = 0
  · subst hn0
    simp (disch := first | omega | assumption) only [↓mI_i, li_0, li_1, li_2, li_3, li_4, li_5, li_6, li_7, li_8, li_9, li_10, li_16, li_20, li_24, li_31, li_32, li_43, li_44, li_45, li_46, li_48, li_57, li_62, li_64, li_97, li_99, li_100, li_200, li_201, li_202, li_255, li_401, li_500, li_2000, li_5980, li_6000, li_6002, li_9000, li_10000, li_20000, li_40401, li_100000, li_1000000, nI_leI, nI_ltI, nI_eq, mI_eq, mI_eq2, mI_lt, mI_le, mI_gt, mI_ge, nI_m1, nI_add, pk_sub, pk_mul, nI_clamp, bq0, bq1, ite_not, Classical.not_not, or_false, false_or, or_self, not_true_eq_false, not_false_eq_true, ↓reduceIte, ite_true, ite_false, true_or, or_true, and_true, true_and, ne_eq, if_pos, if_neg]
    exact h1 v rfl τ g1 g2 g3 g4
  have b5 := b5 (by omega)
  rw [if_pos (by omega)] at h1
  simp (disch := first | omega | assumption) only [↓mI_i, li_0, li_1, li_2, li_3, li_4, li_5, li_6, li_7, li_8, li_9, li_10, li_16, li_20, li_24, li_31, li_32, li_43, li_44, li_45, li_46, li_48, li_57, li_62, li_64, li_97, li_99, li_100, li_200, li_201, li_202, li_255, li_401, li_500, li_2000, li_5980, li_6000, li_6002, li_9000, li_10000, li_20000, li_40401, li_100000, li_1000000, nI_leI, nI_ltI, nI_eq, mI_eq, mI_eq2, mI_lt, mI_le, mI_gt, mI_ge, nI_m1, nI_add, pk_sub, pk_mul, nI_clamp, bq0, bq1, ite_not, Classical.not_not, or_false, false_or, or_self, not_true_eq_false, not_false_eq_true, ↓reduceIte, ite_true, ite_false, true_or, or_true, and_true, true_and, ne_eq, if_pos, if_neg]
  rw [mo_is (j2 := 32) (m := 27) hX g1 b1.1 (by decide +kernel) (by omega) (by decide +kernel) (by decide +kernel)]
  dsimp only [am_push]
  by_cases z : stn T 32 (lsta T v.1)
  · have e : markP T v = (v.1 + 1, opD v.2) := by unfold markP; rw [if_pos z]
    rw [e] at h1
    rw [if_pos z]
    have d8 := g2.2.2.2.2.2.2.2.1 (v.2.2.1 - 1) (by omega)
    have e28 := g2.2.1
    rw [go_to [2, 73]]; simp only [gs_u, fns_if, fns_nx, fns_no, fns_rt, fns_cl, am_fs, am_cd, am_NM, am_sz, am_code, am_step, am_ldc, am_bin, am_div, am_un, am_iload, am_aload, am_istore, am_astore, am_iinc, am_j1, am_j2, am_jr, am_dup, am_dup2, am_pop, am_ret, am_rt, am_rc, am_ml, am_slen, am_schr, am_m1, am_m2, ty_getf, ty_pi, ty_p0, ty_p1, ty_alen, ty_iald, ty_bald, ty_cald, ty_iast, ty_bast, ty_cast, ty_aald, ty_tald, ty_copy, ty_c1, ty_c2, ty_c3, ty_c4, ty_c5, ty_c6, ty_c7, ty_c8, ty_c9, ty_c10, ty_s0, ty_s1, ty_s2, ty_s3, ty_s4, ty_s5, ty_s6, List.mem_cons, List.not_mem_nil, or_false, false_or, or_true, true_or, and_true, true_and, and_self, Nat.reduceLT, Nat.reduceLeDiff, Nat.reduceEqDiff, Nat.add_eq_left, Nat.reduceAdd, Nat.reduceSub, ↓reduceIte, reduceCtorEq, List.getElem?_cons_zero, List.getElem?_cons_succ, List.set_cons_zero, List.set_cons_succ, List.length_cons, List.length_nil, List.take_succ_cons, List.take_zero, List.drop_succ_cons, List.drop_zero, List.reverse_cons, List.reverse_nil, List.nil_append, List.cons_append, am_entry, List.map_cons, List.map_nil, List.replicate_zero, List.replicate_succ, List.append_nil, decide_eq_true_eq, eq_self, am_ty, am_nf, wf_1, wf_2, wa_1, wa_2, wa_3, wr_1, wr_2, wr_3, ty_q0, ty_q1, ty_q2, i_if, and_false, false_and, ac_180, aty12, kc_80, lv_80_0, lv_80_1, lv_80_2, lv_80_3, lv_80_4, lv_80_5, lv_80_6, li_80_6, lv_80_7, li_80_7, lv_80_8, lv_80_9, lv_80_10, lv_80_11, lv_80_12, lv_80_13, lv_80_14, li_80_14, lv_80_15, lv_80_16, li_80_16, lv_80_17, lv_80_18, lv_80_19, lv_80_20, lv_80_21, lv_80_22, lv_80_23, lv_80_24, li_80_24, lv_80_25, lv_80_26, lv_80_27, lv_80_28, li_80_28, lv_80_29, li_80_29, lv_80_30, li_80_30, lv_80_31, li_80_31, lv_80_32, li_80_32, lv_80_33, li_80_33, lv_80_34, li_80_34, lv_80_35, li_80_35, lv_80_36, li_80_36, lv_80_37, li_80_37, lv_80_38, lv_80_39, li_80_39, lv_80_40, li_80_40, lv_80_41, lv_80_42, lv_80_43, lv_80_44, lv_80_45, lv_80_46, lv_80_47, li_80_47, lv_80_48, li_80_48, lv_80_49, li_80_49, lv_80_50, lv_80_51, kc_321, kn_321, g3, e28]
    simp (disch := first | omega | assumption) only [↓mI_i, li_0, li_1, li_2, li_3, li_4, li_5, li_6, li_7, li_8, li_9, li_10, li_16, li_20, li_24, li_31, li_32, li_43, li_44, li_45, li_46, li_48, li_57, li_62, li_64, li_97, li_99, li_100, li_200, li_201, li_202, li_255, li_401, li_500, li_2000, li_5980, li_6000, li_6002, li_9000, li_10000, li_20000, li_40401, li_100000, li_1000000, nI_leI, nI_ltI, nI_eq, mI_eq, mI_eq2, mI_lt, mI_le, mI_gt, mI_ge, nI_m1, nI_add, pk_sub, pk_mul, nI_clamp, bq0, bq1, ite_not, Classical.not_not, or_false, false_or, or_self, not_true_eq_false, not_false_eq_true, ↓reduceIte, ite_true, ite_false, true_or, or_true, and_true, true_and, ne_eq, if_pos, if_neg, d8]
    have hf : frR τ (wf (wa τ 321 (upd (τ.2.1 321) (v.2.2.1 - 1) (nI (v.2.2.2 2 (v.2.2.1 - 1) - 1)))) 80 37 (nI (v.1 + 1))) := frR_trans (frR_wa (by omega)) (frR_wf (by omega))
    refine h1 _ rfl _ (MZ_R g1 hf) (MSc_K (MSc_open g2 hcv rfl (by omega)) (frK_wf (lo := 37) (hi := 37) (by omega)) (by omega)) (by simp [wf]) (frR_trans g4 hf)
  · have e : markP T v = v := by unfold markP; rw [if_neg z]
    rw [e] at h1
    rw [if_neg z]
    rw [go_to [2, 73]]; simp only [gs_u, fns_if, fns_nx, fns_no, fns_rt, fns_cl, am_fs, am_cd, am_NM, am_sz, am_code, am_step, am_ldc, am_bin, am_div, am_un, am_iload, am_aload, am_istore, am_astore, am_iinc, am_j1, am_j2, am_jr, am_dup, am_dup2, am_pop, am_ret, am_rt, am_rc, am_ml, am_slen, am_schr, am_m1, am_m2, ty_getf, ty_pi, ty_p0, ty_p1, ty_alen, ty_iald, ty_bald, ty_cald, ty_iast, ty_bast, ty_cast, ty_aald, ty_tald, ty_copy, ty_c1, ty_c2, ty_c3, ty_c4, ty_c5, ty_c6, ty_c7, ty_c8, ty_c9, ty_c10, ty_s0, ty_s1, ty_s2, ty_s3, ty_s4, ty_s5, ty_s6, List.mem_cons, List.not_mem_nil, or_false, false_or, or_true, true_or, and_true, true_and, and_self, Nat.reduceLT, Nat.reduceLeDiff, Nat.reduceEqDiff, Nat.add_eq_left, Nat.reduceAdd, Nat.reduceSub, ↓reduceIte, reduceCtorEq, List.getElem?_cons_zero, List.getElem?_cons_succ, List.set_cons_zero, List.set_cons_succ, List.length_cons, List.length_nil, List.take_succ_cons, List.take_zero, List.drop_succ_cons, List.drop_zero, List.reverse_cons, List.reverse_nil, List.nil_append, List.cons_append, am_entry, List.map_cons, List.map_nil, List.replicate_zero, List.replicate_succ, List.append_nil, decide_eq_true_eq, eq_self, am_ty, am_nf, wf_1, wf_2, wa_1, wa_2, wa_3, wr_1, wr_2, wr_3, ty_q0, ty_q1, ty_q2, i_if, and_false, false_and, ac_180, aty12, kc_80, lv_80_0, lv_80_1, lv_80_2, lv_80_3, lv_80_4, lv_80_5, lv_80_6, li_80_6, lv_80_7, li_80_7, lv_80_8, lv_80_9, lv_80_10, lv_80_11, lv_80_12, lv_80_13, lv_80_14, li_80_14, lv_80_15, lv_80_16, li_80_16, lv_80_17, lv_80_18, lv_80_19, lv_80_20, lv_80_21, lv_80_22, lv_80_23, lv_80_24, li_80_24, lv_80_25, lv_80_26, lv_80_27, lv_80_28, li_80_28, lv_80_29, li_80_29, lv_80_30, li_80_30, lv_80_31, li_80_31, lv_80_32, li_80_32, lv_80_33, li_80_33, lv_80_34, li_80_34, lv_80_35, li_80_35, lv_80_36, li_80_36, lv_80_37, li_80_37, lv_80_38, lv_80_39, li_80_39, lv_80_40, li_80_40, lv_80_41, lv_80_42, lv_80_43, lv_80_44, lv_80_45, lv_80_46, lv_80_47, li_80_47, lv_80_48, li_80_48, lv_80_49, li_80_49, lv_80_50, lv_80_51, kc_321, kn_321, g3]
    simp (disch := first | omega | assumption) only [↓mI_i, li_0, li_1, li_2, li_3, li_4, li_5, li_6, li_7, li_8, li_9, li_10, li_16, li_20, li_24, li_31, li_32, li_43, li_44, li_45, li_46, li_48, li_57, li_62, li_64, li_97, li_99, li_100, li_200, li_201, li_202, li_255, li_401, li_500, li_2000, li_5980, li_6000, li_6002, li_9000, li_10000, li_20000, li_40401, li_100000, li_1000000, nI_leI, nI_ltI, nI_eq, mI_eq, mI_eq2, mI_lt, mI_le, mI_gt, mI_ge, nI_m1, nI_add, pk_sub, pk_mul, nI_clamp, bq0, bq1, ite_not, Classical.not_not, or_false, false_or, or_self, not_true_eq_false, not_false_eq_true, ↓reduceIte, ite_true, ite_false, true_or, or_true, and_true, true_and, ne_eq, if_pos, if_neg]
    exact h1 _ rfl τ g1 g2 g3 g4
end MR
