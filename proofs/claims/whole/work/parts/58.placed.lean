/-! the class's Hunks; hunks applied -/
def is_H (h : Nat) : Prop := ly_c h = 4 ∧ (∀ σ, ly_v σ h 0 = .ref (h + 1) ∧ ly_v σ h 1 = .ref (h + 2) ∧ ly_v σ h 2 = .ref (h + 3)) ∧ ly_i h 4 3 ∧ (ly_c (h + 1) = 13 ∧ ly_c (h + 2) = 13 ∧ ly_c (h + 3) = 13) ∧ (ly_n (h + 1) = 500 ∧ ly_n (h + 2) = 500 ∧ ly_n (h + 3) = 500) ∧ 22 ≤ h ∧ h + 3 ≤ 29
theorem is_H_22 : is_H 22 := ⟨rfl, fun _ => ⟨rfl, rfl, rfl⟩, ⟨rfl, rfl, rfl⟩, ⟨rfl, rfl, rfl⟩, ⟨rfl, rfl, rfl⟩, by omega, by omega⟩
theorem is_H_26 : is_H 26 := ⟨rfl, fun _ => ⟨rfl, rfl, rfl⟩, ⟨rfl, rfl, rfl⟩, ⟨rfl, rfl, rfl⟩, ⟨rfl, rfl, rfl⟩, by omega, by omega⟩
/-- the hunks at h: n of them, their facts -/
def Hk (σ : am_M) (h n : Nat) (H : Nat → Nat → Int32) : Prop := σ.1 h 3 = nI n ∧ n ≤ 500 ∧ (∀ i, i < n → σ.2.1 (h + 1) i = H 0 i) ∧ (∀ i, i < n → σ.2.1 (h + 2) i = H 1 i) ∧ (∀ i, i < n → σ.2.1 (h + 3) i = H 2 i)
theorem Hk_fr {lo hi h n : Nat} {H : Nat → Nat → Int32} {σ τ : am_M} (hh : Hk σ h n H) (hf : fr lo hi σ τ) (hd : h + 3 < lo ∨ hi < h) : Hk τ h n H := by
  obtain ⟨g1, g2, g3, g4, g5⟩ := hh
  exact ⟨by rw [hf.1 _ _ (by omega)]; exact g1, g2, by rw [hf.2.1 _ (by omega)]; exact g3, by rw [hf.2.1 _ (by omega)]; exact g4, by rw [hf.2.1 _ (by omega)]; exact g5⟩
/-- only the applier and the hunks at h have changed -/
def frH (h : Nat) (σ τ : am_M) : Prop := (∀ a k, (a < 19 ∨ 21 < a) → (a < h ∨ h + 3 < a) → τ.1 a k = σ.1 a k) ∧ (∀ a, (a < 19 ∨ 21 < a) → (a < h ∨ h + 3 < a) → τ.2.1 a = σ.2.1 a) ∧ τ.2.2 = σ.2.2
theorem frH_refl {h : Nat} {σ : am_M} : frH h σ σ := ⟨fun _ _ _ _ => rfl, fun _ _ _ => rfl, rfl⟩
theorem frH_trans {h : Nat} {σ τ υ : am_M} (h1 : frH h σ τ) (h2 : frH h τ υ) : frH h σ υ := ⟨fun a k p q => (h2.1 a k p q).trans (h1.1 a k p q), fun a p q => (h2.2.1 a p q).trans (h1.2.1 a p q), h2.2.2.trans h1.2.2⟩
theorem frH_a {h : Nat} {σ τ : am_M} (hf : fr 19 21 σ τ) : frH h σ τ := ⟨fun a k p _ => hf.1 a k p, fun a p _ => hf.2.1 a p, hf.2.2⟩
theorem frH_h {h : Nat} {σ τ : am_M} (hf : fr h (h + 3) σ τ) : frH h σ τ := ⟨fun a k _ q => hf.1 a k q, fun a _ q => hf.2.1 a q, hf.2.2⟩
theorem frH_Tx {h t : Nat} {l : List Int32} {σ τ : am_M} (hf : frH h σ τ) (hH : is_H h) (ht : 30 ≤ t) (hx : Tx σ t l) : Tx τ t l := by
  have := hH.2.2.2.2.2
  exact Tx_of hx (hf.1 _ _ (by omega) (by omega)) (hf.1 _ _ (by omega) (by omega)) (hf.2.1 _ (by omega) (by omega)) (hf.2.1 _ (by omega) (by omega)) (hf.2.1 _ (by omega) (by omega))
theorem frH_SW {h : Nat} {T : List Int32} {s : Sk} {σ τ : am_M} (hf : frH h σ τ) (hH : is_H h) (hx : SW σ T s) : SW τ T s := by
  have := hH.2.2.2.2.2
  exact ⟨Bt_of hx.1 (hf.1 _ _ (by omega) (by omega)) (hf.2.1 _ (by omega) (by omega)), Sc_of hx.2 (fun k => hf.1 _ _ (by omega) (by omega)) (fun a h1 h2 => hf.2.1 _ (by omega) (by omega))⟩
section HK
variable {X : am_X} {σ : am_M} {l T : List Int32} {s : Sk} {h t n dn rf rb old kk cc k g : Nat} {H : Nat → Nat → Int32} {Q : Option Value → am_H → Prop}
theorem upd_H {f : Nat → Int32} {F : Nat → Nat → Int32} {c n : Nat} {x y z v : Int32} (hf : ∀ i, i < n → f i = F c i) (hv : v = (if c = 0 then x else if c = 1 then y else z)) : ∀ i, i < n + 1 → upd f n v i = upH F n x y z c i := by
  intro i hi
  unfold upd upH
  by_cases q : i = n
  · rw [if_pos q, if_pos q]; exact hv
  · rw [if_neg q, if_neg q]; exact hf i (by omega)
set_option maxRecDepth 100000 in
set_option maxHeartbeats 4000000 in
theorem c_Hunks_add {x y z : Int32} (hH : is_H h) (hk : Hk σ h n H) (hn : n < 500) (hQ : ∀ τ, Hk τ h (n + 1) (upH H n x y z) → fr h (h + 3) σ τ → Q none (hh τ)) : am_Go X 47 0 [some (.ref h), some (.int x), some (.int y), some (.int z)] [] (hh σ) Q := by
  obtain ⟨h1, h2, h3, ⟨h4, h5, h6⟩, ⟨h7, h8, h9⟩, h10⟩ := hH
  obtain ⟨g1, g2, g3, g4, g5⟩ := hk
  have v0 := fun σ => (h2 σ).1
  have v1 := fun σ => (h2 σ).2.1
  have v2 := fun σ => (h2 σ).2.2
  rw [go_to []]; simp only [gs_u, fns_if, fns_nx, fns_no, fns_rt, fns_cl, am_fs, am_cd, am_NM, am_sz, am_code, am_step, am_ldc, am_bin, am_div, am_un, am_iload, am_aload, am_istore, am_astore, am_iinc, am_j1, am_j2, am_jr, am_dup, am_dup2, am_pop, am_ret, am_rt, am_rc, am_ml, am_slen, am_schr, am_m1, am_m2, ty_getf, ty_pi, ty_p0, ty_p1, ty_alen, ty_iald, ty_bald, ty_cald, ty_iast, ty_bast, ty_cast, ty_aald, ty_tald, ty_copy, ty_c1, ty_c2, ty_c3, ty_c4, ty_c5, ty_c6, ty_c7, ty_c8, ty_c9, ty_c10, ty_s0, ty_s1, ty_s2, ty_s3, ty_s4, ty_s5, ty_s6, List.mem_cons, List.not_mem_nil, or_false, false_or, or_true, true_or, and_true, true_and, and_self, Nat.reduceLT, Nat.reduceLeDiff, Nat.reduceEqDiff, Nat.add_eq_left, Nat.reduceAdd, Nat.reduceSub, ↓reduceIte, reduceCtorEq, List.getElem?_cons_zero, List.getElem?_cons_succ, List.set_cons_zero, List.set_cons_succ, List.length_cons, List.length_nil, List.take_succ_cons, List.take_zero, List.drop_succ_cons, List.drop_zero, List.reverse_cons, List.reverse_nil, List.nil_append, List.cons_append, am_entry, List.map_cons, List.map_nil, List.replicate_zero, List.replicate_succ, List.append_nil, decide_eq_true_eq, eq_self, am_ty, am_nf, wf_1, wf_2, wa_1, wa_2, wa_3, wr_1, wr_2, wr_3, ty_q0, ty_q1, ty_q2, i_if, and_false, false_and, ac_47, aty4, h1, v0, v1, v2, h3, ly_vi h3, h4, h5, h6, h7, h8, h9, g1]
  simp (disch := first | omega | assumption) only [↓mI_i, li_0, li_1, li_2, li_3, li_4, li_5, li_6, li_7, li_8, li_9, li_10, li_16, li_20, li_24, li_31, li_32, li_43, li_44, li_45, li_46, li_48, li_57, li_62, li_64, li_97, li_99, li_100, li_200, li_201, li_202, li_255, li_401, li_500, li_2000, li_5980, li_6000, li_6002, li_9000, li_10000, li_20000, li_40401, li_100000, li_1000000, nI_leI, nI_ltI, nI_eq, mI_eq, mI_eq2, mI_lt, mI_le, mI_gt, mI_ge, nI_m1, nI_add, pk_sub, pk_mul, nI_clamp, bq0, bq1, ite_not, Classical.not_not, or_false, false_or, or_self, not_true_eq_false, not_false_eq_true, ↓reduceIte, ite_true, ite_false, true_or, or_true, and_true, true_and, ne_eq, if_pos, if_neg]
  refine hQ _ ⟨by simp [wf], by omega, ?_, ?_, ?_⟩ (fr_trans (fr_wa (by omega)) (fr_trans (fr_wa (by omega)) (fr_trans (fr_wa (by omega)) (fr_wf (by omega)))))
  · have := upd_H (c := 0) (x := x) (y := y) (z := z) g3 rfl
    simpa [wf, wa] using this
  · have := upd_H (c := 1) (x := x) (y := y) (z := z) g4 rfl
    simpa [wf, wa] using this
  · have := upd_H (c := 2) (x := x) (y := y) (z := z) g5 rfl
    simpa [wf, wa] using this
/-- what hunk() answers -/
def hkV (n : Nat) (H : Nat → Nat → Int32) (i w : Int32) : Int32 := if i < nI 0 ∨ nI n ≤ i then mI else if w = nI 0 then H 0 i.toNatClampNeg else if w = nI 1 then H 1 i.toNatClampNeg else if w = nI 2 then H 2 i.toNatClampNeg else mI
set_option maxRecDepth 100000 in
set_option maxHeartbeats 4000000 in
theorem sx_Hunks_fact {i w : Int32} (hH : is_H h) (hk : Hk σ h n H) : am_Go X 48 0 [some (.ref h), some (.int i), some (.int w)] [] (hh σ) Q = Q (some (.int (hkV n H i w))) (hh σ) := by
  obtain ⟨h1, h2, h3, ⟨h4, h5, h6⟩, ⟨h7, h8, h9⟩, h10⟩ := hH
  obtain ⟨g1, g2, g3, g4, g5⟩ := hk
  have v0 := fun σ => (h2 σ).1
  have v1 := fun σ => (h2 σ).2.1
  have v2 := fun σ => (h2 σ).2.2
  unfold hkV
  rw [go_to []]; simp only [gs_u, fns_if, fns_nx, fns_no, fns_rt, fns_cl, am_fs, am_cd, am_NM, am_sz, am_code, am_step, am_ldc, am_bin, am_div, am_un, am_iload, am_aload, am_istore, am_astore, am_iinc, am_j1, am_j2, am_jr, am_dup, am_dup2, am_pop, am_ret, am_rt, am_rc, am_ml, am_slen, am_schr, am_m1, am_m2, ty_getf, ty_pi, ty_p0, ty_p1, ty_alen, ty_iald, ty_bald, ty_cald, ty_iast, ty_bast, ty_cast, ty_aald, ty_tald, ty_copy, ty_c1, ty_c2, ty_c3, ty_c4, ty_c5, ty_c6, ty_c7, ty_c8, ty_c9, ty_c10, ty_s0, ty_s1, ty_s2, ty_s3, ty_s4, ty_s5, ty_s6, List.mem_cons, List.not_mem_nil, or_false, false_or, or_true, true_or, and_true, true_and, and_self, Nat.reduceLT, Nat.reduceLeDiff, Nat.reduceEqDiff, Nat.add_eq_left, Nat.reduceAdd, Nat.reduceSub, ↓reduceIte, reduceCtorEq, List.getElem?_cons_zero, List.getElem?_cons_succ, List.set_cons_zero, List.set_cons_succ, List.length_cons, List.length_nil, List.take_succ_cons, List.take_zero, List.drop_succ_cons, List.drop_zero, List.reverse_cons, List.reverse_nil, List.nil_append, List.cons_append, am_entry, List.map_cons, List.map_nil, List.replicate_zero, List.replicate_succ, List.append_nil, decide_eq_true_eq, eq_self, am_ty, am_nf, wf_1, wf_2, wa_1, wa_2, wa_3, wr_1, wr_2, wr_3, ty_q0, ty_q1, ty_q2, i_if, and_false, false_and, ac_48, h1, v0, v1, v2, h3, ly_vi h3, h4, h5, h6, h7, h8, h9, g1]
  simp (disch := first | omega | assumption) only [↓mI_i, li_0, li_1, li_2, li_3, li_4, li_5, li_6, li_7, li_8, li_9, li_10, li_16, li_20, li_24, li_31, li_32, li_43, li_44, li_45, li_46, li_48, li_57, li_62, li_64, li_97, li_99, li_100, li_200, li_201, li_202, li_255, li_401, li_500, li_2000, li_5980, li_6000, li_6002, li_9000, li_10000, li_20000, li_40401, li_100000, li_1000000, nI_leI, nI_ltI, nI_eq, mI_eq, mI_eq2, mI_lt, mI_le, mI_gt, mI_ge, nI_m1, nI_add, pk_sub, pk_mul, nI_clamp, bq0, bq1, ite_not, Classical.not_not, or_false, false_or, or_self, not_true_eq_false, not_false_eq_true, ↓reduceIte, ite_true, ite_false, true_or, or_true, and_true, true_and, ne_eq, if_pos, if_neg]
  by_cases z : i < nI 0
  · rw [if_pos z, if_pos (Or.inl z)]
  by_cases y : i < nI n
  case neg =>
    rw [if_neg z, if_neg y, if_pos (Or.inr (Int32.not_lt.mp y))]
  obtain ⟨j, hj, rfl⟩ := nI_of z
  rw [nI_ltI hj (by omega)] at y
  have a1 : ¬ (nI j < nI 0 ∨ nI n ≤ nI j) := by
    rw [nI_ltI hj (by omega), nI_leI (by omega) hj]
    omega
  have d3 := g3 j y
  have d4 := g4 j y
  have d5 := g5 j y
  rw [if_neg a1]
  simp (disch := first | omega | assumption) only [↓mI_i, li_0, li_1, li_2, li_3, li_4, li_5, li_6, li_7, li_8, li_9, li_10, li_16, li_20, li_24, li_31, li_32, li_43, li_44, li_45, li_46, li_48, li_57, li_62, li_64, li_97, li_99, li_100, li_200, li_201, li_202, li_255, li_401, li_500, li_2000, li_5980, li_6000, li_6002, li_9000, li_10000, li_20000, li_40401, li_100000, li_1000000, nI_leI, nI_ltI, nI_eq, mI_eq, mI_eq2, mI_lt, mI_le, mI_gt, mI_ge, nI_m1, nI_add, pk_sub, pk_mul, nI_clamp, bq0, bq1, ite_not, Classical.not_not, or_false, false_or, or_self, not_true_eq_false, not_false_eq_true, ↓reduceIte, ite_true, ite_false, true_or, or_true, and_true, true_and, ne_eq, if_pos, if_neg, d3, d4, d5]
  by_cases w0 : w = nI 0
  · rw [if_pos w0, if_pos w0]
  by_cases w1 : w = nI 1
  · rw [if_neg w0, if_neg w0, if_pos w1, if_pos w1]
  by_cases w2 : w = nI 2
  · rw [if_neg w0, if_neg w0, if_neg w1, if_neg w1, if_pos w2, if_pos w2]
  · rw [if_neg w0, if_neg w0, if_neg w1, if_neg w1, if_neg w2, if_neg w2]
end HK
