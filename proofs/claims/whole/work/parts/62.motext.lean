/-! the reference: texts, tape, output -/
theorem mt_c : ∀ t, t < 8 → ly_c (82 + t) = 14 ∧ ly_n (82 + t) = 2000 ∧ ly_c (93 + t) = 13 ∧ ly_n (93 + t) = 202 := by decide
/-- a row of bytes holds l -/
def Bs (σ : am_M) (b : Nat) (l : List Int32) : Prop := ly_c b = 14 ∧ l.length ≤ ly_n b ∧ ly_n b ≤ 20000 ∧ (∀ i, i < l.length → σ.2.1 b i = gl l i) ∧ isb l
theorem Bs_of {σ τ : am_M} {b : Nat} {l : List Int32} (h : Bs σ b l) (e : τ.2.1 b = σ.2.1 b) : Bs τ b l := ⟨h.1, h.2.1, h.2.2.1, by rw [e]; exact h.2.2.2.1, h.2.2.2.2⟩
/-- text t of the reference holds l -/
def MT (σ : am_M) (t : Nat) (l : List Int32) : Prop := t < 8 ∧ (∀ i, i < l.length → σ.2.1 (82 + t) i = gl l i) ∧ σ.2.1 90 t = nI l.length ∧ σ.2.1 91 t = nI (lnum l) ∧ (∀ k, k ≤ lnum l → σ.2.1 (93 + t) k = nI (lsta l k)) ∧ l.length ≤ 2000 ∧ lnum l ≤ 200 ∧ isb l
theorem MT_B {σ : am_M} {t : Nat} {l : List Int32} (h : MT σ t l) : Bs σ (82 + t) l := by
  have := mt_c t h.1
  exact ⟨this.1, by rw [this.2.1]; exact h.2.2.2.2.2.1, by omega, h.2.1, h.2.2.2.2.2.2.2⟩
theorem MT_of {σ τ : am_M} {t : Nat} {l : List Int32} (h : MT σ t l) (h1 : τ.2.1 (82 + t) = σ.2.1 (82 + t)) (h2 : τ.2.1 90 t = σ.2.1 90 t) (h3 : τ.2.1 91 t = σ.2.1 91 t) (h4 : τ.2.1 (93 + t) = σ.2.1 (93 + t)) : MT τ t l := by
  obtain ⟨g1, g2, g3, g4, g5, g6⟩ := h
  exact ⟨g1, by rw [h1]; exact g2, by rw [h2]; exact g3, by rw [h3]; exact g4, by rw [h4]; exact g5, g6⟩
theorem MT_fr {lo hi t : Nat} {l : List Int32} {σ τ : am_M} (h : MT σ t l) (hf : fr lo hi σ τ) (hd : hi < 82 ∨ 100 < lo) : MT τ t l := by
  have := h.1
  exact MT_of h (hf.2.1 _ (by omega)) (by rw [hf.2.1 _ (by omega)]) (by rw [hf.2.1 _ (by omega)]) (hf.2.1 _ (by omega))
/-- only text t has changed -/
def frB (t : Nat) (σ τ : am_M) : Prop := τ.1 = σ.1 ∧ (∀ a, a ≠ 82 + t → a ≠ 90 → a ≠ 91 → a ≠ 93 + t → τ.2.1 a = σ.2.1 a) ∧ (∀ i, i ≠ t → τ.2.1 90 i = σ.2.1 90 i ∧ τ.2.1 91 i = σ.2.1 91 i) ∧ τ.2.2 = σ.2.2
theorem frB_refl {t : Nat} {σ : am_M} : frB t σ σ := ⟨rfl, fun _ _ _ _ _ => rfl, fun _ _ => ⟨rfl, rfl⟩, rfl⟩
theorem frB_trans {t : Nat} {σ τ υ : am_M} (h1 : frB t σ τ) (h2 : frB t τ υ) : frB t σ υ := ⟨h2.1.trans h1.1, fun a p q r s => (h2.2.1 a p q r s).trans (h1.2.1 a p q r s), fun i h => ⟨(h2.2.2.1 i h).1.trans (h1.2.2.1 i h).1, (h2.2.2.1 i h).2.trans (h1.2.2.1 i h).2⟩, h2.2.2.2.trans h1.2.2.2⟩
theorem MT_frB {t u : Nat} {l : List Int32} {σ τ : am_M} (h : MT σ u l) (hf : frB t σ τ) (hne : u ≠ t) (ht : t < 8) : MT τ u l := by
  have := h.1
  exact MT_of h (hf.2.1 _ (by omega) (by omega) (by omega) (by omega)) (hf.2.2.1 u hne).1 (hf.2.2.1 u hne).2 (hf.2.1 _ (by omega) (by omega) (by omega) (by omega))
theorem frB_8 {t : Nat} {σ : am_M} {f : Nat → Int32} (ht : t < 8) : frB t σ (wa σ (82 + t) f) := ⟨rfl, fun a p _ _ _ => by rw [wa_2, if_neg p], fun i _ => ⟨by rw [wa_2, if_neg (by omega)], by rw [wa_2, if_neg (by omega)]⟩, rfl⟩
theorem frB_9 {t : Nat} {σ : am_M} {f : Nat → Int32} : frB t σ (wa σ (93 + t) f) := ⟨rfl, fun a _ _ _ p => by rw [wa_2, if_neg p], fun i _ => ⟨by rw [wa_2, if_neg (by omega)], by rw [wa_2, if_neg (by omega)]⟩, rfl⟩
theorem frB_90 {t : Nat} {σ : am_M} {v : Int32} : frB t σ (wa σ 90 (upd (σ.2.1 90) t v)) := ⟨rfl, fun a _ p _ _ => by rw [wa_2, if_neg p], fun i h => ⟨by rw [wa_2, if_pos rfl]; unfold upd; rw [if_neg h], by rw [wa_2, if_neg (by omega)]⟩, rfl⟩
theorem frB_91 {t : Nat} {σ : am_M} {v : Int32} : frB t σ (wa σ 91 (upd (σ.2.1 91) t v)) := ⟨rfl, fun a _ _ p _ => by rw [wa_2, if_neg p], fun i h => ⟨by rw [wa_2, if_neg (by omega)], by rw [wa_2, if_pos rfl]; unfold upd; rw [if_neg h]⟩, rfl⟩
theorem Bs_frB {t b : Nat} {l : List Int32} {σ τ : am_M} (h : Bs σ b l) (hf : frB t σ τ) (hb : b < 82 ∨ 100 < b) (ht : t < 8) : Bs τ b l := Bs_of h (hf.2.1 _ (by omega) (by omega) (by omega) (by omega))
theorem upd_s {f : Nat → Int32} {k : Nat} {v : Int32} : upd f k v k = v := if_pos rfl
theorem bo_ok {P : Prop} {d : Decidable P} : (if P then nI 1 else nI 0) = 0 ∨ (if P then nI 1 else nI 0) = 1 := by
  split
  · exact Or.inr rfl
  · exact Or.inl rfl
section MO
variable {X : am_X} {σ : am_M} {t b n : Nat} {l T : List Int32} {Q : Option Value → am_H → Prop}
set_option maxRecDepth 100000 in
theorem mo_in {v x y : Int32} {H : am_H} : am_Go X 128 0 [some (.int v), some (.int x), some (.int y)] [] H Q = Q (some (.int (if x ≤ v ∧ v ≤ y then nI 1 else nI 0))) H := by
  rw [go_to []]; simp only [gs_u, fns_if, fns_nx, fns_no, fns_rt, fns_cl, am_fs, am_cd, am_NM, am_sz, am_code, am_step, am_ldc, am_bin, am_div, am_un, am_iload, am_aload, am_istore, am_astore, am_iinc, am_j1, am_j2, am_jr, am_dup, am_dup2, am_pop, am_ret, am_rt, am_rc, am_ml, am_slen, am_schr, am_m1, am_m2, ty_getf, ty_pi, ty_p0, ty_p1, ty_alen, ty_iald, ty_bald, ty_cald, ty_iast, ty_bast, ty_cast, ty_aald, ty_tald, ty_copy, ty_c1, ty_c2, ty_c3, ty_c4, ty_c5, ty_c6, ty_c7, ty_c8, ty_c9, ty_c10, ty_s0, ty_s1, ty_s2, ty_s3, ty_s4, ty_s5, ty_s6, List.mem_cons, List.not_mem_nil, or_false, false_or, or_true, true_or, and_true, true_and, and_self, Nat.reduceLT, Nat.reduceLeDiff, Nat.reduceEqDiff, Nat.add_eq_left, Nat.reduceAdd, Nat.reduceSub, ↓reduceIte, reduceCtorEq, List.getElem?_cons_zero, List.getElem?_cons_succ, List.set_cons_zero, List.set_cons_succ, List.length_cons, List.length_nil, List.take_succ_cons, List.take_zero, List.drop_succ_cons, List.drop_zero, List.reverse_cons, List.reverse_nil, List.nil_append, List.cons_append, am_entry, List.map_cons, List.map_nil, List.replicate_zero, List.replicate_succ, List.append_nil, decide_eq_true_eq, eq_self, am_ty, am_nf, wf_1, wf_2, wa_1, wa_2, wa_3, wr_1, wr_2, wr_3, ty_q0, ty_q1, ty_q2, i_if, and_false, false_and, ac_128]
  simp (disch := first | omega | assumption) only [↓mI_i, li_0, li_1, li_2, li_3, li_4, li_5, li_6, li_7, li_8, li_9, li_10, li_16, li_20, li_24, li_31, li_32, li_43, li_44, li_45, li_46, li_48, li_57, li_62, li_64, li_97, li_99, li_100, li_200, li_201, li_202, li_255, li_401, li_500, li_2000, li_5980, li_6000, li_6002, li_9000, li_10000, li_20000, li_40401, li_100000, li_1000000, nI_leI, nI_ltI, nI_eq, mI_eq, mI_eq2, mI_lt, mI_le, mI_gt, mI_ge, nI_m1, nI_add, pk_sub, pk_mul, nI_clamp, bq0, bq1, ite_not, Classical.not_not, or_false, false_or, or_self, not_true_eq_false, not_false_eq_true, ↓reduceIte, ite_true, ite_false, true_or, or_true, and_true, true_and, ne_eq, if_pos, if_neg]
  by_cases z1 : v < x
  · rw [if_pos z1, if_neg (fun q => Int32.not_le.mpr z1 q.1)]
  · rw [if_neg z1]
    by_cases z2 : y < v
    · rw [if_pos z2, if_neg (fun q => Int32.not_le.mpr z2 q.2)]
    · rw [if_neg z2, if_pos ⟨Int32.not_lt.mp z1, Int32.not_lt.mp z2⟩]
/-- whether v names a text -/
abbrev isX (v : Int32) : Prop := nI 0 ≤ v ∧ v ≤ nI 7
theorem isX_n {v : Int32} (h : isX v) : ∃ t, t < 8 ∧ v = nI t := by
  obtain ⟨j, hj, e⟩ := nI_of (Int32.not_lt.mpr h.1)
  refine ⟨j, ?_, e⟩
  have := h.2
  rw [e, nI_leI hj (by omega)] at this
  omega
theorem isX_i {t : Nat} (h : t < 8) : isX (nI t) := ⟨nI_le (by omega) (by omega), nI_le (by omega) (by omega)⟩
set_option maxRecDepth 100000 in
theorem mo_isText {v : Int32} {H : am_H} : am_Go X 129 0 [some (.int v)] [] H Q = Q (some (.int (if isX v then nI 1 else nI 0))) H := by
  rw [go_to []]; simp only [gs_u, fns_if, fns_nx, fns_no, fns_rt, fns_cl, am_fs, am_cd, am_NM, am_sz, am_code, am_step, am_ldc, am_bin, am_div, am_un, am_iload, am_aload, am_istore, am_astore, am_iinc, am_j1, am_j2, am_jr, am_dup, am_dup2, am_pop, am_ret, am_rt, am_rc, am_ml, am_slen, am_schr, am_m1, am_m2, ty_getf, ty_pi, ty_p0, ty_p1, ty_alen, ty_iald, ty_bald, ty_cald, ty_iast, ty_bast, ty_cast, ty_aald, ty_tald, ty_copy, ty_c1, ty_c2, ty_c3, ty_c4, ty_c5, ty_c6, ty_c7, ty_c8, ty_c9, ty_c10, ty_s0, ty_s1, ty_s2, ty_s3, ty_s4, ty_s5, ty_s6, List.mem_cons, List.not_mem_nil, or_false, false_or, or_true, true_or, and_true, true_and, and_self, Nat.reduceLT, Nat.reduceLeDiff, Nat.reduceEqDiff, Nat.add_eq_left, Nat.reduceAdd, Nat.reduceSub, ↓reduceIte, reduceCtorEq, List.getElem?_cons_zero, List.getElem?_cons_succ, List.set_cons_zero, List.set_cons_succ, List.length_cons, List.length_nil, List.take_succ_cons, List.take_zero, List.drop_succ_cons, List.drop_zero, List.reverse_cons, List.reverse_nil, List.nil_append, List.cons_append, am_entry, List.map_cons, List.map_nil, List.replicate_zero, List.replicate_succ, List.append_nil, decide_eq_true_eq, eq_self, am_ty, am_nf, wf_1, wf_2, wa_1, wa_2, wa_3, wr_1, wr_2, wr_3, ty_q0, ty_q1, ty_q2, i_if, and_false, false_and, ac_129]
  simp (disch := first | omega | assumption) only [↓mI_i, li_0, li_1, li_2, li_3, li_4, li_5, li_6, li_7, li_8, li_9, li_10, li_16, li_20, li_24, li_31, li_32, li_43, li_44, li_45, li_46, li_48, li_57, li_62, li_64, li_97, li_99, li_100, li_200, li_201, li_202, li_255, li_401, li_500, li_2000, li_5980, li_6000, li_6002, li_9000, li_10000, li_20000, li_40401, li_100000, li_1000000, nI_leI, nI_ltI, nI_eq, mI_eq, mI_eq2, mI_lt, mI_le, mI_gt, mI_ge, nI_m1, nI_add, pk_sub, pk_mul, nI_clamp, bq0, bq1, ite_not, Classical.not_not, or_false, false_or, or_self, not_true_eq_false, not_false_eq_true, ↓reduceIte, ite_true, ite_false, true_or, or_true, and_true, true_and, ne_eq, if_pos, if_neg]
  rw [mo_in]
  dsimp only [am_push]
  rw [go_to []]; simp only [gs_u, fns_if, fns_nx, fns_no, fns_rt, fns_cl, am_fs, am_cd, am_NM, am_sz, am_code, am_step, am_ldc, am_bin, am_div, am_un, am_iload, am_aload, am_istore, am_astore, am_iinc, am_j1, am_j2, am_jr, am_dup, am_dup2, am_pop, am_ret, am_rt, am_rc, am_ml, am_slen, am_schr, am_m1, am_m2, ty_getf, ty_pi, ty_p0, ty_p1, ty_alen, ty_iald, ty_bald, ty_cald, ty_iast, ty_bast, ty_cast, ty_aald, ty_tald, ty_copy, ty_c1, ty_c2, ty_c3, ty_c4, ty_c5, ty_c6, ty_c7, ty_c8, ty_c9, ty_c10, ty_s0, ty_s1, ty_s2, ty_s3, ty_s4, ty_s5, ty_s6, List.mem_cons, List.not_mem_nil, or_false, false_or, or_true, true_or, and_true, true_and, and_self, Nat.reduceLT, Nat.reduceLeDiff, Nat.reduceEqDiff, Nat.add_eq_left, Nat.reduceAdd, Nat.reduceSub, ↓reduceIte, reduceCtorEq, List.getElem?_cons_zero, List.getElem?_cons_succ, List.set_cons_zero, List.set_cons_succ, List.length_cons, List.length_nil, List.take_succ_cons, List.take_zero, List.drop_succ_cons, List.drop_zero, List.reverse_cons, List.reverse_nil, List.nil_append, List.cons_append, am_entry, List.map_cons, List.map_nil, List.replicate_zero, List.replicate_succ, List.append_nil, decide_eq_true_eq, eq_self, am_ty, am_nf, wf_1, wf_2, wa_1, wa_2, wa_3, wr_1, wr_2, wr_3, ty_q0, ty_q1, ty_q2, i_if, and_false, false_and, ac_129]
  rw [if_pos bo_ok]
set_option maxRecDepth 100000 in
theorem db_isText {v : Int32} {H : am_H} {r : Nat} : am_Go X 121 0 [some (.ref r), some (.int v)] [] H Q = Q (some (.int (if isX v then nI 1 else nI 0))) H := by
  rw [go_to []]; simp only [gs_u, fns_if, fns_nx, fns_no, fns_rt, fns_cl, am_fs, am_cd, am_NM, am_sz, am_code, am_step, am_ldc, am_bin, am_div, am_un, am_iload, am_aload, am_istore, am_astore, am_iinc, am_j1, am_j2, am_jr, am_dup, am_dup2, am_pop, am_ret, am_rt, am_rc, am_ml, am_slen, am_schr, am_m1, am_m2, ty_getf, ty_pi, ty_p0, ty_p1, ty_alen, ty_iald, ty_bald, ty_cald, ty_iast, ty_bast, ty_cast, ty_aald, ty_tald, ty_copy, ty_c1, ty_c2, ty_c3, ty_c4, ty_c5, ty_c6, ty_c7, ty_c8, ty_c9, ty_c10, ty_s0, ty_s1, ty_s2, ty_s3, ty_s4, ty_s5, ty_s6, List.mem_cons, List.not_mem_nil, or_false, false_or, or_true, true_or, and_true, true_and, and_self, Nat.reduceLT, Nat.reduceLeDiff, Nat.reduceEqDiff, Nat.add_eq_left, Nat.reduceAdd, Nat.reduceSub, ↓reduceIte, reduceCtorEq, List.getElem?_cons_zero, List.getElem?_cons_succ, List.set_cons_zero, List.set_cons_succ, List.length_cons, List.length_nil, List.take_succ_cons, List.take_zero, List.drop_succ_cons, List.drop_zero, List.reverse_cons, List.reverse_nil, List.nil_append, List.cons_append, am_entry, List.map_cons, List.map_nil, List.replicate_zero, List.replicate_succ, List.append_nil, decide_eq_true_eq, eq_self, am_ty, am_nf, wf_1, wf_2, wa_1, wa_2, wa_3, wr_1, wr_2, wr_3, ty_q0, ty_q1, ty_q2, i_if, and_false, false_and, ac_121]
  simp (disch := first | omega | assumption) only [↓mI_i, li_0, li_1, li_2, li_3, li_4, li_5, li_6, li_7, li_8, li_9, li_10, li_16, li_20, li_24, li_31, li_32, li_43, li_44, li_45, li_46, li_48, li_57, li_62, li_64, li_97, li_99, li_100, li_200, li_201, li_202, li_255, li_401, li_500, li_2000, li_5980, li_6000, li_6002, li_9000, li_10000, li_20000, li_40401, li_100000, li_1000000, nI_leI, nI_ltI, nI_eq, mI_eq, mI_eq2, mI_lt, mI_le, mI_gt, mI_ge, nI_m1, nI_add, pk_sub, pk_mul, nI_clamp, bq0, bq1, ite_not, Classical.not_not, or_false, false_or, or_self, not_true_eq_false, not_false_eq_true, ↓reduceIte, ite_true, ite_false, true_or, or_true, and_true, true_and, ne_eq, if_pos, if_neg]
  by_cases z : v < nI 0
  · rw [if_pos z, if_neg (fun q => Int32.not_le.mpr z q.1)]
  · rw [if_neg z]
    obtain ⟨j, hj, rfl⟩ := nI_of z
    by_cases y : j < 8
    · rw [if_neg (by rw [nI_leI (by omega) hj]; omega), if_pos (isX_i y)]
    · rw [if_pos (by rw [nI_leI (by omega) hj]; omega), if_neg (fun q => by have := q.2; rw [nI_leI hj (by omega)] at this; omega)]
set_option maxRecDepth 100000 in
set_option maxHeartbeats 4000000 in
theorem lp_linesOf (h : Bs σ b l) : ∀ (d i : Nat), i + d = l.length → am_Go X 133 4 [some (.ref b), some (.int (nI l.length)), some (.int (nI (ct (gl l) l.length i).length)), some (.int (nI i))] [] (hh σ) Q = Q (some (.int (nI (lnum l)))) (hh σ) := by
  obtain ⟨h1, h2, h20, h3, h4⟩ := h
  intro d
  induction d with
  | zero =>
    intro i hi
    obtain rfl : i = l.length := by omega
    rw [go_to [4]]; simp only [gs_u, fns_if, fns_nx, fns_no, fns_rt, fns_cl, am_fs, am_cd, am_NM, am_sz, am_code, am_step, am_ldc, am_bin, am_div, am_un, am_iload, am_aload, am_istore, am_astore, am_iinc, am_j1, am_j2, am_jr, am_dup, am_dup2, am_pop, am_ret, am_rt, am_rc, am_ml, am_slen, am_schr, am_m1, am_m2, ty_getf, ty_pi, ty_p0, ty_p1, ty_alen, ty_iald, ty_bald, ty_cald, ty_iast, ty_bast, ty_cast, ty_aald, ty_tald, ty_copy, ty_c1, ty_c2, ty_c3, ty_c4, ty_c5, ty_c6, ty_c7, ty_c8, ty_c9, ty_c10, ty_s0, ty_s1, ty_s2, ty_s3, ty_s4, ty_s5, ty_s6, List.mem_cons, List.not_mem_nil, or_false, false_or, or_true, true_or, and_true, true_and, and_self, Nat.reduceLT, Nat.reduceLeDiff, Nat.reduceEqDiff, Nat.add_eq_left, Nat.reduceAdd, Nat.reduceSub, ↓reduceIte, reduceCtorEq, List.getElem?_cons_zero, List.getElem?_cons_succ, List.set_cons_zero, List.set_cons_succ, List.length_cons, List.length_nil, List.take_succ_cons, List.take_zero, List.drop_succ_cons, List.drop_zero, List.reverse_cons, List.reverse_nil, List.nil_append, List.cons_append, am_entry, List.map_cons, List.map_nil, List.replicate_zero, List.replicate_succ, List.append_nil, decide_eq_true_eq, eq_self, am_ty, am_nf, wf_1, wf_2, wa_1, wa_2, wa_3, wr_1, wr_2, wr_3, ty_q0, ty_q1, ty_q2, i_if, and_false, false_and, ac_133, h1]
    simp (disch := first | omega | assumption) only [↓mI_i, li_0, li_1, li_2, li_3, li_4, li_5, li_6, li_7, li_8, li_9, li_10, li_16, li_20, li_24, li_31, li_32, li_43, li_44, li_45, li_46, li_48, li_57, li_62, li_64, li_97, li_99, li_100, li_200, li_201, li_202, li_255, li_401, li_500, li_2000, li_5980, li_6000, li_6002, li_9000, li_10000, li_20000, li_40401, li_100000, li_1000000, nI_leI, nI_ltI, nI_eq, mI_eq, mI_eq2, mI_lt, mI_le, mI_gt, mI_ge, nI_m1, nI_add, pk_sub, pk_mul, nI_clamp, bq0, bq1, ite_not, Classical.not_not, or_false, false_or, or_self, not_true_eq_false, not_false_eq_true, ↓reduceIte, ite_true, ite_false, true_or, or_true, and_true, true_and, ne_eq, if_pos, if_neg]
    rfl
  | succ d ih =>
    intro i hi
    have d0 := h3 i (by omega)
    have ih := ih (i + 1) (by omega)
    rw [ct_succ] at ih
    rw [go_to [4]]; simp only [gs_u, fns_if, fns_nx, fns_no, fns_rt, fns_cl, am_fs, am_cd, am_NM, am_sz, am_code, am_step, am_ldc, am_bin, am_div, am_un, am_iload, am_aload, am_istore, am_astore, am_iinc, am_j1, am_j2, am_jr, am_dup, am_dup2, am_pop, am_ret, am_rt, am_rc, am_ml, am_slen, am_schr, am_m1, am_m2, ty_getf, ty_pi, ty_p0, ty_p1, ty_alen, ty_iald, ty_bald, ty_cald, ty_iast, ty_bast, ty_cast, ty_aald, ty_tald, ty_copy, ty_c1, ty_c2, ty_c3, ty_c4, ty_c5, ty_c6, ty_c7, ty_c8, ty_c9, ty_c10, ty_s0, ty_s1, ty_s2, ty_s3, ty_s4, ty_s5, ty_s6, List.mem_cons, List.not_mem_nil, or_false, false_or, or_true, true_or, and_true, true_and, and_self, Nat.reduceLT, Nat.reduceLeDiff, Nat.reduceEqDiff, Nat.add_eq_left, Nat.reduceAdd, Nat.reduceSub, ↓reduceIte, reduceCtorEq, List.getElem?_cons_zero, List.getElem?_cons_succ, List.set_cons_zero, List.set_cons_succ, List.length_cons, List.length_nil, List.take_succ_cons, List.take_zero, List.drop_succ_cons, List.drop_zero, List.reverse_cons, List.reverse_nil, List.nil_append, List.cons_append, am_entry, List.map_cons, List.map_nil, List.replicate_zero, List.replicate_succ, List.append_nil, decide_eq_true_eq, eq_self, am_ty, am_nf, wf_1, wf_2, wa_1, wa_2, wa_3, wr_1, wr_2, wr_3, ty_q0, ty_q1, ty_q2, i_if, and_false, false_and, ac_133, h1]
    simp (disch := first | omega | assumption) only [↓mI_i, li_0, li_1, li_2, li_3, li_4, li_5, li_6, li_7, li_8, li_9, li_10, li_16, li_20, li_24, li_31, li_32, li_43, li_44, li_45, li_46, li_48, li_57, li_62, li_64, li_97, li_99, li_100, li_200, li_201, li_202, li_255, li_401, li_500, li_2000, li_5980, li_6000, li_6002, li_9000, li_10000, li_20000, li_40401, li_100000, li_1000000, nI_leI, nI_ltI, nI_eq, mI_eq, mI_eq2, mI_lt, mI_le, mI_gt, mI_ge, nI_m1, nI_add, pk_sub, pk_mul, nI_clamp, bq0, bq1, ite_not, Classical.not_not, or_false, false_or, or_self, not_true_eq_false, not_false_eq_true, ↓reduceIte, ite_true, ite_false, true_or, or_true, and_true, true_and, ne_eq, if_pos, if_neg, d0]
    by_cases h7 : gl l i = nI 10
    · have hp : gl l i = 10 ∨ i + 1 = l.length := Or.inl h7
      rw [if_pos h7]
      rw [if_pos hp, List.length_append] at ih
      exact ih
    · rw [if_neg h7]
      by_cases h8 : i + 1 = l.length
      · have hp : gl l i = 10 ∨ i + 1 = l.length := Or.inr h8
        rw [if_pos hp, List.length_append] at ih
        simp (disch := first | omega | assumption) only [↓mI_i, li_0, li_1, li_2, li_3, li_4, li_5, li_6, li_7, li_8, li_9, li_10, li_16, li_20, li_24, li_31, li_32, li_43, li_44, li_45, li_46, li_48, li_57, li_62, li_64, li_97, li_99, li_100, li_200, li_201, li_202, li_255, li_401, li_500, li_2000, li_5980, li_6000, li_6002, li_9000, li_10000, li_20000, li_40401, li_100000, li_1000000, nI_leI, nI_ltI, nI_eq, mI_eq, mI_eq2, mI_lt, mI_le, mI_gt, mI_ge, nI_m1, nI_add, pk_sub, pk_mul, nI_clamp, bq0, bq1, ite_not, Classical.not_not, or_false, false_or, or_self, not_true_eq_false, not_false_eq_true, ↓reduceIte, ite_true, ite_false, true_or, or_true, and_true, true_and, ne_eq, if_pos, if_neg]
        exact ih
      · have hp : ¬ (gl l i = 10 ∨ i + 1 = l.length) := fun hz => hz.elim h7 h8
        rw [if_neg hp, List.append_nil] at ih
        simp (disch := first | omega | assumption) only [↓mI_i, li_0, li_1, li_2, li_3, li_4, li_5, li_6, li_7, li_8, li_9, li_10, li_16, li_20, li_24, li_31, li_32, li_43, li_44, li_45, li_46, li_48, li_57, li_62, li_64, li_97, li_99, li_100, li_200, li_201, li_202, li_255, li_401, li_500, li_2000, li_5980, li_6000, li_6002, li_9000, li_10000, li_20000, li_40401, li_100000, li_1000000, nI_leI, nI_ltI, nI_eq, mI_eq, mI_eq2, mI_lt, mI_le, mI_gt, mI_ge, nI_m1, nI_add, pk_sub, pk_mul, nI_clamp, bq0, bq1, ite_not, Classical.not_not, or_false, false_or, or_self, not_true_eq_false, not_false_eq_true, ↓reduceIte, ite_true, ite_false, true_or, or_true, and_true, true_and, ne_eq, if_pos, if_neg]
        exact ih
set_option maxRecDepth 100000 in
theorem mo_linesOf (h : Bs σ b l) : am_Go X 133 0 [some (.ref b), some (.int (nI l.length)), none, none] [] (hh σ) Q = Q (some (.int (nI (lnum l)))) (hh σ) := by
  rw [go_to [4]]; simp only [gs_u, fns_if, fns_nx, fns_no, fns_rt, fns_cl, am_fs, am_cd, am_NM, am_sz, am_code, am_step, am_ldc, am_bin, am_div, am_un, am_iload, am_aload, am_istore, am_astore, am_iinc, am_j1, am_j2, am_jr, am_dup, am_dup2, am_pop, am_ret, am_rt, am_rc, am_ml, am_slen, am_schr, am_m1, am_m2, ty_getf, ty_pi, ty_p0, ty_p1, ty_alen, ty_iald, ty_bald, ty_cald, ty_iast, ty_bast, ty_cast, ty_aald, ty_tald, ty_copy, ty_c1, ty_c2, ty_c3, ty_c4, ty_c5, ty_c6, ty_c7, ty_c8, ty_c9, ty_c10, ty_s0, ty_s1, ty_s2, ty_s3, ty_s4, ty_s5, ty_s6, List.mem_cons, List.not_mem_nil, or_false, false_or, or_true, true_or, and_true, true_and, and_self, Nat.reduceLT, Nat.reduceLeDiff, Nat.reduceEqDiff, Nat.add_eq_left, Nat.reduceAdd, Nat.reduceSub, ↓reduceIte, reduceCtorEq, List.getElem?_cons_zero, List.getElem?_cons_succ, List.set_cons_zero, List.set_cons_succ, List.length_cons, List.length_nil, List.take_succ_cons, List.take_zero, List.drop_succ_cons, List.drop_zero, List.reverse_cons, List.reverse_nil, List.nil_append, List.cons_append, am_entry, List.map_cons, List.map_nil, List.replicate_zero, List.replicate_succ, List.append_nil, decide_eq_true_eq, eq_self, am_ty, am_nf, wf_1, wf_2, wa_1, wa_2, wa_3, wr_1, wr_2, wr_3, ty_q0, ty_q1, ty_q2, i_if, and_false, false_and, ac_133]
  exact lp_linesOf h l.length 0 (by omega)
set_option maxRecDepth 100000 in
set_option maxHeartbeats 8000000 in
theorem lp_becomes (ht : t < 8) (hb : b < 82 ∨ 100 < b) (hl : l.length ≤ 2000) (hn : lnum l ≤ 200) : ∀ (d i : Nat) (σ : am_M), i + d = l.length → Bs σ b l → (∀ k, k < l.length → σ.2.1 (82 + t) k = gl l k) → σ.2.1 90 t = nI l.length → σ.2.1 91 t = nI (ct (gl l) l.length i).length → (∀ k, k ≤ (ct (gl l) l.length i).length → σ.2.1 (93 + t) k = nI ((0 :: ct (gl l) l.length i).getD k 0)) → (∀ τ, MT τ t l → frB t σ τ → Q (some (.int (nI 1))) (hh τ)) → am_Go X 134 59 [some (.ref 80), some (.int (nI t)), some (.ref b), some (.int (nI l.length)), some (.int (nI i))] [] (hh σ) Q := by
  obtain ⟨c1, c2, c3, c4⟩ := mt_c t ht
  have e1 : (nI t).toNatClampNeg = t := nI_clamp (by omega)
  intro d
  induction d with
  | zero =>
    intro i σ hi h hr h90 h91 h93 hQ
    obtain rfl : i = l.length := by omega
    rw [go_to [59]]; simp only [gs_u, fns_if, fns_nx, fns_no, fns_rt, fns_cl, am_fs, am_cd, am_NM, am_sz, am_code, am_step, am_ldc, am_bin, am_div, am_un, am_iload, am_aload, am_istore, am_astore, am_iinc, am_j1, am_j2, am_jr, am_dup, am_dup2, am_pop, am_ret, am_rt, am_rc, am_ml, am_slen, am_schr, am_m1, am_m2, ty_getf, ty_pi, ty_p0, ty_p1, ty_alen, ty_iald, ty_bald, ty_cald, ty_iast, ty_bast, ty_cast, ty_aald, ty_tald, ty_copy, ty_c1, ty_c2, ty_c3, ty_c4, ty_c5, ty_c6, ty_c7, ty_c8, ty_c9, ty_c10, ty_s0, ty_s1, ty_s2, ty_s3, ty_s4, ty_s5, ty_s6, List.mem_cons, List.not_mem_nil, or_false, false_or, or_true, true_or, and_true, true_and, and_self, Nat.reduceLT, Nat.reduceLeDiff, Nat.reduceEqDiff, Nat.add_eq_left, Nat.reduceAdd, Nat.reduceSub, ↓reduceIte, reduceCtorEq, List.getElem?_cons_zero, List.getElem?_cons_succ, List.set_cons_zero, List.set_cons_succ, List.length_cons, List.length_nil, List.take_succ_cons, List.take_zero, List.drop_succ_cons, List.drop_zero, List.reverse_cons, List.reverse_nil, List.nil_append, List.cons_append, am_entry, List.map_cons, List.map_nil, List.replicate_zero, List.replicate_succ, List.append_nil, decide_eq_true_eq, eq_self, am_ty, am_nf, wf_1, wf_2, wa_1, wa_2, wa_3, wr_1, wr_2, wr_3, ty_q0, ty_q1, ty_q2, i_if, and_false, false_and, ac_134, h.1]
    simp (disch := first | omega | assumption) only [↓mI_i, li_0, li_1, li_2, li_3, li_4, li_5, li_6, li_7, li_8, li_9, li_10, li_16, li_20, li_24, li_31, li_32, li_43, li_44, li_45, li_46, li_48, li_57, li_62, li_64, li_97, li_99, li_100, li_200, li_201, li_202, li_255, li_401, li_500, li_2000, li_5980, li_6000, li_6002, li_9000, li_10000, li_20000, li_40401, li_100000, li_1000000, nI_leI, nI_ltI, nI_eq, mI_eq, mI_eq2, mI_lt, mI_le, mI_gt, mI_ge, nI_m1, nI_add, pk_sub, pk_mul, nI_clamp, bq0, bq1, ite_not, Classical.not_not, or_false, false_or, or_self, not_true_eq_false, not_false_eq_true, ↓reduceIte, ite_true, ite_false, true_or, or_true, and_true, true_and, ne_eq, if_pos, if_neg]
    exact hQ σ ⟨ht, hr, h90, h91, h93, hl, hn, h.2.2.2.2⟩ frB_refl
  | succ d ih =>
    intro i σ hi h hr h90 h91 h93 hQ
    have d0 := h.2.2.2.1 i (by omega)
    have hN := h.2.1
    have h20 := h.2.2.1
    have hm := ct_more (f := gl l) (n := l.length) (x := i) (by omega)
    have hm2 : (ct (gl l) l.length i).length + 1 ≤ lnum l := hm
    have cont : ¬ (gl l i = 10 ∨ i + 1 = l.length) → am_Go X 134 59 [some (.ref 80), some (.int (nI t)), some (.ref b), some (.int (nI l.length)), some (.int (nI (i + 1)))] [] (hh σ) Q := by
      intro hc
      have ec : ct (gl l) l.length (i + 1) = ct (gl l) l.length i := by rw [ct_succ, if_neg hc, List.append_nil]
      exact ih (i + 1) σ (by omega) h hr h90 (by rw [ec]; exact h91) (by rw [ec]; exact h93) hQ
    have step : (gl l i = 10 ∨ i + 1 = l.length) → am_Go X 134 85 [some (.ref 80), some (.int (nI t)), some (.ref b), some (.int (nI l.length)), some (.int (nI i))] [] (hh σ) Q := by
      intro hc
      have ec : ct (gl l) l.length (i + 1) = ct (gl l) l.length i ++ [i + 1] := by rw [ct_succ, if_pos hc]
      rw [go_to [59, 85]]; simp only [gs_u, fns_if, fns_nx, fns_no, fns_rt, fns_cl, am_fs, am_cd, am_NM, am_sz, am_code, am_step, am_ldc, am_bin, am_div, am_un, am_iload, am_aload, am_istore, am_astore, am_iinc, am_j1, am_j2, am_jr, am_dup, am_dup2, am_pop, am_ret, am_rt, am_rc, am_ml, am_slen, am_schr, am_m1, am_m2, ty_getf, ty_pi, ty_p0, ty_p1, ty_alen, ty_iald, ty_bald, ty_cald, ty_iast, ty_bast, ty_cast, ty_aald, ty_tald, ty_copy, ty_c1, ty_c2, ty_c3, ty_c4, ty_c5, ty_c6, ty_c7, ty_c8, ty_c9, ty_c10, ty_s0, ty_s1, ty_s2, ty_s3, ty_s4, ty_s5, ty_s6, List.mem_cons, List.not_mem_nil, or_false, false_or, or_true, true_or, and_true, true_and, and_self, Nat.reduceLT, Nat.reduceLeDiff, Nat.reduceEqDiff, Nat.add_eq_left, Nat.reduceAdd, Nat.reduceSub, ↓reduceIte, reduceCtorEq, List.getElem?_cons_zero, List.getElem?_cons_succ, List.set_cons_zero, List.set_cons_succ, List.length_cons, List.length_nil, List.take_succ_cons, List.take_zero, List.drop_succ_cons, List.drop_zero, List.reverse_cons, List.reverse_nil, List.nil_append, List.cons_append, am_entry, List.map_cons, List.map_nil, List.replicate_zero, List.replicate_succ, List.append_nil, decide_eq_true_eq, eq_self, am_ty, am_nf, wf_1, wf_2, wa_1, wa_2, wa_3, wr_1, wr_2, wr_3, ty_q0, ty_q1, ty_q2, i_if, and_false, false_and, ac_134, kc_80, lv_80_0, lv_80_1, lv_80_2, lv_80_3, lv_80_4, lv_80_5, lv_80_6, li_80_6, lv_80_7, li_80_7, lv_80_8, lv_80_9, lv_80_10, lv_80_11, lv_80_12, lv_80_13, lv_80_14, li_80_14, lv_80_15, lv_80_16, li_80_16, lv_80_17, lv_80_18, lv_80_19, lv_80_20, lv_80_21, lv_80_22, lv_80_23, lv_80_24, li_80_24, lv_80_25, lv_80_26, lv_80_27, lv_80_28, li_80_28, lv_80_29, li_80_29, lv_80_30, li_80_30, lv_80_31, li_80_31, lv_80_32, li_80_32, lv_80_33, li_80_33, lv_80_34, li_80_34, lv_80_35, li_80_35, lv_80_36, li_80_36, lv_80_37, li_80_37, lv_80_38, lv_80_39, li_80_39, lv_80_40, li_80_40, lv_80_41, lv_80_42, lv_80_43, lv_80_44, lv_80_45, lv_80_46, lv_80_47, li_80_47, lv_80_48, li_80_48, lv_80_49, li_80_49, lv_80_50, lv_80_51, kc_90, kn_90, kc_91, kn_91, kc_92, kn_92, h.1, e1, c1, c2, c3, c4, h91, upd_s]
      simp (disch := first | omega | assumption) only [↓mI_i, li_0, li_1, li_2, li_3, li_4, li_5, li_6, li_7, li_8, li_9, li_10, li_16, li_20, li_24, li_31, li_32, li_43, li_44, li_45, li_46, li_48, li_57, li_62, li_64, li_97, li_99, li_100, li_200, li_201, li_202, li_255, li_401, li_500, li_2000, li_5980, li_6000, li_6002, li_9000, li_10000, li_20000, li_40401, li_100000, li_1000000, nI_leI, nI_ltI, nI_eq, mI_eq, mI_eq2, mI_lt, mI_le, mI_gt, mI_ge, nI_m1, nI_add, pk_sub, pk_mul, nI_clamp, bq0, bq1, ite_not, Classical.not_not, or_false, false_or, or_self, not_true_eq_false, not_false_eq_true, ↓reduceIte, ite_true, ite_false, true_or, or_true, and_true, true_and, ne_eq, if_pos, if_neg, h91]
      have hf : frB t σ (wa (wa σ 91 (upd (σ.2.1 91) t (nI ((ct (gl l) l.length i).length + 1)))) (93 + t) (upd (σ.2.1 (93 + t)) ((ct (gl l) l.length i).length + 1) (nI (i + 1)))) := frB_trans frB_91 frB_9
      refine ih (i + 1) _ (by omega) (Bs_frB h hf hb ht) ?_ ?_ ?_ ?_ (fun τ k1 k2 => hQ τ k1 (frB_trans hf k2))
      · intro k hk
        rw [wa_2, if_neg (by omega), wa_2, if_neg (by omega)]
        exact hr k hk
      · rw [wa_2, if_neg (by omega), wa_2, if_neg (by omega)]
        exact h90
      · rw [wa_2, if_neg (by omega), wa_2, if_pos rfl, upd_s, ec, List.length_append]
        rfl
      · intro k hk
        rw [ec, List.length_append] at hk
        have hk : k ≤ (ct (gl l) l.length i).length + 1 := hk
        rw [wa_2, if_pos rfl, ec]
        unfold upd
        rw [← List.cons_append, List.getD_eq_getElem?_getD]
        by_cases q : k = (ct (gl l) l.length i).length + 1
        · rw [if_pos q, List.getElem?_append_right (by simp; omega), q]
          simp
        · rw [if_neg q, List.getElem?_append_left (by simp; omega), ← List.getD_eq_getElem?_getD]
          exact h93 k (by omega)
    rw [go_to [59, 85]]; simp only [gs_u, fns_if, fns_nx, fns_no, fns_rt, fns_cl, am_fs, am_cd, am_NM, am_sz, am_code, am_step, am_ldc, am_bin, am_div, am_un, am_iload, am_aload, am_istore, am_astore, am_iinc, am_j1, am_j2, am_jr, am_dup, am_dup2, am_pop, am_ret, am_rt, am_rc, am_ml, am_slen, am_schr, am_m1, am_m2, ty_getf, ty_pi, ty_p0, ty_p1, ty_alen, ty_iald, ty_bald, ty_cald, ty_iast, ty_bast, ty_cast, ty_aald, ty_tald, ty_copy, ty_c1, ty_c2, ty_c3, ty_c4, ty_c5, ty_c6, ty_c7, ty_c8, ty_c9, ty_c10, ty_s0, ty_s1, ty_s2, ty_s3, ty_s4, ty_s5, ty_s6, List.mem_cons, List.not_mem_nil, or_false, false_or, or_true, true_or, and_true, true_and, and_self, Nat.reduceLT, Nat.reduceLeDiff, Nat.reduceEqDiff, Nat.add_eq_left, Nat.reduceAdd, Nat.reduceSub, ↓reduceIte, reduceCtorEq, List.getElem?_cons_zero, List.getElem?_cons_succ, List.set_cons_zero, List.set_cons_succ, List.length_cons, List.length_nil, List.take_succ_cons, List.take_zero, List.drop_succ_cons, List.drop_zero, List.reverse_cons, List.reverse_nil, List.nil_append, List.cons_append, am_entry, List.map_cons, List.map_nil, List.replicate_zero, List.replicate_succ, List.append_nil, decide_eq_true_eq, eq_self, am_ty, am_nf, wf_1, wf_2, wa_1, wa_2, wa_3, wr_1, wr_2, wr_3, ty_q0, ty_q1, ty_q2, i_if, and_false, false_and, ac_134, h.1]
    simp (disch := first | omega | assumption) only [↓mI_i, li_0, li_1, li_2, li_3, li_4, li_5, li_6, li_7, li_8, li_9, li_10, li_16, li_20, li_24, li_31, li_32, li_43, li_44, li_45, li_46, li_48, li_57, li_62, li_64, li_97, li_99, li_100, li_200, li_201, li_202, li_255, li_401, li_500, li_2000, li_5980, li_6000, li_6002, li_9000, li_10000, li_20000, li_40401, li_100000, li_1000000, nI_leI, nI_ltI, nI_eq, mI_eq, mI_eq2, mI_lt, mI_le, mI_gt, mI_ge, nI_m1, nI_add, pk_sub, pk_mul, nI_clamp, bq0, bq1, ite_not, Classical.not_not, or_false, false_or, or_self, not_true_eq_false, not_false_eq_true, ↓reduceIte, ite_true, ite_false, true_or, or_true, and_true, true_and, ne_eq, if_pos, if_neg, d0]
    by_cases h7 : gl l i = nI 10
    · rw [if_pos h7]
      exact step (Or.inl h7)
    · rw [if_neg h7]
      by_cases h8 : i + 1 = l.length
      · simp (disch := first | omega | assumption) only [↓mI_i, li_0, li_1, li_2, li_3, li_4, li_5, li_6, li_7, li_8, li_9, li_10, li_16, li_20, li_24, li_31, li_32, li_43, li_44, li_45, li_46, li_48, li_57, li_62, li_64, li_97, li_99, li_100, li_200, li_201, li_202, li_255, li_401, li_500, li_2000, li_5980, li_6000, li_6002, li_9000, li_10000, li_20000, li_40401, li_100000, li_1000000, nI_leI, nI_ltI, nI_eq, mI_eq, mI_eq2, mI_lt, mI_le, mI_gt, mI_ge, nI_m1, nI_add, pk_sub, pk_mul, nI_clamp, bq0, bq1, ite_not, Classical.not_not, or_false, false_or, or_self, not_true_eq_false, not_false_eq_true, ↓reduceIte, ite_true, ite_false, true_or, or_true, and_true, true_and, ne_eq, if_pos, if_neg]
        exact step (Or.inr h8)
      · simp (disch := first | omega | assumption) only [↓mI_i, li_0, li_1, li_2, li_3, li_4, li_5, li_6, li_7, li_8, li_9, li_10, li_16, li_20, li_24, li_31, li_32, li_43, li_44, li_45, li_46, li_48, li_57, li_62, li_64, li_97, li_99, li_100, li_200, li_201, li_202, li_255, li_401, li_500, li_2000, li_5980, li_6000, li_6002, li_9000, li_10000, li_20000, li_40401, li_100000, li_1000000, nI_leI, nI_ltI, nI_eq, mI_eq, mI_eq2, mI_lt, mI_le, mI_gt, mI_ge, nI_m1, nI_add, pk_sub, pk_mul, nI_clamp, bq0, bq1, ite_not, Classical.not_not, or_false, false_or, or_self, not_true_eq_false, not_false_eq_true, ↓reduceIte, ite_true, ite_false, true_or, or_true, and_true, true_and, ne_eq, if_pos, if_neg]
        exact cont (fun hz => hz.elim h7 h8)
set_option maxRecDepth 100000 in
set_option maxHeartbeats 8000000 in
theorem mo_becomes (ht : t < 8) (hb : b < 82 ∨ 100 < b) (h : Bs σ b l) (h0 : ¬ (l.length ≤ 2000 ∧ lnum l ≤ 200) → Q (some (.int (nI 0))) (hh σ)) (h1 : l.length ≤ 2000 ∧ lnum l ≤ 200 → ∀ τ, MT τ t l → frB t σ τ → Q (some (.int (nI 1))) (hh τ)) : am_Go X 134 0 [some (.ref 80), some (.int (nI t)), some (.ref b), some (.int (nI l.length)), none] [] (hh σ) Q := by
  obtain ⟨c1, c2, c3, c4⟩ := mt_c t ht
  have e1 : (nI t).toNatClampNeg = t := nI_clamp (by omega)
  have hN := h.2.1
  have h20 := h.2.2.1
  have hll := lnum_len (T := l)
  rw [go_to [59]]; simp only [gs_u, fns_if, fns_nx, fns_no, fns_rt, fns_cl, am_fs, am_cd, am_NM, am_sz, am_code, am_step, am_ldc, am_bin, am_div, am_un, am_iload, am_aload, am_istore, am_astore, am_iinc, am_j1, am_j2, am_jr, am_dup, am_dup2, am_pop, am_ret, am_rt, am_rc, am_ml, am_slen, am_schr, am_m1, am_m2, ty_getf, ty_pi, ty_p0, ty_p1, ty_alen, ty_iald, ty_bald, ty_cald, ty_iast, ty_bast, ty_cast, ty_aald, ty_tald, ty_copy, ty_c1, ty_c2, ty_c3, ty_c4, ty_c5, ty_c6, ty_c7, ty_c8, ty_c9, ty_c10, ty_s0, ty_s1, ty_s2, ty_s3, ty_s4, ty_s5, ty_s6, List.mem_cons, List.not_mem_nil, or_false, false_or, or_true, true_or, and_true, true_and, and_self, Nat.reduceLT, Nat.reduceLeDiff, Nat.reduceEqDiff, Nat.add_eq_left, Nat.reduceAdd, Nat.reduceSub, ↓reduceIte, reduceCtorEq, List.getElem?_cons_zero, List.getElem?_cons_succ, List.set_cons_zero, List.set_cons_succ, List.length_cons, List.length_nil, List.take_succ_cons, List.take_zero, List.drop_succ_cons, List.drop_zero, List.reverse_cons, List.reverse_nil, List.nil_append, List.cons_append, am_entry, List.map_cons, List.map_nil, List.replicate_zero, List.replicate_succ, List.append_nil, decide_eq_true_eq, eq_self, am_ty, am_nf, wf_1, wf_2, wa_1, wa_2, wa_3, wr_1, wr_2, wr_3, ty_q0, ty_q1, ty_q2, i_if, and_false, false_and, ac_134, kc_80, lv_80_0, lv_80_1, lv_80_2, lv_80_3, lv_80_4, lv_80_5, lv_80_6, li_80_6, lv_80_7, li_80_7, lv_80_8, lv_80_9, lv_80_10, lv_80_11, lv_80_12, lv_80_13, lv_80_14, li_80_14, lv_80_15, lv_80_16, li_80_16, lv_80_17, lv_80_18, lv_80_19, lv_80_20, lv_80_21, lv_80_22, lv_80_23, lv_80_24, li_80_24, lv_80_25, lv_80_26, lv_80_27, lv_80_28, li_80_28, lv_80_29, li_80_29, lv_80_30, li_80_30, lv_80_31, li_80_31, lv_80_32, li_80_32, lv_80_33, li_80_33, lv_80_34, li_80_34, lv_80_35, li_80_35, lv_80_36, li_80_36, lv_80_37, li_80_37, lv_80_38, lv_80_39, li_80_39, lv_80_40, li_80_40, lv_80_41, lv_80_42, lv_80_43, lv_80_44, lv_80_45, lv_80_46, lv_80_47, li_80_47, lv_80_48, li_80_48, lv_80_49, li_80_49, lv_80_50, lv_80_51, h.1]
  simp (disch := first | omega | assumption) only [↓mI_i, li_0, li_1, li_2, li_3, li_4, li_5, li_6, li_7, li_8, li_9, li_10, li_16, li_20, li_24, li_31, li_32, li_43, li_44, li_45, li_46, li_48, li_57, li_62, li_64, li_97, li_99, li_100, li_200, li_201, li_202, li_255, li_401, li_500, li_2000, li_5980, li_6000, li_6002, li_9000, li_10000, li_20000, li_40401, li_100000, li_1000000, nI_leI, nI_ltI, nI_eq, mI_eq, mI_eq2, mI_lt, mI_le, mI_gt, mI_ge, nI_m1, nI_add, pk_sub, pk_mul, nI_clamp, bq0, bq1, ite_not, Classical.not_not, or_false, false_or, or_self, not_true_eq_false, not_false_eq_true, ↓reduceIte, ite_true, ite_false, true_or, or_true, and_true, true_and, ne_eq, if_pos, if_neg]
  by_cases z1 : 2000 < l.length
  · simp (disch := first | omega | assumption) only [↓mI_i, li_0, li_1, li_2, li_3, li_4, li_5, li_6, li_7, li_8, li_9, li_10, li_16, li_20, li_24, li_31, li_32, li_43, li_44, li_45, li_46, li_48, li_57, li_62, li_64, li_97, li_99, li_100, li_200, li_201, li_202, li_255, li_401, li_500, li_2000, li_5980, li_6000, li_6002, li_9000, li_10000, li_20000, li_40401, li_100000, li_1000000, nI_leI, nI_ltI, nI_eq, mI_eq, mI_eq2, mI_lt, mI_le, mI_gt, mI_ge, nI_m1, nI_add, pk_sub, pk_mul, nI_clamp, bq0, bq1, ite_not, Classical.not_not, or_false, false_or, or_self, not_true_eq_false, not_false_eq_true, ↓reduceIte, ite_true, ite_false, true_or, or_true, and_true, true_and, ne_eq, if_pos, if_neg]
    exact h0 (fun y => by omega)
  simp (disch := first | omega | assumption) only [↓mI_i, li_0, li_1, li_2, li_3, li_4, li_5, li_6, li_7, li_8, li_9, li_10, li_16, li_20, li_24, li_31, li_32, li_43, li_44, li_45, li_46, li_48, li_57, li_62, li_64, li_97, li_99, li_100, li_200, li_201, li_202, li_255, li_401, li_500, li_2000, li_5980, li_6000, li_6002, li_9000, li_10000, li_20000, li_40401, li_100000, li_1000000, nI_leI, nI_ltI, nI_eq, mI_eq, mI_eq2, mI_lt, mI_le, mI_gt, mI_ge, nI_m1, nI_add, pk_sub, pk_mul, nI_clamp, bq0, bq1, ite_not, Classical.not_not, or_false, false_or, or_self, not_true_eq_false, not_false_eq_true, ↓reduceIte, ite_true, ite_false, true_or, or_true, and_true, true_and, ne_eq, if_pos, if_neg]
  rw [mo_linesOf h]
  dsimp only [am_push]
  rw [go_to [59]]; simp only [gs_u, fns_if, fns_nx, fns_no, fns_rt, fns_cl, am_fs, am_cd, am_NM, am_sz, am_code, am_step, am_ldc, am_bin, am_div, am_un, am_iload, am_aload, am_istore, am_astore, am_iinc, am_j1, am_j2, am_jr, am_dup, am_dup2, am_pop, am_ret, am_rt, am_rc, am_ml, am_slen, am_schr, am_m1, am_m2, ty_getf, ty_pi, ty_p0, ty_p1, ty_alen, ty_iald, ty_bald, ty_cald, ty_iast, ty_bast, ty_cast, ty_aald, ty_tald, ty_copy, ty_c1, ty_c2, ty_c3, ty_c4, ty_c5, ty_c6, ty_c7, ty_c8, ty_c9, ty_c10, ty_s0, ty_s1, ty_s2, ty_s3, ty_s4, ty_s5, ty_s6, List.mem_cons, List.not_mem_nil, or_false, false_or, or_true, true_or, and_true, true_and, and_self, Nat.reduceLT, Nat.reduceLeDiff, Nat.reduceEqDiff, Nat.add_eq_left, Nat.reduceAdd, Nat.reduceSub, ↓reduceIte, reduceCtorEq, List.getElem?_cons_zero, List.getElem?_cons_succ, List.set_cons_zero, List.set_cons_succ, List.length_cons, List.length_nil, List.take_succ_cons, List.take_zero, List.drop_succ_cons, List.drop_zero, List.reverse_cons, List.reverse_nil, List.nil_append, List.cons_append, am_entry, List.map_cons, List.map_nil, List.replicate_zero, List.replicate_succ, List.append_nil, decide_eq_true_eq, eq_self, am_ty, am_nf, wf_1, wf_2, wa_1, wa_2, wa_3, wr_1, wr_2, wr_3, ty_q0, ty_q1, ty_q2, i_if, and_false, false_and, ac_134, kc_80, lv_80_0, lv_80_1, lv_80_2, lv_80_3, lv_80_4, lv_80_5, lv_80_6, li_80_6, lv_80_7, li_80_7, lv_80_8, lv_80_9, lv_80_10, lv_80_11, lv_80_12, lv_80_13, lv_80_14, li_80_14, lv_80_15, lv_80_16, li_80_16, lv_80_17, lv_80_18, lv_80_19, lv_80_20, lv_80_21, lv_80_22, lv_80_23, lv_80_24, li_80_24, lv_80_25, lv_80_26, lv_80_27, lv_80_28, li_80_28, lv_80_29, li_80_29, lv_80_30, li_80_30, lv_80_31, li_80_31, lv_80_32, li_80_32, lv_80_33, li_80_33, lv_80_34, li_80_34, lv_80_35, li_80_35, lv_80_36, li_80_36, lv_80_37, li_80_37, lv_80_38, lv_80_39, li_80_39, lv_80_40, li_80_40, lv_80_41, lv_80_42, lv_80_43, lv_80_44, lv_80_45, lv_80_46, lv_80_47, li_80_47, lv_80_48, li_80_48, lv_80_49, li_80_49, lv_80_50, lv_80_51, kc_81, kn_81, kc_90, kn_90, kc_91, kn_91, kc_92, kn_92, h.1, e1, c1, c2, c3, c4]
  simp (disch := first | omega | assumption) only [↓mI_i, li_0, li_1, li_2, li_3, li_4, li_5, li_6, li_7, li_8, li_9, li_10, li_16, li_20, li_24, li_31, li_32, li_43, li_44, li_45, li_46, li_48, li_57, li_62, li_64, li_97, li_99, li_100, li_200, li_201, li_202, li_255, li_401, li_500, li_2000, li_5980, li_6000, li_6002, li_9000, li_10000, li_20000, li_40401, li_100000, li_1000000, nI_leI, nI_ltI, nI_eq, mI_eq, mI_eq2, mI_lt, mI_le, mI_gt, mI_ge, nI_m1, nI_add, pk_sub, pk_mul, nI_clamp, bq0, bq1, ite_not, Classical.not_not, or_false, false_or, or_self, not_true_eq_false, not_false_eq_true, ↓reduceIte, ite_true, ite_false, true_or, or_true, and_true, true_and, ne_eq, if_pos, if_neg]
  by_cases z2 : 200 < lnum l
  · simp (disch := first | omega | assumption) only [↓mI_i, li_0, li_1, li_2, li_3, li_4, li_5, li_6, li_7, li_8, li_9, li_10, li_16, li_20, li_24, li_31, li_32, li_43, li_44, li_45, li_46, li_48, li_57, li_62, li_64, li_97, li_99, li_100, li_200, li_201, li_202, li_255, li_401, li_500, li_2000, li_5980, li_6000, li_6002, li_9000, li_10000, li_20000, li_40401, li_100000, li_1000000, nI_leI, nI_ltI, nI_eq, mI_eq, mI_eq2, mI_lt, mI_le, mI_gt, mI_ge, nI_m1, nI_add, pk_sub, pk_mul, nI_clamp, bq0, bq1, ite_not, Classical.not_not, or_false, false_or, or_self, not_true_eq_false, not_false_eq_true, ↓reduceIte, ite_true, ite_false, true_or, or_true, and_true, true_and, ne_eq, if_pos, if_neg]
    exact h0 (fun y => by omega)
  simp (disch := first | omega | assumption) only [↓mI_i, li_0, li_1, li_2, li_3, li_4, li_5, li_6, li_7, li_8, li_9, li_10, li_16, li_20, li_24, li_31, li_32, li_43, li_44, li_45, li_46, li_48, li_57, li_62, li_64, li_97, li_99, li_100, li_200, li_201, li_202, li_255, li_401, li_500, li_2000, li_5980, li_6000, li_6002, li_9000, li_10000, li_20000, li_40401, li_100000, li_1000000, nI_leI, nI_ltI, nI_eq, mI_eq, mI_eq2, mI_lt, mI_le, mI_gt, mI_ge, nI_m1, nI_add, pk_sub, pk_mul, nI_clamp, bq0, bq1, ite_not, Classical.not_not, or_false, false_or, or_self, not_true_eq_false, not_false_eq_true, ↓reduceIte, ite_true, ite_false, true_or, or_true, and_true, true_and, ne_eq, if_pos, if_neg, cpy_apw]
  have hf : frB t σ (wa (wa (wa (wa σ (82 + t) (apw (σ.2.1 (82 + t)) 0 (slc (σ.2.1 b) 0 l.length))) 90 (upd (σ.2.1 90) t (nI l.length))) 91 (upd (σ.2.1 91) t (nI 0))) (93 + t) (upd (σ.2.1 (93 + t)) 0 (nI 0))) := by
    refine ⟨rfl, fun a p q r s => ?_, fun i hi => ⟨?_, ?_⟩, rfl⟩
    · rw [wa_2, if_neg s, wa_2, if_neg r, wa_2, if_neg q, wa_2, if_neg p]
    · rw [wa_2, if_neg (by omega), wa_2, if_neg (by omega), wa_2, if_pos rfl]
      unfold upd
      rw [if_neg hi]
    · rw [wa_2, if_neg (by omega), wa_2, if_pos rfl]
      unfold upd
      rw [if_neg hi]
  refine lp_becomes ht hb (by omega) (by omega) l.length 0 _ (by omega) (Bs_frB h hf hb ht) ?_ ?_ ?_ ?_ (fun τ k1 k2 => h1 ⟨by omega, by omega⟩ τ k1 (frB_trans hf k2))
  · intro k hk
    rw [wa_2, if_neg (by omega), wa_2, if_neg (by omega), wa_2, if_neg (by omega), wa_2, if_pos rfl]
    unfold apw
    rw [slc_len, if_pos ⟨Nat.zero_le _, by omega⟩, slc_get (by omega), Nat.zero_add]
    exact h.2.2.2.1 k hk
  · rw [wa_2, if_neg (by omega), wa_2, if_neg (by omega), wa_2, if_pos rfl, upd_s]
  · rw [wa_2, if_neg (by omega), wa_2, if_pos rfl, upd_s]
    rfl
  · intro k hk
    obtain rfl : k = 0 := by
      have hk : k ≤ 0 := hk
      omega
    rw [wa_2, if_pos rfl, upd_s]
    rfl
end MO
