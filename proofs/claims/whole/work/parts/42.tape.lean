/-! lines of the tape, its pieces -/
/-- no 10 inside a line -/
theorem ct_in {f : Nat → Int32} {n : Nat} : ∀ x y, y < x → f y = 10 → (y + 1) ∈ ct f n x
  | 0, y, h, _ => absurd h (Nat.not_lt_zero y)
  | x + 1, y, h, e => by
    rw [ct_succ]
    by_cases q : y = x
    · subst q
      rw [if_pos (Or.inl e)]
      exact List.mem_append_right _ (List.mem_cons_self ..)
    · exact List.mem_append_left _ (ct_in x y (by omega) e)
theorem sta_mono {f : Nat → Int32} {n : Nat} : ∀ d k, k + d ≤ nl f n → sta f n k + d ≤ sta f n (k + d)
  | 0, k, _ => Nat.le_refl _
  | d + 1, k, h => by
    have h1 := sta_mono (f := f) (n := n) d k (by omega)
    have h2 := sta_rise (f := f) (n := n) (k := k + d) (by omega)
    have e : k + (d + 1) = k + d + 1 := rfl
    rw [e]
    omega
theorem sta_inner {f : Nat → Int32} {n k y : Nat} (hk : k < nl f n) (h1 : sta f n k ≤ y) (h2 : y + 1 < sta f n (k + 1)) : f y ≠ 10 := by
  intro e
  have hn := sta_n (f := f) (n := n) (k := k + 1) hk
  have hm := ct_in (n := n) n y (by omega) e
  obtain ⟨j, hj, hje⟩ := List.getElem_of_mem hm
  have hj2 : j < nl f n := hj
  have e2 : sta f n (j + 1) = y + 1 := by
    unfold sta
    rw [List.getD_cons_succ, List.getD_eq_getElem?_getD, List.getElem?_eq_getElem hj, hje]
    rfl
  rcases Nat.lt_or_ge j k with q | q
  · have := sta_mono (f := f) (n := n) (k - (j + 1)) (j + 1) (by omega)
    rw [show j + 1 + (k - (j + 1)) = k by omega] at this
    omega
  · have := sta_mono (f := f) (n := n) (j + 1 - (k + 1)) (k + 1) (by omega)
    rw [show k + 1 + (j + 1 - (k + 1)) = j + 1 by omega] at this
    omega
/-- line k is there, with its 10 -/
abbrev whl (T : List Int32) (k : Nat) : Prop := k < lnum T ∧ gl T (lsta T (k + 1) - 1) = nI 10
theorem l_inner {T : List Int32} {k y : Nat} (hk : k < lnum T) (h1 : lsta T k ≤ y) (h2 : y + 1 < lsta T (k + 1)) : gl T y ≠ nI 10 := sta_inner hk h1 h2
theorem l_mono {T : List Int32} {k d : Nat} (h : k + d ≤ lnum T) : lsta T k + d ≤ lsta T (k + d) := sta_mono d k h
/-- the first 10 behind a line's begin is its end -/
theorem l_eol {T : List Int32} {k x : Nat} (hk : k ≤ lnum T) (h1 : lsta T k ≤ x) (h2 : x < T.length) (h3 : gl T x = nI 10) (h4 : ∀ y, lsta T k ≤ y → y < x → gl T y ≠ nI 10) : whl T k ∧ lsta T (k + 1) = x + 1 := by
  have hk2 : k < lnum T := by
    rcases Nat.lt_or_ge k (lnum T) with q | q
    · exact q
    · have e : k = lnum T := by omega
      rw [e, lsta_end] at h1
      omega
  have r := lsta_rise hk2
  have rn := lsta_n (l := T) (k := k + 1) hk2
  have e : lsta T (k + 1) = x + 1 := by
    rcases Nat.lt_trichotomy (lsta T (k + 1)) (x + 1) with q | q | q
    · exfalso
      rcases Nat.lt_or_ge (k + 1) (lnum T) with z | z
      · exact h4 (lsta T (k + 1) - 1) (by omega) (by omega) (lsta_ten z)
      · have e : k + 1 = lnum T := by omega
        rw [e, lsta_end] at q
        omega
    · exact q
    · exact absurd h3 (l_inner hk2 h1 q)
  exact ⟨⟨hk2, by rw [e]; exact h3⟩, e⟩
theorem gl_t {l : List Int32} {i : Nat} : l.getD i 0 = gl l i := id rfl
theorem slc_list {f : Nat → Int32} {p : Nat} {l : List Int32} (h : ∀ i, i < l.length → f (p + i) = gl l i) : slc f p l.length = l := by
  apply List.ext_getElem?
  intro x
  by_cases hx : x < l.length
  · have e1 := h x hx
    have e2 := slc_get (f := f) (i := p) hx
    rw [List.getD_eq_getElem?_getD] at e2
    unfold gl at e1
    rw [List.getD_eq_getElem?_getD (l := l), List.getElem?_eq_getElem hx] at e1
    rw [List.getElem?_eq_getElem (by rw [slc_len]; exact hx)] at e2 ⊢
    rw [List.getElem?_eq_getElem hx]
    exact congrArg some (e2.trans e1)
  · rw [List.getElem?_eq_none (by rw [slc_len]; omega), List.getElem?_eq_none (by omega)]
theorem slc_self {l : List Int32} : slc (gl l) 0 l.length = l := slc_list fun i _ => by rw [Nat.zero_add]
/-- the piece stands at p -/
abbrev stn (T : List Int32) (j p : Nat) : Prop := p + (am_txt j).length ≤ T.length ∧ slc (gl T) p (am_txt j).length = am_txt j
theorem stn_get {T : List Int32} {j p i : Nat} (h : stn T j p) (hi : i < (am_txt j).length) : gl T (p + i) = gl (am_txt j) i := by
  have := congrArg (fun l => gl l i) h.2
  rw [← this]
  exact (slc_get hi).symm
/-- a reader of the tape -/
def is_R (r : Nat) : Prop := ly_c r = 8 ∧ (∀ σ, ly_v σ r 0 = .ref 2) ∧ ly_i r 8 1 ∧ ly_i r 8 2 ∧ ly_i r 8 3 ∧ (r = 16 ∨ r = 18)
theorem is_R_16 : is_R 16 := ⟨rfl, fun _ => rfl, ⟨rfl, rfl, rfl⟩, ⟨rfl, rfl, rfl⟩, ⟨rfl, rfl, rfl⟩, Or.inl rfl⟩
theorem is_R_18 : is_R 18 := ⟨rfl, fun _ => rfl, ⟨rfl, rfl, rfl⟩, ⟨rfl, rfl, rfl⟩, ⟨rfl, rfl, rfl⟩, Or.inr rfl⟩
/-- the reader at line number k, at a, its line's end at e -/
def rd (σ : am_M) (r k a e : Nat) : am_M := wf (wf (wf σ r 1 (nI k)) r 2 (nI a)) r 3 (nI e)
theorem rd_1 {σ : am_M} {r k a e : Nat} : (rd σ r k a e).1 r 1 = nI k := by simp [rd, wf]
theorem rd_2 {σ : am_M} {r k a e : Nat} : (rd σ r k a e).1 r 2 = nI a := by simp [rd, wf]
theorem rd_3 {σ : am_M} {r k a e : Nat} : (rd σ r k a e).1 r 3 = nI e := by simp [rd, wf]
theorem rd_m {σ : am_M} {r k a e : Nat} : (rd σ r k a e).2 = σ.2 := rfl
theorem rd_o {σ : am_M} {r k a e b j : Nat} (h : b ≠ r) : (rd σ r k a e).1 b j = σ.1 b j := by simp [rd, wf, h]
theorem rd_p1 {σ : am_M} {r k a e k2 : Nat} : wf (rd σ r k a e) r 1 (nI k2) = rd σ r k2 a e := by
  refine mm_ext (fun b j => ?_) (fun b i => rfl) (fun j => rfl)
  simp only [rd, wf]
  by_cases h : b = r
  · by_cases h1 : j = 1
    · simp [h, h1]
    · simp [h, h1]
  · simp [h]
theorem rd_p2 {σ : am_M} {r k a e a2 : Nat} : wf (rd σ r k a e) r 2 (nI a2) = rd σ r k a2 e := by
  refine mm_ext (fun b j => ?_) (fun b i => rfl) (fun j => rfl)
  simp only [rd, wf]
  by_cases h : b = r
  · by_cases h1 : j = 2
    · simp [h, h1]
    · simp [h, h1]
  · simp [h]
theorem rd_p3 {σ : am_M} {r k a e e2 : Nat} : wf (rd σ r k a e) r 3 (nI e2) = rd σ r k a e2 := by
  refine mm_ext (fun b j => ?_) (fun b i => rfl) (fun j => rfl)
  simp only [rd, wf]
  by_cases h : b = r
  · by_cases h1 : j = 3
    · simp [h, h1]
    · simp [h, h1]
  · simp [h]
theorem rd_B {σ : am_M} {r k a e : Nat} {T : List Int32} (hr : is_R r) (h : Bt σ 2 T) : Bt (rd σ r k a e) 2 T := Bt_of h (rd_o (by rcases hr.2.2.2.2.2 with q | q <;> omega)) rfl
section TR
variable {X : am_X} {σ : am_M} {r k a e : Nat} {T : List Int32} {Q : Option Value → am_H → Prop}
set_option maxRecDepth 100000 in
theorem sx_rewind (hr : is_R r) : am_Go X 77 0 [some (.ref r)] [] (hh σ) Q = Q none (hh (rd σ r 0 0 0)) := by
  obtain ⟨h1, h2, h3, h4, h5, h6⟩ := hr
  rw [go_to []]; simp only [gs_u, fns_if, fns_nx, fns_no, fns_rt, fns_cl, am_fs, am_cd, am_NM, am_sz, am_code, am_step, am_ldc, am_bin, am_div, am_un, am_iload, am_aload, am_istore, am_astore, am_iinc, am_j1, am_j2, am_jr, am_dup, am_dup2, am_pop, am_ret, am_rt, am_rc, am_ml, am_slen, am_schr, am_m1, am_m2, ty_getf, ty_pi, ty_p0, ty_p1, ty_alen, ty_iald, ty_bald, ty_cald, ty_iast, ty_bast, ty_cast, ty_aald, ty_tald, ty_copy, ty_c1, ty_c2, ty_c3, ty_c4, ty_c5, ty_c6, ty_c7, ty_c8, ty_c9, ty_c10, ty_s0, ty_s1, ty_s2, ty_s3, ty_s4, ty_s5, ty_s6, List.mem_cons, List.not_mem_nil, or_false, false_or, or_true, true_or, and_true, true_and, and_self, Nat.reduceLT, Nat.reduceLeDiff, Nat.reduceEqDiff, Nat.add_eq_left, Nat.reduceAdd, Nat.reduceSub, ↓reduceIte, reduceCtorEq, List.getElem?_cons_zero, List.getElem?_cons_succ, List.set_cons_zero, List.set_cons_succ, List.length_cons, List.length_nil, List.take_succ_cons, List.take_zero, List.drop_succ_cons, List.drop_zero, List.reverse_cons, List.reverse_nil, List.nil_append, List.cons_append, am_entry, List.map_cons, List.map_nil, List.replicate_zero, List.replicate_succ, List.append_nil, decide_eq_true_eq, eq_self, am_ty, am_nf, wf_1, wf_2, wa_1, wa_2, wa_3, wr_1, wr_2, wr_3, ty_q0, ty_q1, ty_q2, i_if, and_false, false_and, ac_77, aty8, h1, h3, h4, h5]
  rfl
set_option maxRecDepth 100000 in
theorem sx_isAtEnd (hr : is_R r) (hb : Bt σ 2 T) (he : e < 2 ^ 31) : am_Go X 78 0 [some (.ref r)] [] (hh (rd σ r k a e)) Q = Q (some (.int (if T.length ≤ e then nI 1 else nI 0))) (hh (rd σ r k a e)) := by
  have hb2 := rd_B (k := k) (a := a) (e := e) hr hb
  have hn : T.length ≤ 6000 := hb.2.1
  have b1 := hb2.1
  obtain ⟨h1, h2, h3, h4, h5, h6⟩ := hr
  rw [go_to []]; simp only [gs_u, fns_if, fns_nx, fns_no, fns_rt, fns_cl, am_fs, am_cd, am_NM, am_sz, am_code, am_step, am_ldc, am_bin, am_div, am_un, am_iload, am_aload, am_istore, am_astore, am_iinc, am_j1, am_j2, am_jr, am_dup, am_dup2, am_pop, am_ret, am_rt, am_rc, am_ml, am_slen, am_schr, am_m1, am_m2, ty_getf, ty_pi, ty_p0, ty_p1, ty_alen, ty_iald, ty_bald, ty_cald, ty_iast, ty_bast, ty_cast, ty_aald, ty_tald, ty_copy, ty_c1, ty_c2, ty_c3, ty_c4, ty_c5, ty_c6, ty_c7, ty_c8, ty_c9, ty_c10, ty_s0, ty_s1, ty_s2, ty_s3, ty_s4, ty_s5, ty_s6, List.mem_cons, List.not_mem_nil, or_false, false_or, or_true, true_or, and_true, true_and, and_self, Nat.reduceLT, Nat.reduceLeDiff, Nat.reduceEqDiff, Nat.add_eq_left, Nat.reduceAdd, Nat.reduceSub, ↓reduceIte, reduceCtorEq, List.getElem?_cons_zero, List.getElem?_cons_succ, List.set_cons_zero, List.set_cons_succ, List.length_cons, List.length_nil, List.take_succ_cons, List.take_zero, List.drop_succ_cons, List.drop_zero, List.reverse_cons, List.reverse_nil, List.nil_append, List.cons_append, am_entry, List.map_cons, List.map_nil, List.replicate_zero, List.replicate_succ, List.append_nil, decide_eq_true_eq, eq_self, am_ty, am_nf, wf_1, wf_2, wa_1, wa_2, wa_3, wr_1, wr_2, wr_3, ty_q0, ty_q1, ty_q2, i_if, and_false, false_and, ac_78, kc_2, lv_2_0, lv_2_1, li_2_1, lv_2_2, li_2_2, lv_2_3, li_2_3, h1, h2, h5, ly_vi h5, b1, rd_3]
  simp (disch := first | omega | assumption) only [↓mI_i, li_0, li_1, li_2, li_3, li_4, li_5, li_6, li_7, li_8, li_9, li_10, li_16, li_20, li_24, li_31, li_32, li_43, li_44, li_45, li_46, li_48, li_57, li_62, li_64, li_97, li_99, li_100, li_200, li_201, li_202, li_255, li_401, li_500, li_2000, li_5980, li_6000, li_6002, li_9000, li_10000, li_20000, li_40401, li_100000, li_1000000, nI_leI, nI_ltI, nI_eq, mI_eq, mI_eq2, mI_lt, mI_le, mI_gt, mI_ge, nI_m1, nI_add, pk_sub, pk_mul, nI_clamp, bq0, bq1, ite_not, Classical.not_not, or_false, false_or, or_self, not_true_eq_false, not_false_eq_true, ↓reduceIte, ite_true, ite_false, true_or, or_true, and_true, true_and, ne_eq, if_pos, if_neg]
  by_cases q : T.length ≤ e
  · simp (disch := first | omega | assumption) only [↓mI_i, li_0, li_1, li_2, li_3, li_4, li_5, li_6, li_7, li_8, li_9, li_10, li_16, li_20, li_24, li_31, li_32, li_43, li_44, li_45, li_46, li_48, li_57, li_62, li_64, li_97, li_99, li_100, li_200, li_201, li_202, li_255, li_401, li_500, li_2000, li_5980, li_6000, li_6002, li_9000, li_10000, li_20000, li_40401, li_100000, li_1000000, nI_leI, nI_ltI, nI_eq, mI_eq, mI_eq2, mI_lt, mI_le, mI_gt, mI_ge, nI_m1, nI_add, pk_sub, pk_mul, nI_clamp, bq0, bq1, ite_not, Classical.not_not, or_false, false_or, or_self, not_true_eq_false, not_false_eq_true, ↓reduceIte, ite_true, ite_false, true_or, or_true, and_true, true_and, ne_eq, if_pos, if_neg]
  · simp (disch := first | omega | assumption) only [↓mI_i, li_0, li_1, li_2, li_3, li_4, li_5, li_6, li_7, li_8, li_9, li_10, li_16, li_20, li_24, li_31, li_32, li_43, li_44, li_45, li_46, li_48, li_57, li_62, li_64, li_97, li_99, li_100, li_200, li_201, li_202, li_255, li_401, li_500, li_2000, li_5980, li_6000, li_6002, li_9000, li_10000, li_20000, li_40401, li_100000, li_1000000, nI_leI, nI_ltI, nI_eq, mI_eq, mI_eq2, mI_lt, mI_le, mI_gt, mI_ge, nI_m1, nI_add, pk_sub, pk_mul, nI_clamp, bq0, bq1, ite_not, Classical.not_not, or_false, false_or, or_self, not_true_eq_false, not_false_eq_true, ↓reduceIte, ite_true, ite_false, true_or, or_true, and_true, true_and, ne_eq, if_pos, if_neg]
set_option maxRecDepth 100000 in
set_option maxHeartbeats 4000000 in
theorem lp_nextLine (hr : is_R r) (hb : Bt σ 2 T) (hk : k ≤ lnum T) {p : Nat} : ∀ (d i : Nat), i + d = T.length → lsta T k ≤ i → (∀ y, lsta T k ≤ y → y < i → gl T y ≠ nI 10) → am_Go X 79 23 [some (.ref r), some (.int (nI i))] [] (hh (rd σ r (k + 1) p (lsta T k))) Q = if whl T k then Q (some (.int (nI 1))) (hh (rd σ r (k + 1) p (lsta T (k + 1)))) else Q (some (.int (nI 0))) (hh (rd σ r (k + 1) p (lsta T k))) := by
  have hb2 := rd_B (k := k + 1) (a := p) (e := lsta T k) hr hb
  have hn : T.length ≤ 6000 := hb.2.1
  have b1 := hb2.1
  obtain ⟨h1, h2, h3, h4, h5, h6⟩ := hr
  intro d
  induction d with
  | zero =>
    intro i hi hl hy
    rw [go_to [23]]; simp only [gs_u, fns_if, fns_nx, fns_no, fns_rt, fns_cl, am_fs, am_cd, am_NM, am_sz, am_code, am_step, am_ldc, am_bin, am_div, am_un, am_iload, am_aload, am_istore, am_astore, am_iinc, am_j1, am_j2, am_jr, am_dup, am_dup2, am_pop, am_ret, am_rt, am_rc, am_ml, am_slen, am_schr, am_m1, am_m2, ty_getf, ty_pi, ty_p0, ty_p1, ty_alen, ty_iald, ty_bald, ty_cald, ty_iast, ty_bast, ty_cast, ty_aald, ty_tald, ty_copy, ty_c1, ty_c2, ty_c3, ty_c4, ty_c5, ty_c6, ty_c7, ty_c8, ty_c9, ty_c10, ty_s0, ty_s1, ty_s2, ty_s3, ty_s4, ty_s5, ty_s6, List.mem_cons, List.not_mem_nil, or_false, false_or, or_true, true_or, and_true, true_and, and_self, Nat.reduceLT, Nat.reduceLeDiff, Nat.reduceEqDiff, Nat.add_eq_left, Nat.reduceAdd, Nat.reduceSub, ↓reduceIte, reduceCtorEq, List.getElem?_cons_zero, List.getElem?_cons_succ, List.set_cons_zero, List.set_cons_succ, List.length_cons, List.length_nil, List.take_succ_cons, List.take_zero, List.drop_succ_cons, List.drop_zero, List.reverse_cons, List.reverse_nil, List.nil_append, List.cons_append, am_entry, List.map_cons, List.map_nil, List.replicate_zero, List.replicate_succ, List.append_nil, decide_eq_true_eq, eq_self, am_ty, am_nf, wf_1, wf_2, wa_1, wa_2, wa_3, wr_1, wr_2, wr_3, ty_q0, ty_q1, ty_q2, i_if, and_false, false_and, ac_79, aty8, kc_2, lv_2_0, lv_2_1, li_2_1, lv_2_2, li_2_2, lv_2_3, li_2_3, h1, h2, h5, ly_vi h5, b1, rd_3]
    simp (disch := first | omega | assumption) only [↓mI_i, li_0, li_1, li_2, li_3, li_4, li_5, li_6, li_7, li_8, li_9, li_10, li_16, li_20, li_24, li_31, li_32, li_43, li_44, li_45, li_46, li_48, li_57, li_62, li_64, li_97, li_99, li_100, li_200, li_201, li_202, li_255, li_401, li_500, li_2000, li_5980, li_6000, li_6002, li_9000, li_10000, li_20000, li_40401, li_100000, li_1000000, nI_leI, nI_ltI, nI_eq, mI_eq, mI_eq2, mI_lt, mI_le, mI_gt, mI_ge, nI_m1, nI_add, pk_sub, pk_mul, nI_clamp, bq0, bq1, ite_not, Classical.not_not, or_false, false_or, or_self, not_true_eq_false, not_false_eq_true, ↓reduceIte, ite_true, ite_false, true_or, or_true, and_true, true_and, ne_eq, if_pos, if_neg]
    rw [if_neg]
    rintro ⟨z1, z2⟩
    have r1 := lsta_rise z1
    have r2 := lsta_n (l := T) (k := k + 1) z1
    exact hy _ (by omega) (by omega) z2
  | succ d ih =>
    intro i hi hl hy
    rw [go_to [23]]; simp only [gs_u, fns_if, fns_nx, fns_no, fns_rt, fns_cl, am_fs, am_cd, am_NM, am_sz, am_code, am_step, am_ldc, am_bin, am_div, am_un, am_iload, am_aload, am_istore, am_astore, am_iinc, am_j1, am_j2, am_jr, am_dup, am_dup2, am_pop, am_ret, am_rt, am_rc, am_ml, am_slen, am_schr, am_m1, am_m2, ty_getf, ty_pi, ty_p0, ty_p1, ty_alen, ty_iald, ty_bald, ty_cald, ty_iast, ty_bast, ty_cast, ty_aald, ty_tald, ty_copy, ty_c1, ty_c2, ty_c3, ty_c4, ty_c5, ty_c6, ty_c7, ty_c8, ty_c9, ty_c10, ty_s0, ty_s1, ty_s2, ty_s3, ty_s4, ty_s5, ty_s6, List.mem_cons, List.not_mem_nil, or_false, false_or, or_true, true_or, and_true, true_and, and_self, Nat.reduceLT, Nat.reduceLeDiff, Nat.reduceEqDiff, Nat.add_eq_left, Nat.reduceAdd, Nat.reduceSub, ↓reduceIte, reduceCtorEq, List.getElem?_cons_zero, List.getElem?_cons_succ, List.set_cons_zero, List.set_cons_succ, List.length_cons, List.length_nil, List.take_succ_cons, List.take_zero, List.drop_succ_cons, List.drop_zero, List.reverse_cons, List.reverse_nil, List.nil_append, List.cons_append, am_entry, List.map_cons, List.map_nil, List.replicate_zero, List.replicate_succ, List.append_nil, decide_eq_true_eq, eq_self, am_ty, am_nf, wf_1, wf_2, wa_1, wa_2, wa_3, wr_1, wr_2, wr_3, ty_q0, ty_q1, ty_q2, i_if, and_false, false_and, ac_79, aty8, kc_2, lv_2_0, lv_2_1, li_2_1, lv_2_2, li_2_2, lv_2_3, li_2_3, h1, h2, h5, ly_vi h5, b1, rd_3]
    simp (disch := first | omega | assumption) only [↓mI_i, li_0, li_1, li_2, li_3, li_4, li_5, li_6, li_7, li_8, li_9, li_10, li_16, li_20, li_24, li_31, li_32, li_43, li_44, li_45, li_46, li_48, li_57, li_62, li_64, li_97, li_99, li_100, li_200, li_201, li_202, li_255, li_401, li_500, li_2000, li_5980, li_6000, li_6002, li_9000, li_10000, li_20000, li_40401, li_100000, li_1000000, nI_leI, nI_ltI, nI_eq, mI_eq, mI_eq2, mI_lt, mI_le, mI_gt, mI_ge, nI_m1, nI_add, pk_sub, pk_mul, nI_clamp, bq0, bq1, ite_not, Classical.not_not, or_false, false_or, or_self, not_true_eq_false, not_false_eq_true, ↓reduceIte, ite_true, ite_false, true_or, or_true, and_true, true_and, ne_eq, if_pos, if_neg]
    rw [sx_Bytes_at is_B_2 hb2 (by decide) (by omega)]
    dsimp only [am_push]
    rw [go_to [23]]; simp only [gs_u, fns_if, fns_nx, fns_no, fns_rt, fns_cl, am_fs, am_cd, am_NM, am_sz, am_code, am_step, am_ldc, am_bin, am_div, am_un, am_iload, am_aload, am_istore, am_astore, am_iinc, am_j1, am_j2, am_jr, am_dup, am_dup2, am_pop, am_ret, am_rt, am_rc, am_ml, am_slen, am_schr, am_m1, am_m2, ty_getf, ty_pi, ty_p0, ty_p1, ty_alen, ty_iald, ty_bald, ty_cald, ty_iast, ty_bast, ty_cast, ty_aald, ty_tald, ty_copy, ty_c1, ty_c2, ty_c3, ty_c4, ty_c5, ty_c6, ty_c7, ty_c8, ty_c9, ty_c10, ty_s0, ty_s1, ty_s2, ty_s3, ty_s4, ty_s5, ty_s6, List.mem_cons, List.not_mem_nil, or_false, false_or, or_true, true_or, and_true, true_and, and_self, Nat.reduceLT, Nat.reduceLeDiff, Nat.reduceEqDiff, Nat.add_eq_left, Nat.reduceAdd, Nat.reduceSub, ↓reduceIte, reduceCtorEq, List.getElem?_cons_zero, List.getElem?_cons_succ, List.set_cons_zero, List.set_cons_succ, List.length_cons, List.length_nil, List.take_succ_cons, List.take_zero, List.drop_succ_cons, List.drop_zero, List.reverse_cons, List.reverse_nil, List.nil_append, List.cons_append, am_entry, List.map_cons, List.map_nil, List.replicate_zero, List.replicate_succ, List.append_nil, decide_eq_true_eq, eq_self, am_ty, am_nf, wf_1, wf_2, wa_1, wa_2, wa_3, wr_1, wr_2, wr_3, ty_q0, ty_q1, ty_q2, i_if, and_false, false_and, ac_79, aty8, kc_2, lv_2_0, lv_2_1, li_2_1, lv_2_2, li_2_2, lv_2_3, li_2_3, h1, h2, h5, ly_vi h5, b1, rd_3]
    simp (disch := first | omega | assumption) only [↓mI_i, li_0, li_1, li_2, li_3, li_4, li_5, li_6, li_7, li_8, li_9, li_10, li_16, li_20, li_24, li_31, li_32, li_43, li_44, li_45, li_46, li_48, li_57, li_62, li_64, li_97, li_99, li_100, li_200, li_201, li_202, li_255, li_401, li_500, li_2000, li_5980, li_6000, li_6002, li_9000, li_10000, li_20000, li_40401, li_100000, li_1000000, nI_leI, nI_ltI, nI_eq, mI_eq, mI_eq2, mI_lt, mI_le, mI_gt, mI_ge, nI_m1, nI_add, pk_sub, pk_mul, nI_clamp, bq0, bq1, ite_not, Classical.not_not, or_false, false_or, or_self, not_true_eq_false, not_false_eq_true, ↓reduceIte, ite_true, ite_false, true_or, or_true, and_true, true_and, ne_eq, if_pos, if_neg, isb_eq hb.2.2.2]
    by_cases q : gl T i = nI 10
    · obtain ⟨z1, z2⟩ := l_eol hk hl (by omega) q hy
      rw [if_pos q, if_pos z1, z2, rd_p3]
    · rw [if_neg q]
      refine ih (i + 1) (by omega) (by omega) (fun y y1 y2 => ?_)
      rcases Nat.lt_or_ge y i with z | z
      · exact hy y y1 z
      · obtain rfl : y = i := by omega
        exact q
set_option maxRecDepth 100000 in
theorem sx_nextLine (hr : is_R r) (hb : Bt σ 2 T) (hk : k ≤ lnum T) : am_Go X 79 0 [some (.ref r), none] [] (hh (rd σ r k a (lsta T k))) Q = if whl T k then Q (some (.int (nI 1))) (hh (rd σ r (k + 1) (lsta T k) (lsta T (k + 1)))) else Q (some (.int (nI 0))) (hh (rd σ r (k + 1) (lsta T k) (lsta T k))) := by
  have hl := lsta_n hk
  obtain ⟨h1, h2, h3, h4, h5, h6⟩ := id hr
  rw [go_to [23]]; simp only [gs_u, fns_if, fns_nx, fns_no, fns_rt, fns_cl, am_fs, am_cd, am_NM, am_sz, am_code, am_step, am_ldc, am_bin, am_div, am_un, am_iload, am_aload, am_istore, am_astore, am_iinc, am_j1, am_j2, am_jr, am_dup, am_dup2, am_pop, am_ret, am_rt, am_rc, am_ml, am_slen, am_schr, am_m1, am_m2, ty_getf, ty_pi, ty_p0, ty_p1, ty_alen, ty_iald, ty_bald, ty_cald, ty_iast, ty_bast, ty_cast, ty_aald, ty_tald, ty_copy, ty_c1, ty_c2, ty_c3, ty_c4, ty_c5, ty_c6, ty_c7, ty_c8, ty_c9, ty_c10, ty_s0, ty_s1, ty_s2, ty_s3, ty_s4, ty_s5, ty_s6, List.mem_cons, List.not_mem_nil, or_false, false_or, or_true, true_or, and_true, true_and, and_self, Nat.reduceLT, Nat.reduceLeDiff, Nat.reduceEqDiff, Nat.add_eq_left, Nat.reduceAdd, Nat.reduceSub, ↓reduceIte, reduceCtorEq, List.getElem?_cons_zero, List.getElem?_cons_succ, List.set_cons_zero, List.set_cons_succ, List.length_cons, List.length_nil, List.take_succ_cons, List.take_zero, List.drop_succ_cons, List.drop_zero, List.reverse_cons, List.reverse_nil, List.nil_append, List.cons_append, am_entry, List.map_cons, List.map_nil, List.replicate_zero, List.replicate_succ, List.append_nil, decide_eq_true_eq, eq_self, am_ty, am_nf, wf_1, wf_2, wa_1, wa_2, wa_3, wr_1, wr_2, wr_3, ty_q0, ty_q1, ty_q2, i_if, and_false, false_and, ac_79, aty8, kc_2, lv_2_0, lv_2_1, li_2_1, lv_2_2, li_2_2, lv_2_3, li_2_3, h1, h2, h3, h4, h5, ly_vi h3, ly_vi h4, ly_vi h5, rd_1, rd_2, rd_3]
  simp (disch := first | omega | assumption) only [↓mI_i, li_0, li_1, li_2, li_3, li_4, li_5, li_6, li_7, li_8, li_9, li_10, li_16, li_20, li_24, li_31, li_32, li_43, li_44, li_45, li_46, li_48, li_57, li_62, li_64, li_97, li_99, li_100, li_200, li_201, li_202, li_255, li_401, li_500, li_2000, li_5980, li_6000, li_6002, li_9000, li_10000, li_20000, li_40401, li_100000, li_1000000, nI_leI, nI_ltI, nI_eq, mI_eq, mI_eq2, mI_lt, mI_le, mI_gt, mI_ge, nI_m1, nI_add, pk_sub, pk_mul, nI_clamp, bq0, bq1, ite_not, Classical.not_not, or_false, false_or, or_self, not_true_eq_false, not_false_eq_true, ↓reduceIte, ite_true, ite_false, true_or, or_true, and_true, true_and, ne_eq, if_pos, if_neg, rd_p1, rd_p2, rd_3, rd_2]
  exact lp_nextLine hr hb hk (T.length - lsta T k) (lsta T k) (by omega) (Nat.le_refl _) (fun y y1 y2 => by omega)
set_option maxRecDepth 100000 in
set_option maxHeartbeats 4000000 in
theorem lp_stands {j p : Nat} (hX : X.2.2 = am_txt) (hr : is_R r) (hb : Bt σ 2 T) (hp : p + (am_txt j).length ≤ T.length) : ∀ (d i : Nat), i + d = (am_txt j).length → (∀ y, y < i → gl T (p + y) = gl (am_txt j) y) → am_Go X 85 21 [some (.ref r), some (.retAddr (j + 1)), some (.int (nI p)), some (.int (nI i))] [] (hh σ) Q = Q (some (.int (if stn T j p then nI 1 else nI 0))) (hh σ) := by
  have hn : T.length ≤ 6000 := hb.2.1
  have hT := txt_len j
  obtain ⟨h1, h2, h3, h4, h5, h6⟩ := id hr
  intro d
  induction d with
  | zero =>
    intro i hi hy
    rw [go_to [21]]; simp only [gs_u, fns_if, fns_nx, fns_no, fns_rt, fns_cl, am_fs, am_cd, am_NM, am_sz, am_code, am_step, am_ldc, am_bin, am_div, am_un, am_iload, am_aload, am_istore, am_astore, am_iinc, am_j1, am_j2, am_jr, am_dup, am_dup2, am_pop, am_ret, am_rt, am_rc, am_ml, am_slen, am_schr, am_m1, am_m2, ty_getf, ty_pi, ty_p0, ty_p1, ty_alen, ty_iald, ty_bald, ty_cald, ty_iast, ty_bast, ty_cast, ty_aald, ty_tald, ty_copy, ty_c1, ty_c2, ty_c3, ty_c4, ty_c5, ty_c6, ty_c7, ty_c8, ty_c9, ty_c10, ty_s0, ty_s1, ty_s2, ty_s3, ty_s4, ty_s5, ty_s6, List.mem_cons, List.not_mem_nil, or_false, false_or, or_true, true_or, and_true, true_and, and_self, Nat.reduceLT, Nat.reduceLeDiff, Nat.reduceEqDiff, Nat.add_eq_left, Nat.reduceAdd, Nat.reduceSub, ↓reduceIte, reduceCtorEq, List.getElem?_cons_zero, List.getElem?_cons_succ, List.set_cons_zero, List.set_cons_succ, List.length_cons, List.length_nil, List.take_succ_cons, List.take_zero, List.drop_succ_cons, List.drop_zero, List.reverse_cons, List.reverse_nil, List.nil_append, List.cons_append, am_entry, List.map_cons, List.map_nil, List.replicate_zero, List.replicate_succ, List.append_nil, decide_eq_true_eq, eq_self, am_ty, am_nf, wf_1, wf_2, wa_1, wa_2, wa_3, wr_1, wr_2, wr_3, ty_q0, ty_q1, ty_q2, i_if, and_false, false_and, ac_85, kc_2, lv_2_0, lv_2_1, li_2_1, lv_2_2, li_2_2, lv_2_3, li_2_3, h1, h2, hX, ofN]
    simp (disch := first | omega | assumption) only [↓mI_i, li_0, li_1, li_2, li_3, li_4, li_5, li_6, li_7, li_8, li_9, li_10, li_16, li_20, li_24, li_31, li_32, li_43, li_44, li_45, li_46, li_48, li_57, li_62, li_64, li_97, li_99, li_100, li_200, li_201, li_202, li_255, li_401, li_500, li_2000, li_5980, li_6000, li_6002, li_9000, li_10000, li_20000, li_40401, li_100000, li_1000000, nI_leI, nI_ltI, nI_eq, mI_eq, mI_eq2, mI_lt, mI_le, mI_gt, mI_ge, nI_m1, nI_add, pk_sub, pk_mul, nI_clamp, bq0, bq1, ite_not, Classical.not_not, or_false, false_or, or_self, not_true_eq_false, not_false_eq_true, ↓reduceIte, ite_true, ite_false, true_or, or_true, and_true, true_and, ne_eq, if_pos, if_neg]
    rw [if_pos (⟨hp, ?_⟩ : stn T j p)]
    exact slc_list (fun y hy2 => hy y (by omega))
  | succ d ih =>
    intro i hi hy
    have b3 := hb.2.2.1 (p + i) (by omega)
    rw [go_to [21]]; simp only [gs_u, fns_if, fns_nx, fns_no, fns_rt, fns_cl, am_fs, am_cd, am_NM, am_sz, am_code, am_step, am_ldc, am_bin, am_div, am_un, am_iload, am_aload, am_istore, am_astore, am_iinc, am_j1, am_j2, am_jr, am_dup, am_dup2, am_pop, am_ret, am_rt, am_rc, am_ml, am_slen, am_schr, am_m1, am_m2, ty_getf, ty_pi, ty_p0, ty_p1, ty_alen, ty_iald, ty_bald, ty_cald, ty_iast, ty_bast, ty_cast, ty_aald, ty_tald, ty_copy, ty_c1, ty_c2, ty_c3, ty_c4, ty_c5, ty_c6, ty_c7, ty_c8, ty_c9, ty_c10, ty_s0, ty_s1, ty_s2, ty_s3, ty_s4, ty_s5, ty_s6, List.mem_cons, List.not_mem_nil, or_false, false_or, or_true, true_or, and_true, true_and, and_self, Nat.reduceLT, Nat.reduceLeDiff, Nat.reduceEqDiff, Nat.add_eq_left, Nat.reduceAdd, Nat.reduceSub, ↓reduceIte, reduceCtorEq, List.getElem?_cons_zero, List.getElem?_cons_succ, List.set_cons_zero, List.set_cons_succ, List.length_cons, List.length_nil, List.take_succ_cons, List.take_zero, List.drop_succ_cons, List.drop_zero, List.reverse_cons, List.reverse_nil, List.nil_append, List.cons_append, am_entry, List.map_cons, List.map_nil, List.replicate_zero, List.replicate_succ, List.append_nil, decide_eq_true_eq, eq_self, am_ty, am_nf, wf_1, wf_2, wa_1, wa_2, wa_3, wr_1, wr_2, wr_3, ty_q0, ty_q1, ty_q2, i_if, and_false, false_and, ac_85, kc_2, lv_2_0, lv_2_1, li_2_1, lv_2_2, li_2_2, lv_2_3, li_2_3, kc_3, kn_3, h1, h2, hX, ofN, gl_t]
    simp (disch := first | omega | assumption) only [↓mI_i, li_0, li_1, li_2, li_3, li_4, li_5, li_6, li_7, li_8, li_9, li_10, li_16, li_20, li_24, li_31, li_32, li_43, li_44, li_45, li_46, li_48, li_57, li_62, li_64, li_97, li_99, li_100, li_200, li_201, li_202, li_255, li_401, li_500, li_2000, li_5980, li_6000, li_6002, li_9000, li_10000, li_20000, li_40401, li_100000, li_1000000, nI_leI, nI_ltI, nI_eq, mI_eq, mI_eq2, mI_lt, mI_le, mI_gt, mI_ge, nI_m1, nI_add, pk_sub, pk_mul, nI_clamp, bq0, bq1, ite_not, Classical.not_not, or_false, false_or, or_self, not_true_eq_false, not_false_eq_true, ↓reduceIte, ite_true, ite_false, true_or, or_true, and_true, true_and, ne_eq, if_pos, if_neg, b3]
    by_cases q : gl T (p + i) = gl (am_txt j) i
    · rw [if_pos q]
      refine ih (i + 1) (by omega) (fun y y1 => ?_)
      rcases Nat.lt_or_ge y i with z | z
      · exact hy y z
      · obtain rfl : y = i := by omega
        exact q
    · rw [if_neg q, if_neg (fun z => q (stn_get z (by omega)))]
set_option maxRecDepth 100000 in
theorem sx_stands {j p : Nat} (hX : X.2.2 = am_txt) (hr : is_R r) (hb : Bt σ 2 T) (hp : p < 2 ^ 29) (hj : (am_txt j).length < 2 ^ 29) : am_Go X 85 0 [some (.ref r), some (.retAddr (j + 1)), some (.int (nI p)), none] [] (hh σ) Q = Q (some (.int (if stn T j p then nI 1 else nI 0))) (hh σ) := by
  have hn : T.length ≤ 6000 := hb.2.1
  have hb1 := hb.1
  obtain ⟨h1, h2, h3, h4, h5, h6⟩ := id hr
  rw [go_to [21]]; simp only [gs_u, fns_if, fns_nx, fns_no, fns_rt, fns_cl, am_fs, am_cd, am_NM, am_sz, am_code, am_step, am_ldc, am_bin, am_div, am_un, am_iload, am_aload, am_istore, am_astore, am_iinc, am_j1, am_j2, am_jr, am_dup, am_dup2, am_pop, am_ret, am_rt, am_rc, am_ml, am_slen, am_schr, am_m1, am_m2, ty_getf, ty_pi, ty_p0, ty_p1, ty_alen, ty_iald, ty_bald, ty_cald, ty_iast, ty_bast, ty_cast, ty_aald, ty_tald, ty_copy, ty_c1, ty_c2, ty_c3, ty_c4, ty_c5, ty_c6, ty_c7, ty_c8, ty_c9, ty_c10, ty_s0, ty_s1, ty_s2, ty_s3, ty_s4, ty_s5, ty_s6, List.mem_cons, List.not_mem_nil, or_false, false_or, or_true, true_or, and_true, true_and, and_self, Nat.reduceLT, Nat.reduceLeDiff, Nat.reduceEqDiff, Nat.add_eq_left, Nat.reduceAdd, Nat.reduceSub, ↓reduceIte, reduceCtorEq, List.getElem?_cons_zero, List.getElem?_cons_succ, List.set_cons_zero, List.set_cons_succ, List.length_cons, List.length_nil, List.take_succ_cons, List.take_zero, List.drop_succ_cons, List.drop_zero, List.reverse_cons, List.reverse_nil, List.nil_append, List.cons_append, am_entry, List.map_cons, List.map_nil, List.replicate_zero, List.replicate_succ, List.append_nil, decide_eq_true_eq, eq_self, am_ty, am_nf, wf_1, wf_2, wa_1, wa_2, wa_3, wr_1, wr_2, wr_3, ty_q0, ty_q1, ty_q2, i_if, and_false, false_and, ac_85, kc_2, lv_2_0, lv_2_1, li_2_1, lv_2_2, li_2_2, lv_2_3, li_2_3, h1, h2, hX, ofN]
  simp (disch := first | omega | assumption) only [↓mI_i, li_0, li_1, li_2, li_3, li_4, li_5, li_6, li_7, li_8, li_9, li_10, li_16, li_20, li_24, li_31, li_32, li_43, li_44, li_45, li_46, li_48, li_57, li_62, li_64, li_97, li_99, li_100, li_200, li_201, li_202, li_255, li_401, li_500, li_2000, li_5980, li_6000, li_6002, li_9000, li_10000, li_20000, li_40401, li_100000, li_1000000, nI_leI, nI_ltI, nI_eq, mI_eq, mI_eq2, mI_lt, mI_le, mI_gt, mI_ge, nI_m1, nI_add, pk_sub, pk_mul, nI_clamp, bq0, bq1, ite_not, Classical.not_not, or_false, false_or, or_self, not_true_eq_false, not_false_eq_true, ↓reduceIte, ite_true, ite_false, true_or, or_true, and_true, true_and, ne_eq, if_pos, if_neg]
  rw [sp_Bytes_hasSlice is_B_2, hb1]
  dsimp only [am_push]
  rw [go_to [21]]; simp only [gs_u, fns_if, fns_nx, fns_no, fns_rt, fns_cl, am_fs, am_cd, am_NM, am_sz, am_code, am_step, am_ldc, am_bin, am_div, am_un, am_iload, am_aload, am_istore, am_astore, am_iinc, am_j1, am_j2, am_jr, am_dup, am_dup2, am_pop, am_ret, am_rt, am_rc, am_ml, am_slen, am_schr, am_m1, am_m2, ty_getf, ty_pi, ty_p0, ty_p1, ty_alen, ty_iald, ty_bald, ty_cald, ty_iast, ty_bast, ty_cast, ty_aald, ty_tald, ty_copy, ty_c1, ty_c2, ty_c3, ty_c4, ty_c5, ty_c6, ty_c7, ty_c8, ty_c9, ty_c10, ty_s0, ty_s1, ty_s2, ty_s3, ty_s4, ty_s5, ty_s6, List.mem_cons, List.not_mem_nil, or_false, false_or, or_true, true_or, and_true, true_and, and_self, Nat.reduceLT, Nat.reduceLeDiff, Nat.reduceEqDiff, Nat.add_eq_left, Nat.reduceAdd, Nat.reduceSub, ↓reduceIte, reduceCtorEq, List.getElem?_cons_zero, List.getElem?_cons_succ, List.set_cons_zero, List.set_cons_succ, List.length_cons, List.length_nil, List.take_succ_cons, List.take_zero, List.drop_succ_cons, List.drop_zero, List.reverse_cons, List.reverse_nil, List.nil_append, List.cons_append, am_entry, List.map_cons, List.map_nil, List.replicate_zero, List.replicate_succ, List.append_nil, decide_eq_true_eq, eq_self, am_ty, am_nf, wf_1, wf_2, wa_1, wa_2, wa_3, wr_1, wr_2, wr_3, ty_q0, ty_q1, ty_q2, i_if, and_false, false_and, ac_85, kc_2, lv_2_0, lv_2_1, li_2_1, lv_2_2, li_2_2, lv_2_3, li_2_3, h1, h2, hX, ofN]
  by_cases q : p + (am_txt j).length ≤ T.length
  · rw [if_pos (⟨nI_pos (by omega), nI_le (by omega) (by omega), nI_le q (by omega)⟩ : ¬ nI p < 0 ∧ nI p ≤ nI (p + (am_txt j).length) ∧ nI (p + (am_txt j).length) ≤ nI T.length)]
    simp (disch := first | omega | assumption) only [↓mI_i, li_0, li_1, li_2, li_3, li_4, li_5, li_6, li_7, li_8, li_9, li_10, li_16, li_20, li_24, li_31, li_32, li_43, li_44, li_45, li_46, li_48, li_57, li_62, li_64, li_97, li_99, li_100, li_200, li_201, li_202, li_255, li_401, li_500, li_2000, li_5980, li_6000, li_6002, li_9000, li_10000, li_20000, li_40401, li_100000, li_1000000, nI_leI, nI_ltI, nI_eq, mI_eq, mI_eq2, mI_lt, mI_le, mI_gt, mI_ge, nI_m1, nI_add, pk_sub, pk_mul, nI_clamp, bq0, bq1, ite_not, Classical.not_not, or_false, false_or, or_self, not_true_eq_false, not_false_eq_true, ↓reduceIte, ite_true, ite_false, true_or, or_true, and_true, true_and, ne_eq, if_pos, if_neg]
    exact lp_stands hX hr hb q _ 0 (Nat.zero_add _) (fun y hy => absurd hy (Nat.not_lt_zero y))
  · rw [if_neg (show ¬ (¬ nI p < 0 ∧ nI p ≤ nI (p + (am_txt j).length) ∧ nI (p + (am_txt j).length) ≤ nI T.length) from fun z => nI_ge (by omega) (by omega) z.2.2)]
    simp (disch := first | omega | assumption) only [↓mI_i, li_0, li_1, li_2, li_3, li_4, li_5, li_6, li_7, li_8, li_9, li_10, li_16, li_20, li_24, li_31, li_32, li_43, li_44, li_45, li_46, li_48, li_57, li_62, li_64, li_97, li_99, li_100, li_200, li_201, li_202, li_255, li_401, li_500, li_2000, li_5980, li_6000, li_6002, li_9000, li_10000, li_20000, li_40401, li_100000, li_1000000, nI_leI, nI_ltI, nI_eq, mI_eq, mI_eq2, mI_lt, mI_le, mI_gt, mI_ge, nI_m1, nI_add, pk_sub, pk_mul, nI_clamp, bq0, bq1, ite_not, Classical.not_not, or_false, false_or, or_self, not_true_eq_false, not_false_eq_true, ↓reduceIte, ite_true, ite_false, true_or, or_true, and_true, true_and, ne_eq, if_pos, if_neg]
end TR
