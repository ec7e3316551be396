/-! the class's Text -/
/-- the sum of a line's bytes -/
def hs (f : Nat → Int32) (i : Nat) : Nat → Int32
  | 0 => 0
  | k + 1 => hs f i k * 31 + (f (i + k) &&& 255)
theorem hs_slc {f g : Nat → Int32} {i p : Nat} : ∀ k, slc f i k = slc g p k → hs f i k = hs g p k := by
  intro k
  induction k with
  | zero => intro _; rfl
  | succ k ih =>
    intro h
    have h2 := slc_inj h
    unfold hs
    rw [ih (slc_ext (fun x hx => h2 x (by omega))), h2 k (by omega)]
/-- the text at t has n bytes, and its lines are found -/
def tOK (σ : am_M) (t n : Nat) : Prop := σ.1 (t + 1) 1 = nI n ∧ n ≤ 2000 ∧ is_b (σ.2.1 (t + 2)) n ∧ σ.1 t 3 = nI (nl (σ.2.1 (t + 2)) n) ∧ nl (σ.2.1 (t + 2)) n ≤ 200 ∧ (∀ k, k < nl (σ.2.1 (t + 2)) n → σ.2.1 (t + 3) k = nI (sta (σ.2.1 (t + 2)) n k)) ∧ (∀ k, k < nl (σ.2.1 (t + 2)) n → σ.2.1 (t + 4) k = hs (σ.2.1 (t + 2)) (sta (σ.2.1 (t + 2)) n k) (sta (σ.2.1 (t + 2)) n (k + 1) - sta (σ.2.1 (t + 2)) n k))
section TX
variable {X : am_X} {σ : am_M} {t n : Nat} {Q : Option Value → am_H → Prop}
set_option maxRecDepth 100000 in
set_option maxHeartbeats 4000000 in
theorem sp_Text_startOf {i : Nat} (hT : is_T t) (ok : tOK σ t n) (hi : i ≤ nl (σ.2.1 (t + 2)) n) : am_Go X 88 0 [some (.ref t), some (.int (nI i))] [] (hh σ) Q = Q (some (.int (nI (sta (σ.2.1 (t + 2)) n i)))) (hh σ) := by
  obtain ⟨h1, ⟨b1, b2, b3, b4, b5, b6⟩, ⟨h3, h4⟩, ⟨h5, h6, h7⟩, h8, h9, h10⟩ := hT
  obtain ⟨o1, o2, o3, o4, o5, o6, o7⟩ := ok
  have v0 := fun σ => (h8 σ).1
  have v1 := fun σ => (h8 σ).2.1
  rw [go_to []]; simp only [gs_u, fns_if, fns_nx, fns_no, fns_rt, fns_cl, am_fs, am_cd, am_NM, am_sz, am_code, am_step, am_ldc, am_bin, am_div, am_un, am_iload, am_aload, am_istore, am_astore, am_iinc, am_j1, am_j2, am_jr, am_dup, am_dup2, am_pop, am_ret, am_rt, am_rc, am_ml, am_slen, am_schr, am_m1, am_m2, ty_getf, ty_pi, ty_p0, ty_p1, ty_alen, ty_iald, ty_bald, ty_cald, ty_iast, ty_bast, ty_cast, ty_aald, ty_tald, ty_copy, ty_c1, ty_c2, ty_c3, ty_c4, ty_c5, ty_c6, ty_c7, ty_c8, ty_c9, ty_c10, ty_s0, ty_s1, ty_s2, ty_s3, ty_s4, ty_s5, ty_s6, List.mem_cons, List.not_mem_nil, or_false, false_or, or_true, true_or, and_true, true_and, and_self, Nat.reduceLT, Nat.reduceLeDiff, Nat.reduceEqDiff, Nat.reduceAdd, Nat.reduceSub, ↓reduceIte, reduceCtorEq, List.getElem?_cons_zero, List.getElem?_cons_succ, List.set_cons_zero, List.set_cons_succ, List.length_cons, List.length_nil, List.take_succ_cons, List.take_zero, List.drop_succ_cons, List.drop_zero, List.reverse_cons, List.reverse_nil, List.nil_append, List.cons_append, am_entry, List.map_cons, List.map_nil, List.replicate_zero, List.replicate_succ, List.append_nil, decide_eq_true_eq, eq_self, am_ty, am_nf, wf_1, wf_2, wa_1, wa_2, wa_3, wr_1, wr_2, wr_3, ac_88, h1, b1, h3, h6, v0, v1, h9, ly_vi h9, b4, ly_vi b4, o1, o4]
  rw [if_neg (nI_pos (by omega))]
  by_cases hl : i < nl (σ.2.1 (t + 2)) n
  · rw [if_neg (nI_ge hl (by omega)), nI_clamp (by omega), if_neg (by rintro (h | h); exact nI_pos (n := i) (by omega) h; omega), o6 i hl]
  · have e : i = nl (σ.2.1 (t + 2)) n := by omega
    rw [if_pos (nI_le (by omega) (by omega)), e, sta_end]
set_option maxRecDepth 100000 in
set_option maxHeartbeats 4000000 in
theorem sp_Text_endsOpen (hT : is_T t) (ok : tOK σ t n) : am_Go X 89 0 [some (.ref t)] [] (hh σ) Q = Q (some (.int (if 0 < n ∧ σ.2.1 (t + 2) (n - 1) ≠ 10 then 1 else 0))) (hh σ) := by
  obtain ⟨h1, hB, ⟨h3, h4⟩, ⟨h5, h6, h7⟩, h8, h9, h10⟩ := hT
  have hB0 := hB
  obtain ⟨b1, b2, b3, b4, b5, b6⟩ := hB
  obtain ⟨o1, o2, o3, o4, o5, o6, o7⟩ := ok
  have v0 := fun σ => (h8 σ).1
  rw [go_to []]; simp only [gs_u, fns_if, fns_nx, fns_no, fns_rt, fns_cl, am_fs, am_cd, am_NM, am_sz, am_code, am_step, am_ldc, am_bin, am_div, am_un, am_iload, am_aload, am_istore, am_astore, am_iinc, am_j1, am_j2, am_jr, am_dup, am_dup2, am_pop, am_ret, am_rt, am_rc, am_ml, am_slen, am_schr, am_m1, am_m2, ty_getf, ty_pi, ty_p0, ty_p1, ty_alen, ty_iald, ty_bald, ty_cald, ty_iast, ty_bast, ty_cast, ty_aald, ty_tald, ty_copy, ty_c1, ty_c2, ty_c3, ty_c4, ty_c5, ty_c6, ty_c7, ty_c8, ty_c9, ty_c10, ty_s0, ty_s1, ty_s2, ty_s3, ty_s4, ty_s5, ty_s6, List.mem_cons, List.not_mem_nil, or_false, false_or, or_true, true_or, and_true, true_and, and_self, Nat.reduceLT, Nat.reduceLeDiff, Nat.reduceEqDiff, Nat.reduceAdd, Nat.reduceSub, ↓reduceIte, reduceCtorEq, List.getElem?_cons_zero, List.getElem?_cons_succ, List.set_cons_zero, List.set_cons_succ, List.length_cons, List.length_nil, List.take_succ_cons, List.take_zero, List.drop_succ_cons, List.drop_zero, List.reverse_cons, List.reverse_nil, List.nil_append, List.cons_append, am_entry, List.map_cons, List.map_nil, List.replicate_zero, List.replicate_succ, List.append_nil, decide_eq_true_eq, eq_self, am_ty, am_nf, wf_1, wf_2, wa_1, wa_2, wa_3, wr_1, wr_2, wr_3, ac_89, h1, b1, v0, b4, ly_vi b4, o1]
  by_cases hl : 0 < n
  · have hl5 : ly_n (t + 1 + 1) = 2000 := h5
    have o3 : is_b (σ.2.1 (t + 1 + 1)) n := o3
    rw [if_neg (show ¬ nI n ≤ 0 from nI_nle hl (by omega)), sp_Bytes_isOpen hB0 o1 (by omega) (by omega), show (0 : Int32) = nI 0 from rfl, opv_n o3 (Nat.le_refl n) (by omega) (Nat.zero_le n)]
    dsimp only [am_push]
    rw [go_to []]; simp only [gs_u, fns_if, fns_nx, fns_no, fns_rt, fns_cl, am_fs, am_cd, am_NM, am_sz, am_code, am_step, am_ldc, am_bin, am_div, am_un, am_iload, am_aload, am_istore, am_astore, am_iinc, am_j1, am_j2, am_jr, am_dup, am_dup2, am_pop, am_ret, am_rt, am_rc, am_ml, am_slen, am_schr, am_m1, am_m2, ty_getf, ty_pi, ty_p0, ty_p1, ty_alen, ty_iald, ty_bald, ty_cald, ty_iast, ty_bast, ty_cast, ty_aald, ty_tald, ty_copy, ty_c1, ty_c2, ty_c3, ty_c4, ty_c5, ty_c6, ty_c7, ty_c8, ty_c9, ty_c10, ty_s0, ty_s1, ty_s2, ty_s3, ty_s4, ty_s5, ty_s6, List.mem_cons, List.not_mem_nil, or_false, false_or, or_true, true_or, and_true, true_and, and_self, Nat.reduceLT, Nat.reduceLeDiff, Nat.reduceEqDiff, Nat.reduceAdd, Nat.reduceSub, ↓reduceIte, reduceCtorEq, List.getElem?_cons_zero, List.getElem?_cons_succ, List.set_cons_zero, List.set_cons_succ, List.length_cons, List.length_nil, List.take_succ_cons, List.take_zero, List.drop_succ_cons, List.drop_zero, List.reverse_cons, List.reverse_nil, List.nil_append, List.cons_append, am_entry, List.map_cons, List.map_nil, List.replicate_zero, List.replicate_succ, List.append_nil, decide_eq_true_eq, eq_self, am_ty, am_nf, wf_1, wf_2, wa_1, wa_2, wa_3, wr_1, wr_2, wr_3, ac_89, h1, b1, v0, b4, ly_vi b4, o1]
    by_cases h : σ.2.1 (t + 2) (n - 1) ≠ 10
    · rw [if_pos (Or.inr h), if_neg (by decide), if_pos ⟨hl, h⟩]
    · rw [if_neg (show ¬ opE (σ.2.1 (t + 1 + 1)) 0 n from fun q => q.elim (fun q => by omega) (fun q => h q)), if_pos (by decide), if_neg (fun q => h q.2)]
      rfl
  · obtain rfl : n = 0 := by omega
    rw [if_pos (by decide), if_neg (fun q => hl q.1)]
/-- line k of the text at t -/
def ln (σ : am_M) (t n k : Nat) : List Int32 := slc (σ.2.1 (t + 2)) (sta (σ.2.1 (t + 2)) n k) (sta (σ.2.1 (t + 2)) n (k + 1) - sta (σ.2.1 (t + 2)) n k)
set_option maxRecDepth 100000 in
set_option maxHeartbeats 4000000 in
theorem sp_Text_isAlike {u m i j : Nat} (hT : is_T t) (ok : tOK σ t n) (hU : is_T u) (oku : tOK σ u m) (hi : i < 2 ^ 30) (hj : j < 2 ^ 30) : am_Go X 91 0 [some (.ref t), some (.int (nI i)), some (.ref u), some (.int (nI j))] [] (hh σ) Q = Q (some (.int (if i < nl (σ.2.1 (t + 2)) n ∧ j < nl (σ.2.1 (u + 2)) m ∧ ln σ t n i = ln σ u m j then 1 else 0))) (hh σ) := by
  have hT0 := hT
  have hU0 := hU
  have ok0 := ok
  have oku0 := oku
  obtain ⟨h1, hB, ⟨h3, h4⟩, ⟨h5, h6, h7⟩, h8, h9, h10⟩ := hT
  have hB0 := hB
  obtain ⟨b1, b2, b3, b4, b5, b6⟩ := hB
  obtain ⟨o1, o2, o3, o4, o5, o6, o7⟩ := ok
  obtain ⟨g1, hC, ⟨g3, g4⟩, ⟨g5, g6, g7⟩, g8, g9, g10⟩ := hU
  have hC0 := hC
  obtain ⟨c1, c2, c3, c4, c5, c6⟩ := hC
  obtain ⟨p1, p2, p3, p4, p5, p6, p7⟩ := oku
  have v0 := fun σ => (h8 σ).1
  have v2 := fun σ => (h8 σ).2.2
  have w0 := fun σ => (g8 σ).1
  have w2 := fun σ => (g8 σ).2.2
  rw [go_to []]; simp only [gs_u, fns_if, fns_nx, fns_no, fns_rt, fns_cl, am_fs, am_cd, am_NM, am_sz, am_code, am_step, am_ldc, am_bin, am_div, am_un, am_iload, am_aload, am_istore, am_astore, am_iinc, am_j1, am_j2, am_jr, am_dup, am_dup2, am_pop, am_ret, am_rt, am_rc, am_ml, am_slen, am_schr, am_m1, am_m2, ty_getf, ty_pi, ty_p0, ty_p1, ty_alen, ty_iald, ty_bald, ty_cald, ty_iast, ty_bast, ty_cast, ty_aald, ty_tald, ty_copy, ty_c1, ty_c2, ty_c3, ty_c4, ty_c5, ty_c6, ty_c7, ty_c8, ty_c9, ty_c10, ty_s0, ty_s1, ty_s2, ty_s3, ty_s4, ty_s5, ty_s6, List.mem_cons, List.not_mem_nil, or_false, false_or, or_true, true_or, and_true, true_and, and_self, Nat.reduceLT, Nat.reduceLeDiff, Nat.reduceEqDiff, Nat.reduceAdd, Nat.reduceSub, ↓reduceIte, reduceCtorEq, List.getElem?_cons_zero, List.getElem?_cons_succ, List.set_cons_zero, List.set_cons_succ, List.length_cons, List.length_nil, List.take_succ_cons, List.take_zero, List.drop_succ_cons, List.drop_zero, List.reverse_cons, List.reverse_nil, List.nil_append, List.cons_append, am_entry, List.map_cons, List.map_nil, List.replicate_zero, List.replicate_succ, List.append_nil, decide_eq_true_eq, eq_self, am_ty, am_nf, wf_1, wf_2, wa_1, wa_2, wa_3, wr_1, wr_2, wr_3, ac_91, h1, g1, h4, g4, h7, g7, v0, v2, w0, w2, h9, g9, ly_vi h9, ly_vi g9, o4, p4]
  rw [if_neg (nI_pos (by omega))]
  by_cases hl : i < nl (σ.2.1 (t + 2)) n
  case neg => rw [if_pos (nI_le (by omega) (by omega)), if_neg (fun q => hl q.1)]
  rw [if_neg (nI_ge hl (by omega)), if_neg (nI_pos (by omega))]
  by_cases hm : j < nl (σ.2.1 (u + 2)) m
  case neg => rw [if_pos (nI_le (by omega) (by omega)), if_neg (fun q => hm q.2.1)]
  rw [if_neg (nI_ge hm (by omega)), nI_clamp (by omega), nI_clamp (by omega), if_neg (by rintro (h | h); exact nI_pos (n := i) (by omega) h; omega), if_neg (by rintro (h | h); exact nI_pos (n := j) (by omega) h; omega), o7 i hl, p7 j hm]
  have r1 := sta_rise hl
  have r2 := sta_rise hm
  have r3 := sta_n (f := σ.2.1 (t + 2)) (n := n) (k := i + 1) hl
  have r4 := sta_n (f := σ.2.1 (u + 2)) (n := m) (k := j + 1) hm
  have q5 : ly_n (t + 1 + 1) = 2000 := h5
  have q6 : ly_n (u + 1 + 1) = 2000 := g5
  by_cases hq : hs (σ.2.1 (t + 2)) (sta (σ.2.1 (t + 2)) n i) (sta (σ.2.1 (t + 2)) n (i + 1) - sta (σ.2.1 (t + 2)) n i) = hs (σ.2.1 (u + 2)) (sta (σ.2.1 (u + 2)) m j) (sta (σ.2.1 (u + 2)) m (j + 1) - sta (σ.2.1 (u + 2)) m j)
  case neg =>
    rw [if_pos hq, if_neg (fun q => hq ?_)]
    have e := q.2.2
    unfold ln at e
    have el : sta (σ.2.1 (t + 2)) n (i + 1) - sta (σ.2.1 (t + 2)) n i = sta (σ.2.1 (u + 2)) m (j + 1) - sta (σ.2.1 (u + 2)) m j := by
      have := congrArg List.length e
      rw [slc_len, slc_len] at this
      exact this
    rw [el] at e ⊢
    exact hs_slc _ e
  rw [if_neg (fun q => q hq), sp_Text_startOf hT0 ok0 (Nat.le_of_lt hl)]
  dsimp only [am_push]
  rw [go_to []]; simp only [gs_u, fns_if, fns_nx, fns_no, fns_rt, fns_cl, am_fs, am_cd, am_NM, am_sz, am_code, am_step, am_ldc, am_bin, am_div, am_un, am_iload, am_aload, am_istore, am_astore, am_iinc, am_j1, am_j2, am_jr, am_dup, am_dup2, am_pop, am_ret, am_rt, am_rc, am_ml, am_slen, am_schr, am_m1, am_m2, ty_getf, ty_pi, ty_p0, ty_p1, ty_alen, ty_iald, ty_bald, ty_cald, ty_iast, ty_bast, ty_cast, ty_aald, ty_tald, ty_copy, ty_c1, ty_c2, ty_c3, ty_c4, ty_c5, ty_c6, ty_c7, ty_c8, ty_c9, ty_c10, ty_s0, ty_s1, ty_s2, ty_s3, ty_s4, ty_s5, ty_s6, List.mem_cons, List.not_mem_nil, or_false, false_or, or_true, true_or, and_true, true_and, and_self, Nat.reduceLT, Nat.reduceLeDiff, Nat.reduceEqDiff, Nat.reduceAdd, Nat.reduceSub, ↓reduceIte, reduceCtorEq, List.getElem?_cons_zero, List.getElem?_cons_succ, List.set_cons_zero, List.set_cons_succ, List.length_cons, List.length_nil, List.take_succ_cons, List.take_zero, List.drop_succ_cons, List.drop_zero, List.reverse_cons, List.reverse_nil, List.nil_append, List.cons_append, am_entry, List.map_cons, List.map_nil, List.replicate_zero, List.replicate_succ, List.append_nil, decide_eq_true_eq, eq_self, am_ty, am_nf, wf_1, wf_2, wa_1, wa_2, wa_3, wr_1, wr_2, wr_3, ac_91, h1, g1, h4, g4, h7, g7, v0, v2, w0, w2, h9, g9, ly_vi h9, ly_vi g9, o4, p4]
  rw [nI_1, sp_Text_startOf hT0 ok0 hl]
  dsimp only [am_push]
  rw [go_to []]; simp only [gs_u, fns_if, fns_nx, fns_no, fns_rt, fns_cl, am_fs, am_cd, am_NM, am_sz, am_code, am_step, am_ldc, am_bin, am_div, am_un, am_iload, am_aload, am_istore, am_astore, am_iinc, am_j1, am_j2, am_jr, am_dup, am_dup2, am_pop, am_ret, am_rt, am_rc, am_ml, am_slen, am_schr, am_m1, am_m2, ty_getf, ty_pi, ty_p0, ty_p1, ty_alen, ty_iald, ty_bald, ty_cald, ty_iast, ty_bast, ty_cast, ty_aald, ty_tald, ty_copy, ty_c1, ty_c2, ty_c3, ty_c4, ty_c5, ty_c6, ty_c7, ty_c8, ty_c9, ty_c10, ty_s0, ty_s1, ty_s2, ty_s3, ty_s4, ty_s5, ty_s6, List.mem_cons, List.not_mem_nil, or_false, false_or, or_true, true_or, and_true, true_and, and_self, Nat.reduceLT, Nat.reduceLeDiff, Nat.reduceEqDiff, Nat.reduceAdd, Nat.reduceSub, ↓reduceIte, reduceCtorEq, List.getElem?_cons_zero, List.getElem?_cons_succ, List.set_cons_zero, List.set_cons_succ, List.length_cons, List.length_nil, List.take_succ_cons, List.take_zero, List.drop_succ_cons, List.drop_zero, List.reverse_cons, List.reverse_nil, List.nil_append, List.cons_append, am_entry, List.map_cons, List.map_nil, List.replicate_zero, List.replicate_succ, List.append_nil, decide_eq_true_eq, eq_self, am_ty, am_nf, wf_1, wf_2, wa_1, wa_2, wa_3, wr_1, wr_2, wr_3, ac_91, h1, g1, h4, g4, h7, g7, v0, v2, w0, w2, h9, g9, ly_vi h9, ly_vi g9, o4, p4]
  rw [sp_Text_startOf hU0 oku0 (Nat.le_of_lt hm)]
  dsimp only [am_push]
  rw [go_to []]; simp only [gs_u, fns_if, fns_nx, fns_no, fns_rt, fns_cl, am_fs, am_cd, am_NM, am_sz, am_code, am_step, am_ldc, am_bin, am_div, am_un, am_iload, am_aload, am_istore, am_astore, am_iinc, am_j1, am_j2, am_jr, am_dup, am_dup2, am_pop, am_ret, am_rt, am_rc, am_ml, am_slen, am_schr, am_m1, am_m2, ty_getf, ty_pi, ty_p0, ty_p1, ty_alen, ty_iald, ty_bald, ty_cald, ty_iast, ty_bast, ty_cast, ty_aald, ty_tald, ty_copy, ty_c1, ty_c2, ty_c3, ty_c4, ty_c5, ty_c6, ty_c7, ty_c8, ty_c9, ty_c10, ty_s0, ty_s1, ty_s2, ty_s3, ty_s4, ty_s5, ty_s6, List.mem_cons, List.not_mem_nil, or_false, false_or, or_true, true_or, and_true, true_and, and_self, Nat.reduceLT, Nat.reduceLeDiff, Nat.reduceEqDiff, Nat.reduceAdd, Nat.reduceSub, ↓reduceIte, reduceCtorEq, List.getElem?_cons_zero, List.getElem?_cons_succ, List.set_cons_zero, List.set_cons_succ, List.length_cons, List.length_nil, List.take_succ_cons, List.take_zero, List.drop_succ_cons, List.drop_zero, List.reverse_cons, List.reverse_nil, List.nil_append, List.cons_append, am_entry, List.map_cons, List.map_nil, List.replicate_zero, List.replicate_succ, List.append_nil, decide_eq_true_eq, eq_self, am_ty, am_nf, wf_1, wf_2, wa_1, wa_2, wa_3, wr_1, wr_2, wr_3, ac_91, h1, g1, h4, g4, h7, g7, v0, v2, w0, w2, h9, g9, ly_vi h9, ly_vi g9, o4, p4]
  rw [nI_1, sp_Text_startOf hU0 oku0 hm]
  dsimp only [am_push]
  rw [go_to []]; simp only [gs_u, fns_if, fns_nx, fns_no, fns_rt, fns_cl, am_fs, am_cd, am_NM, am_sz, am_code, am_step, am_ldc, am_bin, am_div, am_un, am_iload, am_aload, am_istore, am_astore, am_iinc, am_j1, am_j2, am_jr, am_dup, am_dup2, am_pop, am_ret, am_rt, am_rc, am_ml, am_slen, am_schr, am_m1, am_m2, ty_getf, ty_pi, ty_p0, ty_p1, ty_alen, ty_iald, ty_bald, ty_cald, ty_iast, ty_bast, ty_cast, ty_aald, ty_tald, ty_copy, ty_c1, ty_c2, ty_c3, ty_c4, ty_c5, ty_c6, ty_c7, ty_c8, ty_c9, ty_c10, ty_s0, ty_s1, ty_s2, ty_s3, ty_s4, ty_s5, ty_s6, List.mem_cons, List.not_mem_nil, or_false, false_or, or_true, true_or, and_true, true_and, and_self, Nat.reduceLT, Nat.reduceLeDiff, Nat.reduceEqDiff, Nat.reduceAdd, Nat.reduceSub, ↓reduceIte, reduceCtorEq, List.getElem?_cons_zero, List.getElem?_cons_succ, List.set_cons_zero, List.set_cons_succ, List.length_cons, List.length_nil, List.take_succ_cons, List.take_zero, List.drop_succ_cons, List.drop_zero, List.reverse_cons, List.reverse_nil, List.nil_append, List.cons_append, am_entry, List.map_cons, List.map_nil, List.replicate_zero, List.replicate_succ, List.append_nil, decide_eq_true_eq, eq_self, am_ty, am_nf, wf_1, wf_2, wa_1, wa_2, wa_3, wr_1, wr_2, wr_3, ac_91, h1, g1, b1, h4, g4, h7, g7, v0, v2, w0, w2, h9, g9, ly_vi h9, ly_vi g9, o4, p4]
  rw [sp_Bytes_isAlike hB0 hC0 o1 p1 (by omega) (by omega) (by omega) (by omega) (by omega) r3 (by omega) r4]
  dsimp only [am_push]
  rw [go_to []]; simp only [gs_u, fns_if, fns_nx, fns_no, fns_rt, fns_cl, am_fs, am_cd, am_NM, am_sz, am_code, am_step, am_ldc, am_bin, am_div, am_un, am_iload, am_aload, am_istore, am_astore, am_iinc, am_j1, am_j2, am_jr, am_dup, am_dup2, am_pop, am_ret, am_rt, am_rc, am_ml, am_slen, am_schr, am_m1, am_m2, ty_getf, ty_pi, ty_p0, ty_p1, ty_alen, ty_iald, ty_bald, ty_cald, ty_iast, ty_bast, ty_cast, ty_aald, ty_tald, ty_copy, ty_c1, ty_c2, ty_c3, ty_c4, ty_c5, ty_c6, ty_c7, ty_c8, ty_c9, ty_c10, ty_s0, ty_s1, ty_s2, ty_s3, ty_s4, ty_s5, ty_s6, List.mem_cons, List.not_mem_nil, or_false, false_or, or_true, true_or, and_true, true_and, and_self, Nat.reduceLT, Nat.reduceLeDiff, Nat.reduceEqDiff, Nat.reduceAdd, Nat.reduceSub, ↓reduceIte, reduceCtorEq, List.getElem?_cons_zero, List.getElem?_cons_succ, List.set_cons_zero, List.set_cons_succ, List.length_cons, List.length_nil, List.take_succ_cons, List.take_zero, List.drop_succ_cons, List.drop_zero, List.reverse_cons, List.reverse_nil, List.nil_append, List.cons_append, am_entry, List.map_cons, List.map_nil, List.replicate_zero, List.replicate_succ, List.append_nil, decide_eq_true_eq, eq_self, am_ty, am_nf, wf_1, wf_2, wa_1, wa_2, wa_3, wr_1, wr_2, wr_3, ac_91, h1, g1, b1, h4, g4, h7, g7, v0, v2, w0, w2, h9, g9, ly_vi h9, ly_vi g9, o4, p4]
  by_cases he : ln σ t n i = ln σ u m j
  · have he2 := he
    unfold ln at he2
    rw [if_pos he2, if_neg (by decide), if_pos ⟨hl, hm, he⟩]
  · have he2 := he
    unfold ln at he2
    rw [if_neg he2, if_pos (by decide), if_neg (fun q => he q.2.2)]
end TX
