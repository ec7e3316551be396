/-! the class's Script and its reader, as what they hold -/
def Sc (σ : am_M) (s : Sk) : Prop := σ.1 6 6 = nI s.1.1 ∧ σ.1 6 10 = nI s.2.1 ∧ rl (σ.2.1 7) (s.1.2 0) s.1.1 ∧ rl (σ.2.1 8) (s.1.2 1) s.1.1 ∧ rl (σ.2.1 9) (s.1.2 2) s.1.1 ∧ rl (σ.2.1 10) (s.1.2 3) s.1.1 ∧ rl (σ.2.1 11) (s.1.2 4) s.1.1 ∧ rl (σ.2.1 12) (s.2.2 0) s.2.1 ∧ rl (σ.2.1 13) (s.2.2 1) s.2.1 ∧ rl (σ.2.1 14) (s.2.2 2) s.2.1
theorem Sc_of {σ τ : am_M} {s : Sk} (h : Sc σ s) (h1 : ∀ k, τ.1 6 k = σ.1 6 k) (h2 : ∀ a, 7 ≤ a → a ≤ 14 → τ.2.1 a = σ.2.1 a) : Sc τ s := by
  obtain ⟨g1, g2, g3, g4, g5, g6, g7, g8, g9, g10⟩ := h
  refine ⟨by rw [h1, g1], by rw [h1, g2], ?_, ?_, ?_, ?_, ?_, ?_, ?_, ?_⟩
  · rw [h2 7 (by omega) (by omega)]; exact g3
  · rw [h2 8 (by omega) (by omega)]; exact g4
  · rw [h2 9 (by omega) (by omega)]; exact g5
  · rw [h2 10 (by omega) (by omega)]; exact g6
  · rw [h2 11 (by omega) (by omega)]; exact g7
  · rw [h2 12 (by omega) (by omega)]; exact g8
  · rw [h2 13 (by omega) (by omega)]; exact g9
  · rw [h2 14 (by omega) (by omega)]; exact g10
theorem Sc_fr {lo hi : Nat} {σ τ : am_M} {s : Sk} (h : Sc σ s) (hf : fr lo hi σ τ) (hd : 14 < lo ∨ hi < 6) : Sc τ s := Sc_of h (fun k => hf.1 6 k (by omega)) (fun a h1 h2 => hf.2.1 a (by omega))
/-- only the script's rows have changed, not its names -/
def frC (σ τ : am_M) : Prop := fr 6 14 σ τ ∧ ∀ j, 11 ≤ j → τ.1 6 j = σ.1 6 j
theorem frC_trans {σ τ υ : am_M} (h1 : frC σ τ) (h2 : frC τ υ) : frC σ υ := ⟨fr_trans h1.1 h2.1, fun j h => (h2.2 j h).trans (h1.2 j h)⟩
theorem frC_wf {σ : am_M} {k : Nat} {v : Int32} (h : k < 11) : frC σ (wf σ 6 k v) := ⟨fr_wf (by omega), fun j q => by simp only [wf]; rw [if_neg (by omega)]⟩
theorem frC_wa {σ : am_M} {a : Nat} {f : Nat → Int32} (h : 6 ≤ a ∧ a ≤ 14) : frC σ (wa σ a f) := ⟨fr_wa h, fun _ _ => rfl⟩
/-- only the script and the reader r have changed -/
def frS (r : Nat) (σ τ : am_M) : Prop := (∀ a k, (a < 6 ∨ 14 < a) → a ≠ r → τ.1 a k = σ.1 a k) ∧ (∀ a, a < 6 ∨ 14 < a → τ.2.1 a = σ.2.1 a) ∧ τ.2.2 = σ.2.2 ∧ (6 ≠ r → ∀ j, 11 ≤ j → τ.1 6 j = σ.1 6 j)
theorem frS_refl {r : Nat} {σ : am_M} : frS r σ σ := ⟨fun _ _ _ _ => rfl, fun _ _ => rfl, rfl, fun _ _ _ => rfl⟩
theorem frS_trans {r : Nat} {σ τ υ : am_M} (h1 : frS r σ τ) (h2 : frS r τ υ) : frS r σ υ := ⟨fun a k h q => (h2.1 a k h q).trans (h1.1 a k h q), fun a h => (h2.2.1 a h).trans (h1.2.1 a h), h2.2.2.1.trans h1.2.2.1, fun q j h => (h2.2.2.2 q j h).trans (h1.2.2.2 q j h)⟩
theorem frS_rd {σ : am_M} {r k a e : Nat} : frS r σ (rd σ r k a e) := ⟨fun _ _ _ q => rd_o q, fun _ _ => rfl, rfl, fun q _ _ => rd_o q⟩
theorem frS_s {r : Nat} {σ τ : am_M} (h : frC σ τ) : frS r σ τ := ⟨fun a k q _ => h.1.1 a k (by omega), fun a q => h.1.2.1 a (by omega), h.1.2.2, fun _ j q => h.2 j q⟩
theorem frS_fr {r : Nat} {σ τ : am_M} (h : frS r σ τ) (hr : 6 ≤ r ∧ r ≤ 18) : fr 6 18 σ τ := ⟨fun a k q => h.1 a k (by omega) (by omega), fun a q => h.2.1 a (by omega), h.2.2.1⟩
/-- the tape, the reader r at line k, at p, its end e, what was read -/
def St (r : Nat) (σ : am_M) (T : List Int32) (k p e : Nat) (s : Sk) : Prop := Bt σ 2 T ∧ σ.1 r 1 = nI k ∧ σ.1 r 2 = nI p ∧ σ.1 r 3 = nI e ∧ Sc σ s
theorem rd_self {σ : am_M} {r k p e : Nat} (h1 : σ.1 r 1 = nI k) (h2 : σ.1 r 2 = nI p) (h3 : σ.1 r 3 = nI e) : rd σ r k p e = σ := by
  refine mm_ext (fun b j => ?_) (fun b i => rfl) (fun j => rfl)
  simp only [rd, wf]
  by_cases h : b = r
  · subst h
    by_cases q1 : j = 1
    · simp [q1, h1]
    · by_cases q2 : j = 2
      · simp [q2, h2]
      · by_cases q3 : j = 3
        · simp [q3, h3]
        · simp [q1, q2, q3]
  · simp [h]
theorem St_rd {r : Nat} {σ : am_M} {T : List Int32} {k p e k2 p2 e2 : Nat} {s : Sk} (hr : is_R r) (h : St r σ T k p e s) : St r (rd σ r k2 p2 e2) T k2 p2 e2 s := ⟨rd_B hr h.1, rd_1, rd_2, rd_3, Sc_of h.2.2.2.2 (fun j => rd_o (by rcases hr.2.2.2.2.2 with q | q <;> omega)) (fun _ _ _ => rfl)⟩
theorem St_s {r : Nat} {σ τ : am_M} {T : List Int32} {k p e : Nat} {s u : Sk} (hr : is_R r) (h : St r σ T k p e s) (hf : frC σ τ) (hs : Sc τ u) : St r τ T k p e u := by
  have hr2 : 14 < r := by rcases hr.2.2.2.2.2 with q | q <;> omega
  exact ⟨Bt_fr h.1 hf.1 (by omega), by rw [hf.1.1 _ _ (by omega)]; exact h.2.1, by rw [hf.1.1 _ _ (by omega)]; exact h.2.2.1, by rw [hf.1.1 _ _ (by omega)]; exact h.2.2.2.1, hs⟩
theorem vp_ch : ∀ v, v < 128 → vp_nar .char (nI v) = nI v := by decide +kernel
section CR
variable {X : am_X} {σ : am_M} {r k p e : Nat} {T : List Int32} {s : Sk} {Q : Option Value → am_H → Prop}
theorem c_nextLine (hr : is_R r) (h : St r σ T k p (lsta T k) s) (hk : k ≤ lnum T) (h1 : whl T k → ∀ τ, St r τ T (k + 1) (lsta T k) (lsta T (k + 1)) s → frS r σ τ → Q (some (.int (nI 1))) (hh τ)) (h0 : ¬ whl T k → ∀ τ, St r τ T (k + 1) (lsta T k) (lsta T k) s → frS r σ τ → Q (some (.int (nI 0))) (hh τ)) : am_Go X 79 0 [some (.ref r), none] [] (hh σ) Q := by
  have e := rd_self h.2.1 h.2.2.1 h.2.2.2.1
  rw [← e, sx_nextLine hr h.1 hk]
  by_cases q : whl T k
  · rw [if_pos q]; exact h1 q _ (St_rd hr h) frS_rd
  · rw [if_neg q]; exact h0 q _ (St_rd hr h) frS_rd
theorem c_take {j : Nat} (hX : X.2.2 = am_txt) (hr : is_R r) (h : St r σ T k p e s) (hp : p < 2 ^ 29) (hj : (am_txt j).length < 2 ^ 29) (h1 : stn T j p → ∀ τ, St r τ T k (p + (am_txt j).length) e s → frS r σ τ → Q (some (.int (nI 1))) (hh τ)) (h0 : ¬ stn T j p → Q (some (.int (nI 0))) (hh σ)) : am_Go X 80 0 [some (.ref r), some (.retAddr (j + 1))] [] (hh σ) Q := by
  have q := rd_self h.2.1 h.2.2.1 h.2.2.2.1
  rw [← q, sx_take hX hr h.1 hp hj]
  by_cases z : stn T j p
  · rw [if_pos z]; exact h1 z _ (St_rd hr h) frS_rd
  · rw [if_neg z, q]; exact h0 z
theorem c_takeNumber (hr : is_R r) (h : St r σ T k p e s) (hp : p ≤ T.length) (h1 : ∀ τ, St r τ T k (p + nrun T 5 p) e s → frS r σ τ → Q (some (.int (tnR T p))) (hh τ)) : am_Go X 83 0 [some (.ref r), none, none, none] [] (hh σ) Q := by
  have q := rd_self h.2.1 h.2.2.1 h.2.2.2.1
  rw [← q]
  exact sx_takeNumber hr h.1 hp (h1 _ (St_rd hr h) frS_rd)
theorem c_takeMark (hX : X.2.2 = am_txt) (hr : is_R r) (h : St r σ T k p (lsta T k) s) (hk : k ≤ lnum T) (h1 : stn T 32 (lsta T k) → ∀ τ, St r τ T (k + 1) (lsta T k) (lsta T (k + 1)) s → frS r σ τ → Q (some (.int (nI 1))) (hh τ)) (h0 : ¬ stn T 32 (lsta T k) → Q (some (.int (nI 0))) (hh σ)) : am_Go X 82 0 [some (.ref r)] [] (hh σ) Q := by
  have q := rd_self h.2.1 h.2.2.1 h.2.2.2.1
  rw [← q, sx_takeMark hX hr h.1 hk]
  by_cases z : stn T 32 (lsta T k)
  · rw [if_pos z]; exact h1 z _ (St_rd hr h) frS_rd
  · rw [if_neg z, q]; exact h0 z
set_option maxRecDepth 100000 in
set_option maxHeartbeats 4000000 in
theorem c_takeLast {f : Int32} (hX : X.2.2 = am_txt) (hr : is_R r) (h : St r σ T k p e s) (hp : p ≤ T.length) (h1 : ∀ τ, St r τ T k (tlR T f p).2 e s → frS r σ τ → Q (some (.int (tlR T f p).1)) (hh τ)) : am_Go X 84 0 [some (.ref r), some (.int f), none] [] (hh σ) Q := by
  have hn : T.length ≤ 6000 := h.1.2.1
  have h33 : (am_txt 33).length = 1 := by decide +kernel
  have hr1 := hr.1
  rw [go_to []]; simp only [gs_u, fns_if, fns_nx, fns_no, fns_rt, fns_cl, am_fs, am_cd, am_NM, am_sz, am_code, am_step, am_ldc, am_bin, am_div, am_un, am_iload, am_aload, am_istore, am_astore, am_iinc, am_j1, am_j2, am_jr, am_dup, am_dup2, am_pop, am_ret, am_rt, am_rc, am_ml, am_slen, am_schr, am_m1, am_m2, ty_getf, ty_pi, ty_p0, ty_p1, ty_alen, ty_iald, ty_bald, ty_cald, ty_iast, ty_bast, ty_cast, ty_aald, ty_tald, ty_copy, ty_c1, ty_c2, ty_c3, ty_c4, ty_c5, ty_c6, ty_c7, ty_c8, ty_c9, ty_c10, ty_s0, ty_s1, ty_s2, ty_s3, ty_s4, ty_s5, ty_s6, List.mem_cons, List.not_mem_nil, or_false, false_or, or_true, true_or, and_true, true_and, and_self, Nat.reduceLT, Nat.reduceLeDiff, Nat.reduceEqDiff, Nat.add_eq_left, Nat.reduceAdd, Nat.reduceSub, ↓reduceIte, reduceCtorEq, List.getElem?_cons_zero, List.getElem?_cons_succ, List.set_cons_zero, List.set_cons_succ, List.length_cons, List.length_nil, List.take_succ_cons, List.take_zero, List.drop_succ_cons, List.drop_zero, List.reverse_cons, List.reverse_nil, List.nil_append, List.cons_append, am_entry, List.map_cons, List.map_nil, List.replicate_zero, List.replicate_succ, List.append_nil, decide_eq_true_eq, eq_self, am_ty, am_nf, wf_1, wf_2, wa_1, wa_2, wa_3, wr_1, wr_2, wr_3, ty_q0, ty_q1, ty_q2, i_if, and_false, false_and, ac_84, hr1]
  refine c_take (j := 33) hX hr h (by omega) (by omega) (fun z τ hτ hf => ?_) (fun z => ?_)
  · dsimp only [am_push]
    rw [go_to []]; simp only [gs_u, fns_if, fns_nx, fns_no, fns_rt, fns_cl, am_fs, am_cd, am_NM, am_sz, am_code, am_step, am_ldc, am_bin, am_div, am_un, am_iload, am_aload, am_istore, am_astore, am_iinc, am_j1, am_j2, am_jr, am_dup, am_dup2, am_pop, am_ret, am_rt, am_rc, am_ml, am_slen, am_schr, am_m1, am_m2, ty_getf, ty_pi, ty_p0, ty_p1, ty_alen, ty_iald, ty_bald, ty_cald, ty_iast, ty_bast, ty_cast, ty_aald, ty_tald, ty_copy, ty_c1, ty_c2, ty_c3, ty_c4, ty_c5, ty_c6, ty_c7, ty_c8, ty_c9, ty_c10, ty_s0, ty_s1, ty_s2, ty_s3, ty_s4, ty_s5, ty_s6, List.mem_cons, List.not_mem_nil, or_false, false_or, or_true, true_or, and_true, true_and, and_self, Nat.reduceLT, Nat.reduceLeDiff, Nat.reduceEqDiff, Nat.add_eq_left, Nat.reduceAdd, Nat.reduceSub, ↓reduceIte, reduceCtorEq, List.getElem?_cons_zero, List.getElem?_cons_succ, List.set_cons_zero, List.set_cons_succ, List.length_cons, List.length_nil, List.take_succ_cons, List.take_zero, List.drop_succ_cons, List.drop_zero, List.reverse_cons, List.reverse_nil, List.nil_append, List.cons_append, am_entry, List.map_cons, List.map_nil, List.replicate_zero, List.replicate_succ, List.append_nil, decide_eq_true_eq, eq_self, am_ty, am_nf, wf_1, wf_2, wa_1, wa_2, wa_3, wr_1, wr_2, wr_3, ty_q0, ty_q1, ty_q2, i_if, and_false, false_and, ac_84, hr1]
    simp (disch := first | omega | assumption) only [↓mI_i, li_0, li_1, li_2, li_3, li_4, li_5, li_6, li_7, li_8, li_9, li_10, li_16, li_20, li_24, li_31, li_32, li_43, li_44, li_45, li_46, li_48, li_57, li_62, li_64, li_97, li_99, li_100, li_200, li_201, li_202, li_255, li_401, li_500, li_2000, li_5980, li_6000, li_6002, li_9000, li_10000, li_20000, li_40401, li_100000, li_1000000, nI_leI, nI_ltI, nI_eq, mI_eq, mI_eq2, mI_lt, mI_le, mI_gt, mI_ge, nI_m1, nI_add, pk_sub, pk_mul, nI_clamp, bq0, bq1, ite_not, Classical.not_not, or_false, false_or, or_self, not_true_eq_false, not_false_eq_true, ↓reduceIte, ite_true, ite_false, true_or, or_true, and_true, true_and, ne_eq, if_pos, if_neg]
    rw [h33] at hτ
    have hz := z.1
    refine c_takeNumber hr hτ (by omega) (fun υ hυ hf2 => ?_)
    dsimp only [am_push]
    rw [go_to []]; simp only [gs_u, fns_if, fns_nx, fns_no, fns_rt, fns_cl, am_fs, am_cd, am_NM, am_sz, am_code, am_step, am_ldc, am_bin, am_div, am_un, am_iload, am_aload, am_istore, am_astore, am_iinc, am_j1, am_j2, am_jr, am_dup, am_dup2, am_pop, am_ret, am_rt, am_rc, am_ml, am_slen, am_schr, am_m1, am_m2, ty_getf, ty_pi, ty_p0, ty_p1, ty_alen, ty_iald, ty_bald, ty_cald, ty_iast, ty_bast, ty_cast, ty_aald, ty_tald, ty_copy, ty_c1, ty_c2, ty_c3, ty_c4, ty_c5, ty_c6, ty_c7, ty_c8, ty_c9, ty_c10, ty_s0, ty_s1, ty_s2, ty_s3, ty_s4, ty_s5, ty_s6, List.mem_cons, List.not_mem_nil, or_false, false_or, or_true, true_or, and_true, true_and, and_self, Nat.reduceLT, Nat.reduceLeDiff, Nat.reduceEqDiff, Nat.add_eq_left, Nat.reduceAdd, Nat.reduceSub, ↓reduceIte, reduceCtorEq, List.getElem?_cons_zero, List.getElem?_cons_succ, List.set_cons_zero, List.set_cons_succ, List.length_cons, List.length_nil, List.take_succ_cons, List.take_zero, List.drop_succ_cons, List.drop_zero, List.reverse_cons, List.reverse_nil, List.nil_append, List.cons_append, am_entry, List.map_cons, List.map_nil, List.replicate_zero, List.replicate_succ, List.append_nil, decide_eq_true_eq, eq_self, am_ty, am_nf, wf_1, wf_2, wa_1, wa_2, wa_3, wr_1, wr_2, wr_3, ty_q0, ty_q1, ty_q2, i_if, and_false, false_and, ac_84, hr1]
    simp (disch := first | omega | assumption) only [↓mI_i, li_0, li_1, li_2, li_3, li_4, li_5, li_6, li_7, li_8, li_9, li_10, li_16, li_20, li_24, li_31, li_32, li_43, li_44, li_45, li_46, li_48, li_57, li_62, li_64, li_97, li_99, li_100, li_200, li_201, li_202, li_255, li_401, li_500, li_2000, li_5980, li_6000, li_6002, li_9000, li_10000, li_20000, li_40401, li_100000, li_1000000, nI_leI, nI_ltI, nI_eq, mI_eq, mI_eq2, mI_lt, mI_le, mI_gt, mI_ge, nI_m1, nI_add, pk_sub, pk_mul, nI_clamp, bq0, bq1, ite_not, Classical.not_not, or_false, false_or, or_self, not_true_eq_false, not_false_eq_true, ↓reduceIte, ite_true, ite_false, true_or, or_true, and_true, true_and, ne_eq, if_pos, if_neg]
    unfold tlR at h1
    simp only [if_pos z] at h1
    by_cases y : f < tnR T (p + 1)
    · rw [if_pos y] at h1
      rw [if_neg (Int32.not_le.mpr y)]
      exact h1 υ hυ (frS_trans hf hf2)
    · rw [if_neg y] at h1
      rw [if_pos (Int32.not_lt.mp y)]
      exact h1 υ hυ (frS_trans hf hf2)
  · dsimp only [am_push]
    rw [go_to []]; simp only [gs_u, fns_if, fns_nx, fns_no, fns_rt, fns_cl, am_fs, am_cd, am_NM, am_sz, am_code, am_step, am_ldc, am_bin, am_div, am_un, am_iload, am_aload, am_istore, am_astore, am_iinc, am_j1, am_j2, am_jr, am_dup, am_dup2, am_pop, am_ret, am_rt, am_rc, am_ml, am_slen, am_schr, am_m1, am_m2, ty_getf, ty_pi, ty_p0, ty_p1, ty_alen, ty_iald, ty_bald, ty_cald, ty_iast, ty_bast, ty_cast, ty_aald, ty_tald, ty_copy, ty_c1, ty_c2, ty_c3, ty_c4, ty_c5, ty_c6, ty_c7, ty_c8, ty_c9, ty_c10, ty_s0, ty_s1, ty_s2, ty_s3, ty_s4, ty_s5, ty_s6, List.mem_cons, List.not_mem_nil, or_false, false_or, or_true, true_or, and_true, true_and, and_self, Nat.reduceLT, Nat.reduceLeDiff, Nat.reduceEqDiff, Nat.add_eq_left, Nat.reduceAdd, Nat.reduceSub, ↓reduceIte, reduceCtorEq, List.getElem?_cons_zero, List.getElem?_cons_succ, List.set_cons_zero, List.set_cons_succ, List.length_cons, List.length_nil, List.take_succ_cons, List.take_zero, List.drop_succ_cons, List.drop_zero, List.reverse_cons, List.reverse_nil, List.nil_append, List.cons_append, am_entry, List.map_cons, List.map_nil, List.replicate_zero, List.replicate_succ, List.append_nil, decide_eq_true_eq, eq_self, am_ty, am_nf, wf_1, wf_2, wa_1, wa_2, wa_3, wr_1, wr_2, wr_3, ty_q0, ty_q1, ty_q2, i_if, and_false, false_and, ac_84, hr1]
    simp (disch := first | omega | assumption) only [↓mI_i, li_0, li_1, li_2, li_3, li_4, li_5, li_6, li_7, li_8, li_9, li_10, li_16, li_20, li_24, li_31, li_32, li_43, li_44, li_45, li_46, li_48, li_57, li_62, li_64, li_97, li_99, li_100, li_200, li_201, li_202, li_255, li_401, li_500, li_2000, li_5980, li_6000, li_6002, li_9000, li_10000, li_20000, li_40401, li_100000, li_1000000, nI_leI, nI_ltI, nI_eq, mI_eq, mI_eq2, mI_lt, mI_le, mI_gt, mI_ge, nI_m1, nI_add, pk_sub, pk_mul, nI_clamp, bq0, bq1, ite_not, Classical.not_not, or_false, false_or, or_self, not_true_eq_false, not_false_eq_true, ↓reduceIte, ite_true, ite_false, true_or, or_true, and_true, true_and, ne_eq, if_pos, if_neg]
    unfold tlR at h1
    simp only [if_neg z] at h1
    exact h1 σ h frS_refl
set_option maxRecDepth 100000 in
set_option maxHeartbeats 4000000 in
theorem c_empty (hQ : ∀ τ, Sc τ sk0 → frC σ τ → Q none (hh τ)) : am_Go X 54 0 [some (.ref 6)] [] (hh σ) Q := by
  rw [go_to []]; simp only [gs_u, fns_if, fns_nx, fns_no, fns_rt, fns_cl, am_fs, am_cd, am_NM, am_sz, am_code, am_step, am_ldc, am_bin, am_div, am_un, am_iload, am_aload, am_istore, am_astore, am_iinc, am_j1, am_j2, am_jr, am_dup, am_dup2, am_pop, am_ret, am_rt, am_rc, am_ml, am_slen, am_schr, am_m1, am_m2, ty_getf, ty_pi, ty_p0, ty_p1, ty_alen, ty_iald, ty_bald, ty_cald, ty_iast, ty_bast, ty_cast, ty_aald, ty_tald, ty_copy, ty_c1, ty_c2, ty_c3, ty_c4, ty_c5, ty_c6, ty_c7, ty_c8, ty_c9, ty_c10, ty_s0, ty_s1, ty_s2, ty_s3, ty_s4, ty_s5, ty_s6, List.mem_cons, List.not_mem_nil, or_false, false_or, or_true, true_or, and_true, true_and, and_self, Nat.reduceLT, Nat.reduceLeDiff, Nat.reduceEqDiff, Nat.add_eq_left, Nat.reduceAdd, Nat.reduceSub, ↓reduceIte, reduceCtorEq, List.getElem?_cons_zero, List.getElem?_cons_succ, List.set_cons_zero, List.set_cons_succ, List.length_cons, List.length_nil, List.take_succ_cons, List.take_zero, List.drop_succ_cons, List.drop_zero, List.reverse_cons, List.reverse_nil, List.nil_append, List.cons_append, am_entry, List.map_cons, List.map_nil, List.replicate_zero, List.replicate_succ, List.append_nil, decide_eq_true_eq, eq_self, am_ty, am_nf, wf_1, wf_2, wa_1, wa_2, wa_3, wr_1, wr_2, wr_3, ty_q0, ty_q1, ty_q2, i_if, and_false, false_and, ac_54, aty6, kc_6, lv_6_0, lv_6_1, lv_6_2, lv_6_3, lv_6_4, lv_6_5, lv_6_6, li_6_6, lv_6_7, lv_6_8, lv_6_9, lv_6_10, li_6_10, lv_6_11, li_6_11, lv_6_12, li_6_12, lv_6_13, li_6_13, lv_6_14, li_6_14]
  refine hQ _ ?_ (frC_trans (frC_wf (by omega)) (frC_wf (by omega)))
  have n0 : ∀ (f : Nat → Int32) (g : Nat → Nat), rl f g 0 := fun f g i hi => absurd hi (Nat.not_lt_zero i)
  exact ⟨by simp [wf]; rfl, by simp [wf]; rfl, n0 _ _, n0 _ _, n0 _ _, n0 _ _, n0 _ _, n0 _ _, n0 _ _, n0 _ _⟩
set_option maxRecDepth 100000 in
set_option maxHeartbeats 4000000 in
theorem c_addCommand {a n b m : Nat} (h : Sc σ s) (hn : s.1.1 < 2000) (hQ : ∀ τ, Sc τ (addC s a n b m) → frC σ τ → Q none (hh τ)) : am_Go X 55 0 [some (.ref 6), some (.int (nI a)), some (.int (nI n)), some (.int (nI b)), some (.int (nI m))] [] (hh σ) Q := by
  obtain ⟨g1, g2, g3, g4, g5, g6, g7, g8, g9, g10⟩ := h
  rw [go_to []]; simp only [gs_u, fns_if, fns_nx, fns_no, fns_rt, fns_cl, am_fs, am_cd, am_NM, am_sz, am_code, am_step, am_ldc, am_bin, am_div, am_un, am_iload, am_aload, am_istore, am_astore, am_iinc, am_j1, am_j2, am_jr, am_dup, am_dup2, am_pop, am_ret, am_rt, am_rc, am_ml, am_slen, am_schr, am_m1, am_m2, ty_getf, ty_pi, ty_p0, ty_p1, ty_alen, ty_iald, ty_bald, ty_cald, ty_iast, ty_bast, ty_cast, ty_aald, ty_tald, ty_copy, ty_c1, ty_c2, ty_c3, ty_c4, ty_c5, ty_c6, ty_c7, ty_c8, ty_c9, ty_c10, ty_s0, ty_s1, ty_s2, ty_s3, ty_s4, ty_s5, ty_s6, List.mem_cons, List.not_mem_nil, or_false, false_or, or_true, true_or, and_true, true_and, and_self, Nat.reduceLT, Nat.reduceLeDiff, Nat.reduceEqDiff, Nat.add_eq_left, Nat.reduceAdd, Nat.reduceSub, ↓reduceIte, reduceCtorEq, List.getElem?_cons_zero, List.getElem?_cons_succ, List.set_cons_zero, List.set_cons_succ, List.length_cons, List.length_nil, List.take_succ_cons, List.take_zero, List.drop_succ_cons, List.drop_zero, List.reverse_cons, List.reverse_nil, List.nil_append, List.cons_append, am_entry, List.map_cons, List.map_nil, List.replicate_zero, List.replicate_succ, List.append_nil, decide_eq_true_eq, eq_self, am_ty, am_nf, wf_1, wf_2, wa_1, wa_2, wa_3, wr_1, wr_2, wr_3, ty_q0, ty_q1, ty_q2, i_if, and_false, false_and, ac_55, aty6, kc_6, lv_6_0, lv_6_1, lv_6_2, lv_6_3, lv_6_4, lv_6_5, lv_6_6, li_6_6, lv_6_7, lv_6_8, lv_6_9, lv_6_10, li_6_10, lv_6_11, li_6_11, lv_6_12, li_6_12, lv_6_13, li_6_13, lv_6_14, li_6_14, kc_7, kn_7, kc_8, kn_8, kc_9, kn_9, kc_10, kn_10, kc_11, kn_11, kc_12, kn_12, kc_13, kn_13, kc_14, kn_14, g1, g2]
  simp (disch := first | omega | assumption) only [↓mI_i, li_0, li_1, li_2, li_3, li_4, li_5, li_6, li_7, li_8, li_9, li_10, li_16, li_20, li_24, li_31, li_32, li_43, li_44, li_45, li_46, li_48, li_57, li_62, li_64, li_97, li_99, li_100, li_200, li_201, li_202, li_255, li_401, li_500, li_2000, li_5980, li_6000, li_6002, li_9000, li_10000, li_20000, li_40401, li_100000, li_1000000, nI_leI, nI_ltI, nI_eq, mI_eq, mI_eq2, mI_lt, mI_le, mI_gt, mI_ge, nI_m1, nI_add, pk_sub, pk_mul, nI_clamp, bq0, bq1, ite_not, Classical.not_not, or_false, false_or, or_self, not_true_eq_false, not_false_eq_true, ↓reduceIte, ite_true, ite_false, true_or, or_true, and_true, true_and, ne_eq, if_pos, if_neg]
  refine hQ _ ?_ (frC_trans (frC_trans (frC_trans (frC_trans (frC_trans (frC_wa (by omega)) (frC_wa (by omega))) (frC_wa (by omega))) (frC_wa (by omega))) (frC_wa (by omega))) (frC_wf (by omega)))
  refine ⟨by simp [wf, addC], by simpa [wf, wa, addC] using g2, ?_, ?_, ?_, ?_, ?_, ?_, ?_, ?_⟩
  · simp [wf, wa]
    exact rl_ext (v := a) g3
  · simp [wf, wa]
    exact rl_ext (v := n) g4
  · simp [wf, wa]
    exact rl_ext (v := b) g5
  · simp [wf, wa]
    exact rl_ext (v := m) g6
  · simp [wf, wa]
    exact rl_ext (v := s.2.1) g7
  · simp [wf, wa]
    exact g8
  · simp [wf, wa]
    exact g9
  · simp [wf, wa]
    exact g10
set_option maxRecDepth 100000 in
set_option maxHeartbeats 4000000 in
theorem c_addLine {c a b : Nat} (h : Sc σ s) (hn : s.2.1 < 6000) (hc : c < 128) (hQ : ∀ τ, Sc τ (addD s c a b) → frC σ τ → Q none (hh τ)) : am_Go X 56 0 [some (.ref 6), some (.int (nI c)), some (.int (nI a)), some (.int (nI b))] [] (hh σ) Q := by
  obtain ⟨g1, g2, g3, g4, g5, g6, g7, g8, g9, g10⟩ := h
  rw [go_to []]; simp only [gs_u, fns_if, fns_nx, fns_no, fns_rt, fns_cl, am_fs, am_cd, am_NM, am_sz, am_code, am_step, am_ldc, am_bin, am_div, am_un, am_iload, am_aload, am_istore, am_astore, am_iinc, am_j1, am_j2, am_jr, am_dup, am_dup2, am_pop, am_ret, am_rt, am_rc, am_ml, am_slen, am_schr, am_m1, am_m2, ty_getf, ty_pi, ty_p0, ty_p1, ty_alen, ty_iald, ty_bald, ty_cald, ty_iast, ty_bast, ty_cast, ty_aald, ty_tald, ty_copy, ty_c1, ty_c2, ty_c3, ty_c4, ty_c5, ty_c6, ty_c7, ty_c8, ty_c9, ty_c10, ty_s0, ty_s1, ty_s2, ty_s3, ty_s4, ty_s5, ty_s6, List.mem_cons, List.not_mem_nil, or_false, false_or, or_true, true_or, and_true, true_and, and_self, Nat.reduceLT, Nat.reduceLeDiff, Nat.reduceEqDiff, Nat.add_eq_left, Nat.reduceAdd, Nat.reduceSub, ↓reduceIte, reduceCtorEq, List.getElem?_cons_zero, List.getElem?_cons_succ, List.set_cons_zero, List.set_cons_succ, List.length_cons, List.length_nil, List.take_succ_cons, List.take_zero, List.drop_succ_cons, List.drop_zero, List.reverse_cons, List.reverse_nil, List.nil_append, List.cons_append, am_entry, List.map_cons, List.map_nil, List.replicate_zero, List.replicate_succ, List.append_nil, decide_eq_true_eq, eq_self, am_ty, am_nf, wf_1, wf_2, wa_1, wa_2, wa_3, wr_1, wr_2, wr_3, ty_q0, ty_q1, ty_q2, i_if, and_false, false_and, ac_56, aty6, kc_6, lv_6_0, lv_6_1, lv_6_2, lv_6_3, lv_6_4, lv_6_5, lv_6_6, li_6_6, lv_6_7, lv_6_8, lv_6_9, lv_6_10, li_6_10, lv_6_11, li_6_11, lv_6_12, li_6_12, lv_6_13, li_6_13, lv_6_14, li_6_14, kc_7, kn_7, kc_8, kn_8, kc_9, kn_9, kc_10, kn_10, kc_11, kn_11, kc_12, kn_12, kc_13, kn_13, kc_14, kn_14, g1, g2]
  simp (disch := first | omega | assumption) only [↓mI_i, li_0, li_1, li_2, li_3, li_4, li_5, li_6, li_7, li_8, li_9, li_10, li_16, li_20, li_24, li_31, li_32, li_43, li_44, li_45, li_46, li_48, li_57, li_62, li_64, li_97, li_99, li_100, li_200, li_201, li_202, li_255, li_401, li_500, li_2000, li_5980, li_6000, li_6002, li_9000, li_10000, li_20000, li_40401, li_100000, li_1000000, nI_leI, nI_ltI, nI_eq, mI_eq, mI_eq2, mI_lt, mI_le, mI_gt, mI_ge, nI_m1, nI_add, pk_sub, pk_mul, nI_clamp, bq0, bq1, ite_not, Classical.not_not, or_false, false_or, or_self, not_true_eq_false, not_false_eq_true, ↓reduceIte, ite_true, ite_false, true_or, or_true, and_true, true_and, ne_eq, if_pos, if_neg, vp_ch c hc]
  refine hQ _ ?_ (frC_trans (frC_trans (frC_trans (frC_wa (by omega)) (frC_wa (by omega))) (frC_wa (by omega))) (frC_wf (by omega)))
  refine ⟨by simpa [wf, wa, addD] using g1, by simp [wf, addD], ?_, ?_, ?_, ?_, ?_, ?_, ?_, ?_⟩
  · simp [wf, wa]
    exact g3
  · simp [wf, wa]
    exact g4
  · simp [wf, wa]
    exact g5
  · simp [wf, wa]
    exact g6
  · simp [wf, wa]
    exact g7
  · simp [wf, wa]
    exact rl_ext (v := c) g8
  · simp [wf, wa]
    exact rl_ext (v := a) g9
  · simp [wf, wa]
    exact rl_ext (v := b) g10
set_option maxRecDepth 100000 in
set_option maxHeartbeats 4000000 in
theorem c_openLast (h : Sc σ s) (hn : 0 < s.2.1) (hn2 : s.2.1 ≤ 6000) (h1 : 1 ≤ s.2.2 2 (s.2.1 - 1)) (hQ : ∀ τ, Sc τ (opD s) → frC σ τ → Q none (hh τ)) : am_Go X 57 0 [some (.ref 6)] [] (hh σ) Q := by
  obtain ⟨g1, g2, g3, g4, g5, g6, g7, g8, g9, g10⟩ := h
  have g := g10 (s.2.1 - 1) (by omega)
  rw [go_to []]; simp only [gs_u, fns_if, fns_nx, fns_no, fns_rt, fns_cl, am_fs, am_cd, am_NM, am_sz, am_code, am_step, am_ldc, am_bin, am_div, am_un, am_iload, am_aload, am_istore, am_astore, am_iinc, am_j1, am_j2, am_jr, am_dup, am_dup2, am_pop, am_ret, am_rt, am_rc, am_ml, am_slen, am_schr, am_m1, am_m2, ty_getf, ty_pi, ty_p0, ty_p1, ty_alen, ty_iald, ty_bald, ty_cald, ty_iast, ty_bast, ty_cast, ty_aald, ty_tald, ty_copy, ty_c1, ty_c2, ty_c3, ty_c4, ty_c5, ty_c6, ty_c7, ty_c8, ty_c9, ty_c10, ty_s0, ty_s1, ty_s2, ty_s3, ty_s4, ty_s5, ty_s6, List.mem_cons, List.not_mem_nil, or_false, false_or, or_true, true_or, and_true, true_and, and_self, Nat.reduceLT, Nat.reduceLeDiff, Nat.reduceEqDiff, Nat.add_eq_left, Nat.reduceAdd, Nat.reduceSub, ↓reduceIte, reduceCtorEq, List.getElem?_cons_zero, List.getElem?_cons_succ, List.set_cons_zero, List.set_cons_succ, List.length_cons, List.length_nil, List.take_succ_cons, List.take_zero, List.drop_succ_cons, List.drop_zero, List.reverse_cons, List.reverse_nil, List.nil_append, List.cons_append, am_entry, List.map_cons, List.map_nil, List.replicate_zero, List.replicate_succ, List.append_nil, decide_eq_true_eq, eq_self, am_ty, am_nf, wf_1, wf_2, wa_1, wa_2, wa_3, wr_1, wr_2, wr_3, ty_q0, ty_q1, ty_q2, i_if, and_false, false_and, ac_57, kc_6, lv_6_0, lv_6_1, lv_6_2, lv_6_3, lv_6_4, lv_6_5, lv_6_6, li_6_6, lv_6_7, lv_6_8, lv_6_9, lv_6_10, li_6_10, lv_6_11, li_6_11, lv_6_12, li_6_12, lv_6_13, li_6_13, lv_6_14, li_6_14, kc_7, kn_7, kc_8, kn_8, kc_9, kn_9, kc_10, kn_10, kc_11, kn_11, kc_12, kn_12, kc_13, kn_13, kc_14, kn_14, g1, g2]
  simp (disch := first | omega | assumption) only [↓mI_i, li_0, li_1, li_2, li_3, li_4, li_5, li_6, li_7, li_8, li_9, li_10, li_16, li_20, li_24, li_31, li_32, li_43, li_44, li_45, li_46, li_48, li_57, li_62, li_64, li_97, li_99, li_100, li_200, li_201, li_202, li_255, li_401, li_500, li_2000, li_5980, li_6000, li_6002, li_9000, li_10000, li_20000, li_40401, li_100000, li_1000000, nI_leI, nI_ltI, nI_eq, mI_eq, mI_eq2, mI_lt, mI_le, mI_gt, mI_ge, nI_m1, nI_add, pk_sub, pk_mul, nI_clamp, bq0, bq1, ite_not, Classical.not_not, or_false, false_or, or_self, not_true_eq_false, not_false_eq_true, ↓reduceIte, ite_true, ite_false, true_or, or_true, and_true, true_and, ne_eq, if_pos, if_neg, g]
  refine hQ _ ?_ (frC_wa (by omega))
  refine ⟨by simpa [wf, wa, opD] using g1, by simpa [wf, wa, opD] using g2, ?_, ?_, ?_, ?_, ?_, ?_, ?_, ?_⟩
  · simp [wf, wa]
    exact g3
  · simp [wf, wa]
    exact g4
  · simp [wf, wa]
    exact g5
  · simp [wf, wa]
    exact g6
  · simp [wf, wa]
    exact g7
  · simp [wf, wa]
    exact g8
  · simp [wf, wa]
    exact g9
  · have e : (opD s).2.2 2 = upn (s.2.2 2) (s.2.1 - 1) (s.2.2 2 (s.2.1 - 1) - 1) := by
      funext x
      unfold upn
      show (if 2 = 2 ∧ x + 1 = s.2.1 then s.2.2 2 x - 1 else s.2.2 2 x) = _
      by_cases q : x = s.2.1 - 1
      · rw [if_pos ⟨rfl, by omega⟩, if_pos q, q]
      · rw [if_neg (fun z => q (by omega)), if_neg q]
    rw [e]
    simp [wf, wa]
    exact rl_upd (m := s.2.1 - 1) (v := s.2.2 2 (s.2.1 - 1) - 1) g10
end CR
