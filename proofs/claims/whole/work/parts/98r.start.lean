/-! the law's beginning: both are made, and then the loop -/
theorem hr_hp : hr 331 = hp sg0 := by
  funext b
  unfold hr
  by_cases z : b < 331
  · rw [if_pos z]
  · rw [if_neg z]
    have hc : ly_c b = 99 := by
      unfold ly_c
      rw [if_neg z]
    unfold hp
    rw [hc]
    rfl
theorem ib_nil : isb [] := fun i hi => absurd hi (Nat.not_lt_zero i)
theorem sg_1 {a k : Nat} (h : ¬ (a = 70 ∧ (k = 9 ∨ k = 10))) : sg0.1 a k = nI 0 := if_neg h
theorem no_0 {P : Nat → Prop} : ∀ i, i < 0 → P i := fun i hi => absurd hi (Nat.not_lt_zero i)
theorem RR_0 : RR 0 sg0 := by
  refine ⟨fun _ => [], [], [], ?_, ?_, ?_, ?_, ?_, ?_⟩
  · intro t ht
    have e : tA t = 30 + 5 * t := rfl
    refine ⟨⟨sg_1 (by omega), Nat.zero_le _, no_0, ib_nil, sg_1 (by omega), Nat.zero_le _, no_0, no_0⟩, ⟨ht, no_0, rfl, rfl, ?_, Nat.zero_le _, Nat.zero_le _, ib_nil⟩⟩
    intro k hk
    have z : k = 0 := Nat.le_zero.mp hk
    subst z
    rfl
  · exact ⟨⟨sg_1 (by omega), Nat.zero_le _, no_0, ib_nil⟩, sg_1 (by omega), ⟨rfl, Nat.zero_le _, by decide, no_0, ib_nil⟩, sg_1 (by omega)⟩
  · exact ⟨⟨sg_1 (by omega), Nat.zero_le _, no_0, ib_nil⟩, sg_1 (by omega), ⟨rfl, Nat.zero_le _, by decide, no_0, ib_nil⟩, sg_1 (by omega)⟩
  · exact ⟨fun _ => 0, 0, 0, by decide, by decide, rfl, rfl, fun t ht => ⟨Nat.le_refl 0, sg_1 (by omega)⟩, Or.inl rfl⟩
  · exact ⟨22, 26, 0, fun _ _ => 0, Or.inl ⟨rfl, rfl⟩, rfl, rfl, ⟨sg_1 (by omega), Nat.zero_le _, no_0, no_0, no_0⟩, sg_1 (by omega), no_0, no_0, no_0⟩
  · exact ⟨rfl, rfl⟩
theorem up_hr {M : Nat} {e : am_E} : am_up (hr M) M e = am_up (hr (M + 1)) M e := by
  rw [← hr_Bk M (Nat.zero_le _), up_up]
theorem nw_0 {pc : Nat} {ls : am_L} {st : List Value} : am_new 11 14 (am_df 11) pc ls st (0, 0, fun _ => am_no) = am_nx (pc + 3) ls (.ref 0 :: st) (1, 14, am_up (fun _ => am_no) 0 (.inr (11, am_df 11))) := rfl
theorem nw_80 {pc sl : Nat} {ls : am_L} {st : List Value} : am_new 12 52 (am_df 12) pc ls st (80, sl, hr 80) = am_nx (pc + 3) ls (.ref 80 :: st) (81, sl + 52, am_up (hr 81) 80 (.inr (12, am_df 12))) := by
  unfold am_new
  rw [up_hr]
set_option maxRecDepth 100000 in
set_option maxHeartbeats 8000000 in
theorem go_law {L : Nat} {xs : Nat → Int32} (hL : L ≤ 3072) : am_Go (L, xs, am_txt) 207 0 [some (.retAddr 0), none, none, none] [] (0, 0, fun _ => am_no) (fun v H => v = some (.int 1) ∧ ∃ υ, H = hh υ) := by
  rw [go_to [18]]; simp only [gs_u, fns_if, fns_nx, fns_no, fns_rt, fns_cl, am_fs, am_cd, am_NM, am_sz, am_code, am_step, am_ldc, am_bin, am_div, am_un, am_iload, am_aload, am_istore, am_astore, am_iinc, am_j1, am_j2, am_jr, am_dup, am_dup2, am_pop, am_ret, am_rt, am_rc, am_ml, am_slen, am_schr, am_m1, am_m2, ty_getf, ty_pi, ty_p0, ty_p1, ty_alen, ty_iald, ty_bald, ty_cald, ty_iast, ty_bast, ty_cast, ty_aald, ty_tald, ty_copy, ty_c1, ty_c2, ty_c3, ty_c4, ty_c5, ty_c6, ty_c7, ty_c8, ty_c9, ty_c10, ty_s0, ty_s1, ty_s2, ty_s3, ty_s4, ty_s5, ty_s6, List.mem_cons, List.not_mem_nil, or_false, false_or, or_true, true_or, and_true, true_and, and_self, Nat.reduceLT, Nat.reduceLeDiff, Nat.reduceEqDiff, Nat.add_eq_left, Nat.reduceAdd, Nat.reduceSub, ↓reduceIte, reduceCtorEq, List.getElem?_cons_zero, List.getElem?_cons_succ, List.set_cons_zero, List.set_cons_succ, List.length_cons, List.length_nil, List.take_succ_cons, List.take_zero, List.drop_succ_cons, List.drop_zero, List.reverse_cons, List.reverse_nil, List.nil_append, List.cons_append, am_entry, List.map_cons, List.map_nil, List.replicate_zero, List.replicate_succ, List.append_nil, decide_eq_true_eq, eq_self, am_ty, am_nf, wf_1, wf_2, wa_1, wa_2, wa_3, wr_1, wr_2, wr_3, ty_q0, ty_q1, ty_q2, i_if, and_false, false_and, ac_207, nw_0, ic_1]
  rw [in_DB]
  dsimp only [am_push]
  rw [go_to [18]]; simp only [gs_u, fns_if, fns_nx, fns_no, fns_rt, fns_cl, am_fs, am_cd, am_NM, am_sz, am_code, am_step, am_ldc, am_bin, am_div, am_un, am_iload, am_aload, am_istore, am_astore, am_iinc, am_j1, am_j2, am_jr, am_dup, am_dup2, am_pop, am_ret, am_rt, am_rc, am_ml, am_slen, am_schr, am_m1, am_m2, ty_getf, ty_pi, ty_p0, ty_p1, ty_alen, ty_iald, ty_bald, ty_cald, ty_iast, ty_bast, ty_cast, ty_aald, ty_tald, ty_copy, ty_c1, ty_c2, ty_c3, ty_c4, ty_c5, ty_c6, ty_c7, ty_c8, ty_c9, ty_c10, ty_s0, ty_s1, ty_s2, ty_s3, ty_s4, ty_s5, ty_s6, List.mem_cons, List.not_mem_nil, or_false, false_or, or_true, true_or, and_true, true_and, and_self, Nat.reduceLT, Nat.reduceLeDiff, Nat.reduceEqDiff, Nat.add_eq_left, Nat.reduceAdd, Nat.reduceSub, ↓reduceIte, reduceCtorEq, List.getElem?_cons_zero, List.getElem?_cons_succ, List.set_cons_zero, List.set_cons_succ, List.length_cons, List.length_nil, List.take_succ_cons, List.take_zero, List.drop_succ_cons, List.drop_zero, List.reverse_cons, List.reverse_nil, List.nil_append, List.cons_append, am_entry, List.map_cons, List.map_nil, List.replicate_zero, List.replicate_succ, List.append_nil, decide_eq_true_eq, eq_self, am_ty, am_nf, wf_1, wf_2, wa_1, wa_2, wa_3, wr_1, wr_2, wr_3, ty_q0, ty_q1, ty_q2, i_if, and_false, false_and, ac_207, nw_80, ic_1]
  rw [in_Mo]
  dsimp only [am_push]
  rw [go_to [18]]; simp only [gs_u, fns_if, fns_nx, fns_no, fns_rt, fns_cl, am_fs, am_cd, am_NM, am_sz, am_code, am_step, am_ldc, am_bin, am_div, am_un, am_iload, am_aload, am_istore, am_astore, am_iinc, am_j1, am_j2, am_jr, am_dup, am_dup2, am_pop, am_ret, am_rt, am_rc, am_ml, am_slen, am_schr, am_m1, am_m2, ty_getf, ty_pi, ty_p0, ty_p1, ty_alen, ty_iald, ty_bald, ty_cald, ty_iast, ty_bast, ty_cast, ty_aald, ty_tald, ty_copy, ty_c1, ty_c2, ty_c3, ty_c4, ty_c5, ty_c6, ty_c7, ty_c8, ty_c9, ty_c10, ty_s0, ty_s1, ty_s2, ty_s3, ty_s4, ty_s5, ty_s6, List.mem_cons, List.not_mem_nil, or_false, false_or, or_true, true_or, and_true, true_and, and_self, Nat.reduceLT, Nat.reduceLeDiff, Nat.reduceEqDiff, Nat.add_eq_left, Nat.reduceAdd, Nat.reduceSub, ↓reduceIte, reduceCtorEq, List.getElem?_cons_zero, List.getElem?_cons_succ, List.set_cons_zero, List.set_cons_succ, List.length_cons, List.length_nil, List.take_succ_cons, List.take_zero, List.drop_succ_cons, List.drop_zero, List.reverse_cons, List.reverse_nil, List.nil_append, List.cons_append, am_entry, List.map_cons, List.map_nil, List.replicate_zero, List.replicate_succ, List.append_nil, decide_eq_true_eq, eq_self, am_ty, am_nf, wf_1, wf_2, wa_1, wa_2, wa_3, wr_1, wr_2, wr_3, ty_q0, ty_q1, ty_q2, i_if, and_false, false_and, ac_207]
  rw [hr_hp]
  exact lp_law (X := (L, xs, am_txt)) rfl hL (L / 6) 0 sg0 (Nat.zero_add _) RR_0 (fun υ => ⟨rfl, υ, rfl⟩)
theorem am_law_run {L : Nat} {xs : Nat → Int32} (hL : L ≤ 3072) : ∃ n H', am_run am_p am_g (L, xs, am_txt) n am_law 0 (am_entry (am_ml am_law) [.retAddr 0]) [] (0, 0, fun _ => am_no) = some (some (.int 1), H') ∧ H'.1 ≤ 600000 ∧ H'.2.1 ≤ 7302250 := by
  obtain ⟨n, v, H', h, rfl, υ, rfl⟩ := go_law (xs := xs) hL
  exact ⟨n, hh υ, h, by show (331 : Nat) ≤ 600000; decide, by show (317893 : Nat) ≤ 7302250; decide⟩
