/-! the reference's constructor -/
theorem h_mna {M N K sl pc : Nat} {n k : Int32} {ty : FieldType} {ls : am_L} {r : List Value} {o : am_E} (hM : 80 < M) (hn : n.toNatClampNeg = N) (hk : k.toNatClampNeg = K) (hc : ¬ (n < 0 ∨ 100000 < n ∨ k < 0 ∨ 100000 < k)) (he : hp sg0 M = .inl (.array ty, N, .inr (fun i => if i < N then some (M + 1 + i) else none))) (hrow : ∀ i, i < N → hp sg0 (M + 1 + i) = .inl (ty, K, .inl (fun _ => 0))) : am_mna ty pc ls (.int k :: .int n :: r) (M, sl, am_up (hr M) 80 o) = am_nx (pc + 4) ls (.ref M :: r) (M + 1 + N, sl + N + N * K, am_up (hr (M + 1 + N)) 80 o) := by
  unfold am_mna
  dsimp only
  rw [if_neg hc, hn, hk]
  have e : (fun b => if b = M then (.inl (.array ty, N, .inr (fun i => if i < N then some (M + 1 + i) else none)) : am_E) else if M < b ∧ b < M + 1 + N then .inl (ty, K, .inl (fun _ => 0)) else am_up (hr M) 80 o b) = am_up (hr (M + 1 + N)) 80 o := by
    funext b
    by_cases y : b = M
    · rw [if_pos y, up_n (by omega)]
      unfold hr
      rw [if_pos (by omega), y, he]
    · rw [if_neg y]
      by_cases x : M < b ∧ b < M + 1 + N
      · rw [if_pos x, up_n (by omega)]
        unfold hr
        have := hrow (b - M - 1) (by omega)
        rw [show M + 1 + (b - M - 1) = b by omega] at this
        rw [if_pos x.2, this]
      · rw [if_neg x]
        unfold am_up hr
        by_cases w : b = 80
        · rw [if_pos w, if_pos w]
        · rw [if_neg w, if_neg w]
          by_cases u : b < M
          · rw [if_pos u, if_pos (by omega)]
          · rw [if_neg u, if_neg (by omega)]
  rw [e]
section MI
variable {X : am_X} {sl : Nat} {Q : Option Value → am_H → Prop}
set_option maxRecDepth 100000 in
set_option maxHeartbeats 32000000 in
theorem in_Mo : am_Go X 127 0 [some (.ref 80)] [] (81, sl, am_up (hr 81) 80 (.inr (12, am_df 12))) Q = Q none (331, sl + 197863, hr 331) := by
  have m81 := fun {sl pc : Nat} {ls : am_L} {r : List Value} {o : am_E} => h_mna (sl := sl) (pc := pc) (ls := ls) (r := r) (o := o) (M := 81) (N := 8) (K := 2000) (n := 8) (k := 2000) (ty := .byte) (by decide) (by decide) (by decide) (by decide) rfl (fun i hi => by obtain ⟨c1, c2, c3, c4⟩ := mt_c i hi; rw [show 81 + 1 + i = 82 + i by omega, hp_byte c1, c2]; rfl)
  have m92 := fun {sl pc : Nat} {ls : am_L} {r : List Value} {o : am_E} => h_mna (sl := sl) (pc := pc) (ls := ls) (r := r) (o := o) (M := 92) (N := 8) (K := 202) (n := 8) (k := 202) (ty := .int) (by decide) (by decide) (by decide) (by decide) rfl (fun i hi => by obtain ⟨c1, c2, c3, c4⟩ := mt_c i hi; rw [show 92 + 1 + i = 93 + i by omega, hp_int c3, c4]; rfl)
  have m103 := fun {sl pc : Nat} {ls : am_L} {r : List Value} {o : am_E} => h_mna (sl := sl) (pc := pc) (ls := ls) (r := r) (o := o) (M := 103) (N := 202) (K := 202) (n := 202) (k := 202) (ty := .int) (by decide) (by decide) (by decide) (by decide) rfl (fun i hi => by obtain ⟨c1, c2⟩ := row_c i hi; rw [show 103 + 1 + i = 104 + i by omega, hp_int c1, c2]; rfl)
  have n90 := fun {pc sl : Nat} {ls : am_L} {r : List Value} {o : am_E} => bk_newa (pc := pc) (sl := sl) (ls := ls) (r := r) (o := o) (a := 80) (M := 90) (ty := .int) (w := 8) (len := 8) hr_Bk (Nat.zero_le _) (by decide) (by decide) (by decide) rfl
  have n91 := fun {pc sl : Nat} {ls : am_L} {r : List Value} {o : am_E} => bk_newa (pc := pc) (sl := sl) (ls := ls) (r := r) (o := o) (a := 80) (M := 91) (ty := .int) (w := 8) (len := 8) hr_Bk (Nat.zero_le _) (by decide) (by decide) (by decide) rfl
  have n101 := fun {pc sl : Nat} {ls : am_L} {r : List Value} {o : am_E} => bk_newa (pc := pc) (sl := sl) (ls := ls) (r := r) (o := o) (a := 80) (M := 101) (ty := .byte) (w := 6000) (len := 6000) hr_Bk (Nat.zero_le _) (by decide) (by decide) (by decide) rfl
  have n102 := fun {pc sl : Nat} {ls : am_L} {r : List Value} {o : am_E} => bk_newa (pc := pc) (sl := sl) (ls := ls) (r := r) (o := o) (a := 80) (M := 102) (ty := .byte) (w := 20000) (len := 20000) hr_Bk (Nat.zero_le _) (by decide) (by decide) (by decide) rfl
  have n306 := fun {pc sl : Nat} {ls : am_L} {r : List Value} {o : am_E} => bk_newa (pc := pc) (sl := sl) (ls := ls) (r := r) (o := o) (a := 80) (M := 306) (ty := .int) (w := 201) (len := 201) hr_Bk (Nat.zero_le _) (by decide) (by decide) (by decide) rfl
  have n307 := fun {pc sl : Nat} {ls : am_L} {r : List Value} {o : am_E} => bk_newa (pc := pc) (sl := sl) (ls := ls) (r := r) (o := o) (a := 80) (M := 307) (ty := .int) (w := 401) (len := 401) hr_Bk (Nat.zero_le _) (by decide) (by decide) (by decide) rfl
  have n308 := fun {pc sl : Nat} {ls : am_L} {r : List Value} {o : am_E} => bk_newa (pc := pc) (sl := sl) (ls := ls) (r := r) (o := o) (a := 80) (M := 308) (ty := .int) (w := 401) (len := 401) hr_Bk (Nat.zero_le _) (by decide) (by decide) (by decide) rfl
  have n309 := fun {pc sl : Nat} {ls : am_L} {r : List Value} {o : am_E} => bk_newa (pc := pc) (sl := sl) (ls := ls) (r := r) (o := o) (a := 80) (M := 309) (ty := .int) (w := 401) (len := 401) hr_Bk (Nat.zero_le _) (by decide) (by decide) (by decide) rfl
  have n310 := fun {pc sl : Nat} {ls : am_L} {r : List Value} {o : am_E} => bk_newa (pc := pc) (sl := sl) (ls := ls) (r := r) (o := o) (a := 80) (M := 310) (ty := .int) (w := 401) (len := 401) hr_Bk (Nat.zero_le _) (by decide) (by decide) (by decide) rfl
  have n311 := fun {pc sl : Nat} {ls : am_L} {r : List Value} {o : am_E} => bk_newa (pc := pc) (sl := sl) (ls := ls) (r := r) (o := o) (a := 80) (M := 311) (ty := .int) (w := 6002) (len := 6002) hr_Bk (Nat.zero_le _) (by decide) (by decide) (by decide) rfl
  have n312 := fun {pc sl : Nat} {ls : am_L} {r : List Value} {o : am_E} => bk_newa (pc := pc) (sl := sl) (ls := ls) (r := r) (o := o) (a := 80) (M := 312) (ty := .int) (w := 6000) (len := 6000) hr_Bk (Nat.zero_le _) (by decide) (by decide) (by decide) rfl
  have n313 := fun {pc sl : Nat} {ls : am_L} {r : List Value} {o : am_E} => bk_newa (pc := pc) (sl := sl) (ls := ls) (r := r) (o := o) (a := 80) (M := 313) (ty := .int) (w := 6000) (len := 6000) hr_Bk (Nat.zero_le _) (by decide) (by decide) (by decide) rfl
  have n314 := fun {pc sl : Nat} {ls : am_L} {r : List Value} {o : am_E} => bk_newa (pc := pc) (sl := sl) (ls := ls) (r := r) (o := o) (a := 80) (M := 314) (ty := .int) (w := 6000) (len := 6000) hr_Bk (Nat.zero_le _) (by decide) (by decide) (by decide) rfl
  have n315 := fun {pc sl : Nat} {ls : am_L} {r : List Value} {o : am_E} => bk_newa (pc := pc) (sl := sl) (ls := ls) (r := r) (o := o) (a := 80) (M := 315) (ty := .int) (w := 6000) (len := 6000) hr_Bk (Nat.zero_le _) (by decide) (by decide) (by decide) rfl
  have n316 := fun {pc sl : Nat} {ls : am_L} {r : List Value} {o : am_E} => bk_newa (pc := pc) (sl := sl) (ls := ls) (r := r) (o := o) (a := 80) (M := 316) (ty := .int) (w := 6000) (len := 6000) hr_Bk (Nat.zero_le _) (by decide) (by decide) (by decide) rfl
  have n317 := fun {pc sl : Nat} {ls : am_L} {r : List Value} {o : am_E} => bk_newa (pc := pc) (sl := sl) (ls := ls) (r := r) (o := o) (a := 80) (M := 317) (ty := .int) (w := 6000) (len := 6000) hr_Bk (Nat.zero_le _) (by decide) (by decide) (by decide) rfl
  have n318 := fun {pc sl : Nat} {ls : am_L} {r : List Value} {o : am_E} => bk_newa (pc := pc) (sl := sl) (ls := ls) (r := r) (o := o) (a := 80) (M := 318) (ty := .int) (w := 6000) (len := 6000) hr_Bk (Nat.zero_le _) (by decide) (by decide) (by decide) rfl
  have n319 := fun {pc sl : Nat} {ls : am_L} {r : List Value} {o : am_E} => bk_newa (pc := pc) (sl := sl) (ls := ls) (r := r) (o := o) (a := 80) (M := 319) (ty := .int) (w := 6000) (len := 6000) hr_Bk (Nat.zero_le _) (by decide) (by decide) (by decide) rfl
  have n320 := fun {pc sl : Nat} {ls : am_L} {r : List Value} {o : am_E} => bk_newa (pc := pc) (sl := sl) (ls := ls) (r := r) (o := o) (a := 80) (M := 320) (ty := .int) (w := 6000) (len := 6000) hr_Bk (Nat.zero_le _) (by decide) (by decide) (by decide) rfl
  have n321 := fun {pc sl : Nat} {ls : am_L} {r : List Value} {o : am_E} => bk_newa (pc := pc) (sl := sl) (ls := ls) (r := r) (o := o) (a := 80) (M := 321) (ty := .int) (w := 6000) (len := 6000) hr_Bk (Nat.zero_le _) (by decide) (by decide) (by decide) rfl
  have n322 := fun {pc sl : Nat} {ls : am_L} {r : List Value} {o : am_E} => bk_newa (pc := pc) (sl := sl) (ls := ls) (r := r) (o := o) (a := 80) (M := 322) (ty := .byte) (w := 9000) (len := 9000) hr_Bk (Nat.zero_le _) (by decide) (by decide) (by decide) rfl
  have n323 := fun {pc sl : Nat} {ls : am_L} {r : List Value} {o : am_E} => bk_newa (pc := pc) (sl := sl) (ls := ls) (r := r) (o := o) (a := 80) (M := 323) (ty := .int) (w := 6000) (len := 6000) hr_Bk (Nat.zero_le _) (by decide) (by decide) (by decide) rfl
  have n324 := fun {pc sl : Nat} {ls : am_L} {r : List Value} {o : am_E} => bk_newa (pc := pc) (sl := sl) (ls := ls) (r := r) (o := o) (a := 80) (M := 324) (ty := .int) (w := 6000) (len := 6000) hr_Bk (Nat.zero_le _) (by decide) (by decide) (by decide) rfl
  have n325 := fun {pc sl : Nat} {ls : am_L} {r : List Value} {o : am_E} => bk_newa (pc := pc) (sl := sl) (ls := ls) (r := r) (o := o) (a := 80) (M := 325) (ty := .int) (w := 6000) (len := 6000) hr_Bk (Nat.zero_le _) (by decide) (by decide) (by decide) rfl
  have n326 := fun {pc sl : Nat} {ls : am_L} {r : List Value} {o : am_E} => bk_newa (pc := pc) (sl := sl) (ls := ls) (r := r) (o := o) (a := 80) (M := 326) (ty := .int) (w := 6000) (len := 6000) hr_Bk (Nat.zero_le _) (by decide) (by decide) (by decide) rfl
  have n327 := fun {pc sl : Nat} {ls : am_L} {r : List Value} {o : am_E} => bk_newa (pc := pc) (sl := sl) (ls := ls) (r := r) (o := o) (a := 80) (M := 327) (ty := .int) (w := 6000) (len := 6000) hr_Bk (Nat.zero_le _) (by decide) (by decide) (by decide) rfl
  have n328 := fun {pc sl : Nat} {ls : am_L} {r : List Value} {o : am_E} => bk_newa (pc := pc) (sl := sl) (ls := ls) (r := r) (o := o) (a := 80) (M := 328) (ty := .int) (w := 6000) (len := 6000) hr_Bk (Nat.zero_le _) (by decide) (by decide) (by decide) rfl
  have n329 := fun {pc sl : Nat} {ls : am_L} {r : List Value} {o : am_E} => bk_newa (pc := pc) (sl := sl) (ls := ls) (r := r) (o := o) (a := 80) (M := 329) (ty := .int) (w := 201) (len := 201) hr_Bk (Nat.zero_le _) (by decide) (by decide) (by decide) rfl
  have n330 := fun {pc sl : Nat} {ls : am_L} {r : List Value} {o : am_E} => bk_newa (pc := pc) (sl := sl) (ls := ls) (r := r) (o := o) (a := 80) (M := 330) (ty := .int) (w := 201) (len := 201) hr_Bk (Nat.zero_le _) (by decide) (by decide) (by decide) rfl
  have fin : am_up (hr 331) 80 _ = hr 331 := Bk_self (M := 331) hr_Bk (Nat.zero_le _) (by decide) rfl
  rw [go_to []]; simp only [gs_u, fns_if, fns_nx, fns_no, fns_rt, fns_cl, am_fs, am_cd, am_NM, am_sz, am_code, am_step, am_ldc, am_bin, am_div, am_un, am_iload, am_aload, am_istore, am_astore, am_iinc, am_j1, am_j2, am_jr, am_dup, am_dup2, am_pop, am_ret, am_rt, am_rc, am_ml, am_slen, am_schr, am_m1, am_m2, ty_getf, ty_pi, ty_p0, ty_p1, ty_alen, ty_iald, ty_bald, ty_cald, ty_iast, ty_bast, ty_cast, ty_aald, ty_tald, ty_copy, ty_c1, ty_c2, ty_c3, ty_c4, ty_c5, ty_c6, ty_c7, ty_c8, ty_c9, ty_c10, ty_s0, ty_s1, ty_s2, ty_s3, ty_s4, ty_s5, ty_s6, List.mem_cons, List.not_mem_nil, or_false, false_or, or_true, true_or, and_true, true_and, and_self, Nat.reduceLT, Nat.reduceLeDiff, Nat.reduceEqDiff, Nat.add_eq_left, Nat.reduceAdd, Nat.reduceSub, ↓reduceIte, reduceCtorEq, List.getElem?_cons_zero, List.getElem?_cons_succ, List.set_cons_zero, List.set_cons_succ, List.length_cons, List.length_nil, List.take_succ_cons, List.take_zero, List.drop_succ_cons, List.drop_zero, List.reverse_cons, List.reverse_nil, List.nil_append, List.cons_append, am_entry, List.map_cons, List.map_nil, List.replicate_zero, List.replicate_succ, List.append_nil, decide_eq_true_eq, eq_self, am_ty, am_nf, wf_1, wf_2, wa_1, wa_2, wa_3, wr_1, wr_2, wr_3, ty_q0, ty_q1, ty_q2, i_if, and_false, false_and, ac_127, aty12, ip_oi, ip_put, am_fit, am_df, m81, m92, m103, n90, n91, n101, n102, n306, n307, n308, n309, n310, n311, n312, n313, n314, n315, n316, n317, n318, n319, n320, n321, n322, n323, n324, n325, n326, n327, n328, n329, n330]
  exact q_eq (by omega) fin
end MI
