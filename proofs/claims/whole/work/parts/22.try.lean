set_option maxRecDepth 100000 in
set_option maxHeartbeats 4000000 in
theorem sp_Bytes_add {X : am_X} {n sl : Nat} {h : Nat → am_E} {Q : Option Value → am_H → Prop} {o r cap : Nat} {f : Nat → Int32} {len sp eo v : Int32} (ho : h o = .inr (1, [.ref r, .int len, .int sp, .int eo])) (hr : h r = .inl (.byte, cap, .inl f)) (hne : o ≠ r) (hq : Q none (n, sl, h)) : am_Go X 14 0 [some (.ref o), some (.int v)] [] (n, sl, h) Q := by
  rw [go_to []]
  simp only [gs_u, fns_if, fns_nx, fns_no, am_fs, am_cd, am_NM, am_sz, am_code, ac_14, am_step, am_bin, am_un, am_iload, am_aload, am_j1, am_j2, am_getf, am_putf, am_alen, am_ast, am_dup, am_ret, List.not_mem_nil, Nat.reduceLT, Nat.reduceEqDiff, Nat.reduceAdd, ↓reduceIte, ho, hr, List.getElem?_cons_zero, List.getElem?_cons_succ, decide_eq_true_eq, am_up, hne, hne.symm, am_ty]
  trace_state
  sorry
