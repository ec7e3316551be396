/-! the constructors: a heap that is half made -/
def sg0 : am_M := (fun a k => if a = 70 ∧ (k = 9 ∨ k = 10) then -1 else 0, fun _ _ => 0, fun j => if j = 0 then 22 else if j = 1 then 26 else 30)
theorem up_s {h : Nat → am_E} {a : Nat} {e : am_E} : am_up h a e a = e := if_pos rfl
theorem up_n {h : Nat → am_E} {a b : Nat} {e : am_E} (hb : b ≠ a) : am_up h a e b = h b := if_neg hb
theorem up_up {h : Nat → am_E} {a : Nat} {e e' : am_E} : am_up (am_up h a e) a e' = am_up h a e' := by
  funext b
  unfold am_up
  split <;> rfl
theorem up_cm {h : Nat → am_E} {a b : Nat} {e e' : am_E} (hab : a ≠ b) : am_up (am_up h a e) b e' = am_up (am_up h b e') a e := by
  funext c
  unfold am_up
  by_cases z : c = a
  · rw [if_neg (by omega), if_pos z, if_pos z]
  · rw [if_neg z, if_neg z]
/-- heaps, one for each number of cells, that have the cells from n0 on as they will be -/
def Bk (B : Nat → Nat → am_E) (n0 : Nat) : Prop := ∀ M, n0 ≤ M → am_up (B M) M (hp sg0 M) = B (M + 1)
theorem Bk_at {B : Nat → Nat → am_E} {n0 a : Nat} (h : Bk B n0) (ha : n0 ≤ a) : ∀ d, B (a + 1 + d) a = hp sg0 a := by
  intro d
  induction d with
  | zero =>
    rw [Nat.add_zero, ← h a ha]
    exact up_s
  | succ d ih =>
    rw [show a + 1 + (d + 1) = (a + 1 + d) + 1 by omega, ← h (a + 1 + d) (by omega), up_n (by omega)]
    exact ih
theorem Bk_self {B : Nat → Nat → am_E} {n0 a M : Nat} (h : Bk B n0) (ha : n0 ≤ a) (hM : a < M) {e : am_E} (he : hp sg0 a = e) : am_up (B M) a e = B M := by
  funext b
  unfold am_up
  split
  · rename_i z
    subst z
    have := Bk_at h ha (M - b - 1)
    rw [show b + 1 + (M - b - 1) = M by omega] at this
    rw [this]
    exact he.symm
  · rfl
theorem Bk_up {B : Nat → Nat → am_E} {n0 a : Nat} {e : am_E} (h : Bk B n0) (ha : n0 ≤ a + 1) : Bk (fun M => am_up (B M) a e) (a + 1) := by
  intro M hM
  show am_up (am_up (B M) a e) M (hp sg0 M) = am_up (B (M + 1)) a e
  rw [up_cm (by omega), h M (by omega)]
section MK
variable {B : Nat → Nat → am_E} {n0 a c k n sl pc : Nat} {h : Nat → am_E} {ls : am_L} {r st : List Value} {fs : List Value} {o : am_E} {v : Value} {ty : FieldType}
theorem ip_put : am_putf ty c k pc ls (v :: .ref a :: r) (n, sl, am_up h a (.inr (c, fs))) = if k < fs.length then if am_fit ty v = true then am_nx (pc + 3) ls r (n, sl, am_up h a (.inr (c, fs.set k v))) else none else none := by
  unfold am_putf
  simp only [up_s, ↓reduceIte, up_up]
theorem ip_oi (hr : r.length ≤ 8) {H : am_H} : am_oini pc ls (.ref a :: r) H = am_nx (pc + 3) ls r H := by
  unfold am_oini
  dsimp only
  rw [if_pos hr]
theorem ic_1 {q : Nat} (hr : r.length ≤ 8) : am_call (some c) q 1 pc (.ref a :: r) (n, sl, am_up h a (.inr (c, fs))) = some (.inr (.inr (q, [.ref a], pc + 3, r))) := by
  unfold am_call
  rw [if_pos ⟨by simp only [List.length_cons]; omega, hr⟩]
  simp only [List.take_succ_cons, List.take_zero, List.reverse_cons, List.reverse_nil, List.nil_append, up_s, ↓reduceIte, List.drop_succ_cons, List.drop_zero]
theorem ic_2 {q : Nat} {x1 : Value} (hr : r.length ≤ 8) : am_call (some c) q 2 pc (x1 :: .ref a :: r) (n, sl, am_up h a (.inr (c, fs))) = some (.inr (.inr (q, [.ref a, x1], pc + 3, r))) := by
  unfold am_call
  rw [if_pos ⟨by simp only [List.length_cons]; omega, hr⟩]
  simp only [List.take_succ_cons, List.take_zero, List.reverse_cons, List.reverse_nil, List.nil_append, List.cons_append, up_s, ↓reduceIte, List.drop_succ_cons, List.drop_zero]
theorem ic_3 {q : Nat} {x1 x2 : Value} (hr : r.length ≤ 8) : am_call (some c) q 3 pc (x2 :: x1 :: .ref a :: r) (n, sl, am_up h a (.inr (c, fs))) = some (.inr (.inr (q, [.ref a, x1, x2], pc + 3, r))) := by
  unfold am_call
  rw [if_pos ⟨by simp only [List.length_cons]; omega, hr⟩]
  simp only [List.take_succ_cons, List.take_zero, List.reverse_cons, List.reverse_nil, List.nil_append, List.cons_append, up_s, ↓reduceIte, List.drop_succ_cons, List.drop_zero]
theorem bk_newa {w : Int32} {M len : Nat} (hB : Bk B n0) (h0 : n0 ≤ M) (hM : a ≠ M) (hl : w.toNatClampNeg = len) (hw : ¬ (w < 0 ∨ 100000 < w)) (he : hp sg0 M = .inl (ty, len, .inl (fun _ => 0))) : am_newa ty pc ls (.int w :: r) (M, sl, am_up (B M) a o) = am_nx (pc + 2) ls (.ref M :: r) (M + 1, sl + len, am_up (B (M + 1)) a o) := by
  unfold am_newa
  dsimp only
  rw [if_neg hw, hl, up_cm hM, ← he, hB M h0]
theorem bk_new {M z : Nat} (hB : Bk B n0) (h0 : n0 ≤ M) (hM : a ≠ M) : am_new c z fs pc ls st (M, sl, am_up (B M) a o) = am_nx (pc + 3) ls (.ref M :: st) (M + 1, sl + z, am_up (am_up (B (M + 1)) a o) M (.inr (c, fs))) := by
  unfold am_new
  dsimp only
  have e : am_up (am_up (B (M + 1)) a o) M (.inr (c, fs)) = am_up (am_up (B M) a o) M (.inr (c, fs)) := by
    rw [up_cm hM, ← hB M h0, up_up, ← up_cm hM]
  rw [e]
end MK
section IN
variable {X : am_X} {B : Nat → Nat → am_E} {n0 a sl : Nat} {Q : Option Value → am_H → Prop}
set_option maxRecDepth 100000 in
set_option maxHeartbeats 4000000 in
theorem in_Bytes {w : Int32} {len : Nat} (hB : Bk B n0) (h0 : n0 ≤ a) (hl : w.toNatClampNeg = len) (hw : ¬ (w < 0 ∨ 100000 < w)) (he : hp sg0 (a + 1) = .inl (.byte, len, .inl (fun _ => 0))) (hf : hp sg0 a = .inr (1, [.ref (a + 1), .int 0, .int 0, .int 0])) : am_Go X 8 0 [some (.ref a), some (.int w)] [] (a + 1, sl, am_up (B (a + 1)) a (.inr (1, am_df 1))) Q = Q none (a + 1 + 1, sl + len, B (a + 1 + 1)) := by
  have mx : (if (0 : Int32) < w then w else 0) = w := by
    split
    · rfl
    · rename_i q
      have h1 : ¬ w < 0 := fun r => hw (Or.inl r)
      exact Int32.le_antisymm (Int32.not_lt.mp h1) (Int32.not_lt.mp q)
  have n1 := fun {pc sl : Nat} {ls : am_L} {r : List Value} {o : am_E} => bk_newa (pc := pc) (sl := sl) (ls := ls) (r := r) (o := o) (a := a) (ty := .byte) hB (show n0 ≤ a + 1 by omega) (by omega) hl hw he
  have fin := Bk_self (M := a + 1 + 1) hB h0 (by omega) hf
  have df : am_df 1 = [.null, .int 0, .int 0, .int 0] := rfl
  rw [go_to []]; simp only [gs_u, fns_if, fns_nx, fns_no, fns_rt, fns_cl, am_fs, am_cd, am_NM, am_sz, am_code, am_step, am_ldc, am_bin, am_div, am_un, am_iload, am_aload, am_istore, am_astore, am_iinc, am_j1, am_j2, am_jr, am_dup, am_dup2, am_pop, am_ret, am_rt, am_rc, am_ml, am_slen, am_schr, am_m1, am_m2, ty_getf, ty_pi, ty_p0, ty_p1, ty_alen, ty_iald, ty_bald, ty_cald, ty_iast, ty_bast, ty_cast, ty_aald, ty_tald, ty_copy, ty_c1, ty_c2, ty_c3, ty_c4, ty_c5, ty_c6, ty_c7, ty_c8, ty_c9, ty_c10, ty_s0, ty_s1, ty_s2, ty_s3, ty_s4, ty_s5, ty_s6, List.mem_cons, List.not_mem_nil, or_false, false_or, or_true, true_or, and_true, true_and, and_self, Nat.reduceLT, Nat.reduceLeDiff, Nat.reduceEqDiff, Nat.add_eq_left, Nat.reduceAdd, Nat.reduceSub, ↓reduceIte, reduceCtorEq, List.getElem?_cons_zero, List.getElem?_cons_succ, List.set_cons_zero, List.set_cons_succ, List.length_cons, List.length_nil, List.take_succ_cons, List.take_zero, List.drop_succ_cons, List.drop_zero, List.reverse_cons, List.reverse_nil, List.nil_append, List.cons_append, am_entry, List.map_cons, List.map_nil, List.replicate_zero, List.replicate_succ, List.append_nil, decide_eq_true_eq, eq_self, am_ty, am_nf, wf_1, wf_2, wa_1, wa_2, wa_3, wr_1, wr_2, wr_3, ty_q0, ty_q1, ty_q2, i_if, and_false, false_and, ac_8, aty1, ip_oi, mx, n1, ip_put, df, fin, am_fit]
end IN
