/-! what turn() writes, and how long it is -/
theorem digs_full {v : Nat} : ∀ k, 10 ^ k ≤ v → (digs v k).length = k + 1
  | 0, _ => rfl
  | k + 1, h => by
    have hp : 10 ^ k ≤ 10 ^ (k + 1) := Nat.pow_le_pow_right (by omega) (by omega)
    unfold digs
    rw [List.length_append, if_pos h, digs_full k (by omega)]
    simp only [List.length_cons, List.length_nil]
    omega
theorem digs_cnt {v : Nat} : ∀ k c, 1 ≤ c → c ≤ k + 1 → v < 10 ^ c → (c = 1 ∨ 10 ^ (c - 1) ≤ v) → (digs v k).length = c
  | 0, c, h1, h2, _, _ => by
    have : c = 1 := by omega
    subst this
    rfl
  | k + 1, c, h1, h2, h3, h4 => by
    unfold digs
    rw [List.length_append]
    rcases Nat.lt_or_ge c (k + 2) with q | q
    · have hp : 10 ^ c ≤ 10 ^ (k + 1) := Nat.pow_le_pow_right (by omega) (by omega)
      rw [if_neg (by omega), digs_cnt k c h1 (by omega) h3 h4]
      simp
    · have e : c = k + 2 := by omega
      subst e
      rcases h4 with h4 | h4
      · omega
      · have h5 : 10 ^ (k + 1) ≤ v := h4
        have hp : 10 ^ k ≤ 10 ^ (k + 1) := Nat.pow_le_pow_right (by omega) (by omega)
        rw [if_pos h5, digs_full k (by omega)]
        simp only [List.length_cons, List.length_nil]
        omega
theorem nval_ge {T : List Int32} : ∀ c p acc, acc * 10 ^ c ≤ nval T c p acc
  | 0, p, acc => by unfold nval; omega
  | c + 1, p, acc => by
    unfold nval
    have := nval_ge (T := T) c (p + 1) (acc * 10 + dv T p)
    rw [Nat.pow_succ]
    have h2 : (acc * 10) * 10 ^ c ≤ (acc * 10 + dv T p) * 10 ^ c := Nat.mul_le_mul_right _ (by omega)
    have e : acc * (10 ^ c * 10) = (acc * 10) * 10 ^ c := by rw [Nat.mul_comm (10 ^ c) 10, Nat.mul_assoc]
    omega
theorem digs_num {T : List Int32} {p v q : Nat} (h : pnum T p = some (v, q)) : (digs v 5).length = q - p := by
  obtain ⟨-, h2, -, h4, h5, h6, -, -, h9, h10⟩ := tn_some h
  have hin := nrun_in (T := T) 5 p
  have hv := nval_lt (T := T) (nrun T 5 p) p 0 hin
  have e : q - p = nrun T 5 p := by omega
  rw [e]
  refine digs_cnt 5 _ (by omega) (by omega) (by omega) ?_
  by_cases z : nrun T 5 p = 1
  · exact Or.inl z
  · right
    obtain ⟨c, hc⟩ : ∃ c, nrun T 5 p = c + 1 := ⟨nrun T 5 p - 1, by omega⟩
    have hd := isd_eq (hin 0 (by omega))
    rw [Nat.add_zero] at hd
    have hne : dv T p ≠ 0 := fun y => h10 ⟨by omega, by rw [hd.1, y]⟩
    rw [h9, hc]
    show 10 ^ c ≤ nval T c (p + 1) (0 * 10 + dv T p)
    have := nval_ge (T := T) c (p + 1) (0 * 10 + dv T p)
    have h2 : 1 * 10 ^ c ≤ (0 * 10 + dv T p) * 10 ^ c := Nat.mul_le_mul_right _ (by omega)
    omega
theorem rngL_len {T : List Int32} {p a b q : Nat} (h : pr T p = some (a, b, q)) : (rngL a (b - a + 1)).length = q - p := by
  unfold pr at h
  cases hv : pnum T p with
  | none => rw [hv] at h; cases h
  | some v =>
    obtain ⟨v, r⟩ := v
    rw [hv] at h
    have d1 := digs_num hv
    obtain ⟨-, -, -, -, k5, -⟩ := tn_some hv
    simp only at h
    unfold rngL
    rw [List.length_append]
    split at h
    · rename_i hc
      cases hw : pnum T (r + 1) with
      | none => rw [hw] at h; cases h
      | some w =>
        obtain ⟨w, r2⟩ := w
        rw [hw] at h
        have d2 := digs_num hw
        obtain ⟨-, -, -, -, k6, -⟩ := tn_some hw
        simp only at h
        split at h
        case isFalse => cases h
        simp only [Option.some.injEq, Prod.mk.injEq] at h
        obtain ⟨rfl, rfl, rfl⟩ := h
        rw [if_pos (by omega), d1, show v + (w - v + 1) - 1 = w by omega]
        simp only [List.length_cons, d2]
        omega
    · simp only [Option.some.injEq, Prod.mk.injEq] at h
      obtain ⟨rfl, rfl, rfl⟩ := h
      rw [if_neg (by omega), d1]
      simp
theorem rngL_0 {T : List Int32} {p a q : Nat} (h : pr T p = some (a, a, q)) : (rngL a 0).length = q - p := by
  have := rngL_len h
  unfold rngL at this ⊢
  rw [if_neg (by omega)] at this ⊢
  exact this
/-- the lines with sign c, from j on, written behind g -/
def sgL (T : List Int32) (s : Sk) (c : Nat) (g : List Int32) : Nat → Nat → List Int32
  | 0, _ => []
  | d + 1, j => (if s.2.2 0 j = c then g ++ wrL (gl T) (s.2.2 1 j) (s.2.2 2 j) else []) ++ sgL T s c g d (j + 1)
def tnL (T : List Int32) (s : Sk) (k : Nat) : List Int32 := rngL (s.1.2 2 k) (s.1.2 3 k) ++ ([nI (ltr (s.1.2 3 k) (s.1.2 1 k))] ++ (rngL (s.1.2 0 k) (s.1.2 1 k) ++ ([nI 10] ++ (sgL T s 43 (am_txt 15) (beh s k - s.1.2 4 k) (s.1.2 4 k) ++ ((if 0 < s.1.2 1 k ∧ 0 < s.1.2 3 k then am_txt 16 else []) ++ sgL T s 45 (am_txt 17) (beh s k - s.1.2 4 k) (s.1.2 4 k))))))
def tnLs (T : List Int32) (s : Sk) : Nat → Nat → List Int32
  | 0, _ => []
  | d + 1, k => tnL T s k ++ tnLs T s d (k + 1)
/-- the lines of a hunk, turned: those since rb are still to be written -/
def thL (T : List Int32) (s : Sk) : Nat → Nat → Nat → List Int32
  | 0, j, rb => sgL T s 43 (am_txt 20) (j - rb) rb ++ sgL T s 45 (am_txt 21) (j - rb) rb
  | d + 1, j, rb => if s.2.2 0 j = 32 then sgL T s 43 (am_txt 20) (j - rb) rb ++ (sgL T s 45 (am_txt 21) (j - rb) rb ++ ((am_txt 22 ++ wrL (gl T) (s.2.2 1 j) (s.2.2 2 j)) ++ thL T s d (j + 1) (j + 1))) else thL T s d (j + 1) rb
def tuL (T : List Int32) (s : Sk) (k : Nat) : List Int32 := hdL (s.1.2 2 k) (s.1.2 3 k) (s.1.2 0 k) (s.1.2 1 k) ++ thL T s (beh s k - s.1.2 4 k) (s.1.2 4 k) (s.1.2 4 k)
def tuLs (T : List Int32) (s : Sk) : Nat → Nat → List Int32
  | 0, _ => []
  | d + 1, k => tuL T s k ++ tuLs T s d (k + 1)
def tuN (T : List Int32) (s : Sk) : List Int32 := if 0 < s.1.1 then am_txt 18 ++ (slc (gl T) (lsta T 1 + 4) (lsta T 2 - (lsta T 1 + 4)) ++ (am_txt 19 ++ slc (gl T) 4 (lsta T 1 - 4))) else []
/-- how long the lines are, each with c bytes more -/
def ww (T : List Int32) (s : Sk) (i : Nat) : Nat := (wrL (gl T) (s.2.2 1 i) (s.2.2 2 i)).length
theorem t0_len : (am_txt 0).length = 28 := by decide +kernel
theorem wrL_len {f : Nat → Int32} {p q : Nat} : (wrL f p q).length = q - p + (if opE f p q then 29 else 0) := by
  unfold wrL
  rw [List.length_append, slc_len]
  split
  · simp only [List.length_cons, t0_len]
  · rfl
def Wc (c : Nat) (T : List Int32) (s : Sk) : Nat → Nat
  | 0 => 0
  | j + 1 => Wc c T s j + (c + ww T s j)
theorem Wc_congr {c : Nat} {T : List Int32} {s u : Sk} : ∀ j, (∀ i, i < j → ww T s i = ww T u i) → Wc c T s j = Wc c T u j
  | 0, _ => rfl
  | j + 1, h => by
    unfold Wc
    rw [Wc_congr j (fun i hi => h i (by omega)), h j (by omega)]
theorem Wc_addD {c : Nat} {T : List Int32} {s : Sk} {g p q : Nat} : Wc c T (addD s g p q) (s.2.1 + 1) = Wc c T s s.2.1 + (c + (wrL (gl T) p q).length) := by
  have e1 : ∀ f i, i < s.2.1 → (addD s g p q).2.2 f i = s.2.2 f i := fun f i hi => by
    show (if i = s.2.1 then f3 g p q f else s.2.2 f i) = _
    rw [if_neg (by omega)]
  have e2 : ∀ f, (addD s g p q).2.2 f s.2.1 = f3 g p q f := fun f => if_pos rfl
  show Wc c T (addD s g p q) s.2.1 + (c + (wrL (gl T) ((addD s g p q).2.2 1 s.2.1) ((addD s g p q).2.2 2 s.2.1)).length) = _
  rw [Wc_congr (T := T) (s := addD s g p q) (u := s) s.2.1 (fun i hi => by unfold ww; rw [e1 1 i hi, e1 2 i hi]), e2, e2]
  rfl
theorem Wc_mark {c : Nat} {T : List Int32} {k : Nat} {s : Sk} (hk : k ≤ lnum T) (h0 : 0 < s.2.1) (hl : s.2.2 1 (s.2.1 - 1) < s.2.2 2 (s.2.1 - 1)) {x y : Nat} (h : Wc c T s s.2.1 + x ≤ lsta T k + y) : Wc c T (markP T (k, s)).2 (markP T (k, s)).2.2.1 + x ≤ lsta T (markP T (k, s)).1 + y := by
  unfold markP
  by_cases q : stn T 32 (lsta T k)
  case neg => rw [if_neg q]; exact h
  rw [if_pos q]
  obtain ⟨w1, w2⟩ := mark_whl hk q
  have e1 : ∀ f i, ¬ (f = 2 ∧ i + 1 = s.2.1) → (opD s).2.2 f i = s.2.2 f i := fun f i hi => by
    show (if f = 2 ∧ i + 1 = s.2.1 then s.2.2 f i - 1 else s.2.2 f i) = _
    rw [if_neg hi]
  have e2 : (opD s).2.2 2 (s.2.1 - 1) = s.2.2 2 (s.2.1 - 1) - 1 := by
    show (if 2 = 2 ∧ s.2.1 - 1 + 1 = s.2.1 then s.2.2 2 (s.2.1 - 1) - 1 else s.2.2 2 (s.2.1 - 1)) = _
    rw [if_pos ⟨rfl, by omega⟩]
  show Wc c T (opD s) s.2.1 + x ≤ lsta T (k + 1) + y
  have hm : s.2.1 = s.2.1 - 1 + 1 := by omega
  rw [hm] at h ⊢
  unfold Wc at h ⊢
  rw [Wc_congr (T := T) (s := opD s) (u := s) (s.2.1 - 1) (fun i hi => by unfold ww; rw [e1 1 i (by omega), e1 2 i (by omega)])]
  have a1 : ww T (opD s) (s.2.1 - 1) ≤ ww T s (s.2.1 - 1) + 28 := by
    unfold ww
    rw [wrL_len, wrL_len, e2, e1 1 _ (by omega)]
    split <;> split <;> omega
  omega
theorem wrL_cl {T : List Int32} {k p : Nat} (hw : whl T k) (hp : p < lsta T (k + 1)) : (wrL (gl T) p (lsta T (k + 1))).length = lsta T (k + 1) - p := by
  rw [wrL_len, if_neg]
  · omega
  · rintro (z | z)
    · omega
    · exact z hw.2
theorem rowsP_W {T : List Int32} {j g x y : Nat} (hj : (am_txt j).length = 2) (h10 : ∀ i, i < (am_txt j).length → gl (am_txt j) i ≠ nI 10) : ∀ (n k : Nat) (s : Sk), Wc 2 T s s.2.1 + x ≤ lsta T k + y → ∀ v, rowsP T j g n k s = .ok v → Wc 2 T v.2 v.2.2.1 + x ≤ lsta T v.1 + y
  | 0, k, s, h, v, e => by
    cases e
    exact h
  | n + 1, k, s, h, v, e => by
    unfold rowsP at e
    split at e
    case isFalse => cases e
    rename_i q
    have a1 := whl_stn q.1 q.2 h10
    rw [hj] at a1
    refine rowsP_W hj h10 n (k + 1) _ ?_ v e
    show Wc 2 T (addD s g (lsta T k + 2) (lsta T (k + 1))) (s.2.1 + 1) + x ≤ _
    rw [Wc_addD, wrL_cl q.1 (by omega)]
    omega
theorem rowP_W {c : Nat} {T : List Int32} {j g n k x y : Nat} {s : Sk} (hj : (am_txt j).length = 2) (h10 : ∀ i, i < (am_txt j).length → gl (am_txt j) i ≠ nI 10) (hI : Iv c T k s) (h : Wc 2 T s s.2.1 + x ≤ lsta T k + y) {v : Nat × Sk} (e : rowP T j g n k s = .ok v) : Wc 2 T v.2 v.2.2.1 + x ≤ lsta T v.1 + y := by
  unfold rowP at e
  obtain ⟨w, e1, e2⟩ := bnd_ok e
  have a1 := rowsP_W hj h10 n k s h w e1
  obtain ⟨b1, b2, b3, b4, b5⟩ := rowsP_I hj h10 n k s hI w e1
  simp only [Except.ok.injEq] at e2
  rw [← e2]
  by_cases z : 0 < n
  · rw [if_pos z]
    exact Wc_mark (T := T) (k := w.1) (s := w.2) b1.1 (by omega) (b5 z) a1
  · rw [if_neg z]
    exact a1
/-- how long the heads are -/
def Hc (s : Sk) : Nat → Nat
  | 0 => 0
  | i + 1 => Hc s i + ((rngL (s.1.2 2 i) (s.1.2 3 i)).length + (rngL (s.1.2 0 i) (s.1.2 1 i)).length + 2 + (if 0 < s.1.2 1 i ∧ 0 < s.1.2 3 i then 4 else 0))
theorem Hc_congr {s u : Sk} : ∀ j, (∀ f i, i < j → s.1.2 f i = u.1.2 f i) → Hc s j = Hc u j
  | 0, _ => rfl
  | j + 1, h => by
    unfold Hc
    rw [Hc_congr j (fun f i hi => h f i (by omega)), h 0 j (by omega), h 1 j (by omega), h 2 j (by omega), h 3 j (by omega)]
theorem Hc_addC {s : Sk} {a n b m : Nat} : Hc (addC s a n b m) (s.1.1 + 1) = Hc s s.1.1 + ((rngL b m).length + (rngL a n).length + 2 + (if 0 < n ∧ 0 < m then 4 else 0)) := by
  have e1 : ∀ f i, i < s.1.1 → (addC s a n b m).1.2 f i = s.1.2 f i := fun f i hi => by
    show (if i = s.1.1 then f5 a n b m s.2.1 f else s.1.2 f i) = _
    rw [if_neg (by omega)]
  have e2 : ∀ f, (addC s a n b m).1.2 f s.1.1 = f5 a n b m s.2.1 f := fun f => if_pos rfl
  show Hc (addC s a n b m) s.1.1 + ((rngL ((addC s a n b m).1.2 2 s.1.1) ((addC s a n b m).1.2 3 s.1.1)).length + (rngL ((addC s a n b m).1.2 0 s.1.1) ((addC s a n b m).1.2 1 s.1.1)).length + 2 + (if 0 < (addC s a n b m).1.2 1 s.1.1 ∧ 0 < (addC s a n b m).1.2 3 s.1.1 then 4 else 0)) = _
  rw [Hc_congr (s := addC s a n b m) (u := s) s.1.1 e1, e2, e2, e2, e2]
  rfl
theorem sepN_W {T : List Int32} {L k k1 : Nat} (hk : k ≤ lnum T) (e : sepN T L k = .ok k1) : lsta T k1 = lsta T k + (if L = 99 then 4 else 0) := by
  unfold sepN at e
  split at e
  · rename_i hL
    split at e
    · rename_i z
      simp only [Except.ok.injEq] at e
      rw [← e, if_pos hL]
      exact (stn_whl hk z.2 3 (by decide +kernel) (by decide +kernel) (by decide +kernel)).2
    · cases e
  · rename_i hL
    simp only [Except.ok.injEq] at e
    rw [← e, if_neg hL]
    rfl
theorem bodN_W {c : Nat} {T : List Int32} {L g n k x : Nat} {s : Sk} (hI : Iv c T k s) (h : Wc 2 T s s.2.1 + x ≤ lsta T k + (if L = 99 then 4 else 0)) {v : Nat × Sk} (e : bodN T L g n k s = .ok v) : Wc 2 T v.2 v.2.2.1 + x ≤ lsta T v.1 := by
  unfold bodN at e
  obtain ⟨w, e1, e2⟩ := bnd_ok e
  obtain ⟨k1, e3, e4⟩ := bnd_ok e2
  obtain ⟨b1, b2, b3, b4⟩ := rowP_I t5.1 t5.2 hI e1
  obtain ⟨c1, c2⟩ := sepN_I b1.1 e3
  have c3 := sepN_W b1.1 e3
  have hI1 : Iv c T k1 w.2 := by
    rcases c1 with z | z
    · rw [z]; exact b1
    · rw [z] at c2 ⊢; exact Iv_up b1 c2
  have d1 := rowP_W t5.1 t5.2 hI h e1
  have d2 := rowP_W (x := x) (y := 0) t7.1 t7.2 hI1 (by omega) e4
  exact d2
theorem cmdN_W {T : List Int32} {k last : Nat} {h : Int32} {s : Sk} (hI : Iv 3 T k s) (hW : Wc 2 T s s.2.1 + Hc s s.1.1 ≤ lsta T k) {v : Nat × Nat × Int32 × Sk} (e : cmdN T k last h s = .ok v) : Wc 2 T v.2.2.2 v.2.2.2.2.1 + Hc v.2.2.2 v.2.2.2.1.1 ≤ lsta T v.1 := by
  unfold cmdN at e
  split at e
  case isFalse => cases e
  rename_i hw
  cases hh : hdN T k with
  | none => rw [hh] at e; cases e
  | some w =>
    obtain ⟨L, a, a2, b, b2⟩ := w
    rw [hh] at e
    simp only at e
    split at e
    case isFalse => cases e
    rename_i hok
    obtain ⟨u, e1, e2⟩ := bnd_ok e
    obtain ⟨q, q2, g1, g2, g3, g4, g5⟩ := hdN_some hh
    have hn := hdN_end hI.1 g1 g2 g3 g4 g5
    have hI2 : Iv 3 T (k + 1) (addC s a (gsN L a a2) b (csN L b b2)) := Iv_addC hI hw.1 (by omega)
    have ha := (pr_some g1).2.2.1
    have hb := (pr_some g4).2.2.1
    have l1 : (rngL a (gsN L a a2)).length = q - lsta T k := by
      unfold gsN
      split
      · rename_i hL
        unfold okN at hok
        rw [if_pos hL] at hok
        rw [hok.1] at g1
        exact rngL_0 g1
      · exact rngL_len g1
    have l2 : (rngL b (csN L b b2)).length = q2 - (q + 1) := by
      unfold csN
      split
      · rename_i hL
        unfold okN at hok
        rw [if_neg (by omega), if_pos hL] at hok
        rw [hok.2.1] at g4
        exact rngL_0 g4
      · exact rngL_len g4
    have hc : (if 0 < gsN L a a2 ∧ 0 < csN L b b2 then 4 else 0) = if L = 99 then 4 else 0 := by
      unfold gsN csN
      rcases g3 with rfl | rfl | rfl <;> simp
    obtain ⟨b1, b2', b3, b4⟩ := bodN_I hI2 e1
    have hH := Hc_addC (s := s) (a := a) (n := gsN L a a2) (b := b) (m := csN L b b2)
    rw [l1, l2, hc] at hH
    have hW2 := bodN_W (x := Hc (addC s a (gsN L a a2) b (csN L b b2)) (s.1.1 + 1)) hI2 (by
      show Wc 2 T (addC s a (gsN L a a2) b (csN L b b2)) s.2.1 + _ ≤ _
      rw [Wc_congr (T := T) (s := addC s a (gsN L a a2) b (csN L b b2)) (u := s) s.2.1 (fun _ _ => rfl), hH]
      omega) e1
    simp only [Except.ok.injEq] at e2
    rw [← e2]
    show Wc 2 T u.2 u.2.2.1 + Hc u.2 u.2.1.1 ≤ lsta T u.1
    have e3 : Hc u.2 u.2.1.1 = Hc (addC s a (gsN L a a2) b (csN L b b2)) (s.1.1 + 1) := by
      rw [b3]
      exact Hc_congr _ (fun f i _ => by rw [b3])
    rw [e3]
    exact hW2
theorem lpN_W {T : List Int32} : ∀ (d k last : Nat) (h : Int32) (s : Sk), Iv 3 T k s → Wc 2 T s s.2.1 + Hc s s.1.1 ≤ lsta T k → ∀ u, lpN T d k last h s = .ok u → (∃ k, Iv 3 T k u) ∧ Wc 2 T u u.2.1 + Hc u u.1.1 ≤ T.length
  | 0, k, last, h, s, hI, hW, u, e => by
    cases e
    have := lsta_n hI.1
    exact ⟨⟨k, hI⟩, by omega⟩
  | d + 1, k, last, h, s, hI, hW, u, e => by
    unfold lpN at e
    split at e
    · obtain ⟨v, e1, e2⟩ := bnd_ok e
      exact lpN_W d _ _ _ _ (cmdN_I hI e1).1 (cmdN_W hI hW e1) u e2
    · cases e
      have := lsta_n hI.1
      exact ⟨⟨k, hI⟩, by omega⟩
theorem prN_W {T : List Int32} {u : Sk} (h : prN T = .ok u) : (∃ k, Iv 3 T k u) ∧ Wc 2 T u u.2.1 + Hc u u.1.1 ≤ T.length := lpN_W _ _ _ _ _ (Iv_0 (by omega)) (Nat.zero_le _) u h
theorem Wc_mono {c : Nat} {T : List Int32} {s : Sk} : ∀ d j, Wc c T s j ≤ Wc c T s (j + d)
  | 0, j => Nat.le_refl _
  | d + 1, j => by
    have := Wc_mono (c := c) (T := T) (s := s) d j
    show _ ≤ Wc c T s (j + d) + _
    omega
/-- the lines with a sign, and those with another -/
theorem sgL_2 {T : List Int32} {s : Sk} {c c2 m : Nat} {g g2 : List Int32} (hg : g.length = m) (hg2 : g2.length = m) (hc : c ≠ c2) : ∀ d j, (sgL T s c g d j).length + (sgL T s c2 g2 d j).length + Wc m T s j ≤ Wc m T s (j + d)
  | 0, j => by show 0 + 0 + Wc m T s j ≤ Wc m T s j; omega
  | d + 1, j => by
    have ih := sgL_2 (T := T) (s := s) hg hg2 hc d (j + 1)
    unfold sgL
    simp only [List.length_append]
    have e : Wc m T s (j + 1) = Wc m T s j + (m + ww T s j) := rfl
    have e2 : j + 1 + d = j + (d + 1) := by omega
    rw [e2, e] at ih
    have w : (wrL (gl T) (s.2.2 1 j) (s.2.2 2 j)).length = ww T s j := rfl
    by_cases q : s.2.2 0 j = c
    · rw [if_pos q, if_neg (by omega)]
      simp only [List.length_append, List.length_nil, w, hg]
      omega
    · rw [if_neg q]
      by_cases q2 : s.2.2 0 j = c2
      · rw [if_pos q2]
        simp only [List.length_append, List.length_nil, w, hg2]
        omega
      · rw [if_neg q2]
        simp only [List.length_nil]
        omega
theorem beh_I {c : Nat} {T : List Int32} {k : Nat} {s : Sk} (hI : Iv c T k s) {i : Nat} (hi : i < s.1.1) : s.1.2 4 i ≤ beh s i ∧ beh s i ≤ s.2.1 := by
  obtain ⟨h1, h2, h3, h4, h5, h6, h7⟩ := hI
  unfold beh
  split
  · rename_i q
    exact ⟨h5 i q, h4 (i + 1) q⟩
  · exact ⟨h4 i hi, Nat.le_refl _⟩
theorem t15 : (am_txt 15).length = 2 ∧ (am_txt 17).length = 2 ∧ (am_txt 16).length = 4 := by decide +kernel
theorem tnLs_len {c : Nat} {T : List Int32} {k : Nat} {s : Sk} (hI : Iv c T k s) : ∀ d i, i + d = s.1.1 → (tnLs T s d i).length + Hc s i + Wc 2 T s (if i < s.1.1 then s.1.2 4 i else s.2.1) ≤ Hc s s.1.1 + Wc 2 T s s.2.1
  | 0, i, h => by
    have e : i = s.1.1 := by omega
    rw [if_neg (by omega), e]
    show 0 + _ + _ ≤ _
    omega
  | d + 1, i, h => by
    have ih := tnLs_len hI d (i + 1) (by omega)
    have hb := beh_I hI (i := i) (by omega)
    have eb : (if i + 1 < s.1.1 then s.1.2 4 (i + 1) else s.2.1) = beh s i := rfl
    rw [eb] at ih
    rw [if_pos (by omega)]
    have eH : Hc s (i + 1) = Hc s i + ((rngL (s.1.2 2 i) (s.1.2 3 i)).length + (rngL (s.1.2 0 i) (s.1.2 1 i)).length + 2 + (if 0 < s.1.2 1 i ∧ 0 < s.1.2 3 i then 4 else 0)) := rfl
    rw [eH] at ih
    have hs := sgL_2 (T := T) (s := s) (c := 43) (c2 := 45) t15.1 t15.2.1 (by omega) (beh s i - s.1.2 4 i) (s.1.2 4 i)
    rw [show s.1.2 4 i + (beh s i - s.1.2 4 i) = beh s i by omega] at hs
    have e16 : (if 0 < s.1.2 1 i ∧ 0 < s.1.2 3 i then am_txt 16 else []).length = if 0 < s.1.2 1 i ∧ 0 < s.1.2 3 i then 4 else 0 := by
      split
      · exact t15.2.2
      · rfl
    unfold tnLs tnL
    simp only [List.length_append, List.length_cons, List.length_nil, e16]
    omega
theorem tnLs_20 {T : List Int32} {u : Sk} (h : prN T = .ok u) : (tnLs T u u.1.1 0).length ≤ T.length := by
  obtain ⟨⟨k, hI⟩, hW⟩ := prN_W h
  have := tnLs_len hI u.1.1 0 (by omega)
  omega
theorem linP_W {T : List Int32} {x0 : Nat} : ∀ (d x y k : Nat) (s : Sk), Iv 12 T k s → Wc 1 T s s.2.1 + x0 ≤ lsta T k → ∀ v, linP T d x y k s = .ok v → Wc 1 T v.2 v.2.2.1 + x0 ≤ lsta T v.1
  | 0, x, y, k, s, hI, h, v, e => by
    cases e
    exact h
  | d + 1, x, y, k, s, hI, h, v, e => by
    unfold linP at e
    split at e
    · split at e
      case isFalse => cases e
      rename_i hw
      obtain ⟨hw, hg⟩ := hw
      have r2 := lsta_n (l := T) (k := k + 1) hw.1
      have hlen := whl_len hw 1 (fun i hi => by
        have hi0 : i = 0 := by omega
        rw [hi0, Nat.add_zero]
        rcases hg with z | z | z
        · rw [z.1]; decide
        · rw [z.1]; decide
        · rw [z.1]; decide)
      have hI2 : Iv 12 T (k + 1) (addD s (gl T (lsta T k)).toNatClampNeg (lsta T k + 1) (lsta T (k + 1))) := Iv_addD hI hw.1 (by omega) r2 (by split <;> omega)
      have hl : (addD s (gl T (lsta T k)).toNatClampNeg (lsta T k + 1) (lsta T (k + 1))).2.2 1 ((addD s (gl T (lsta T k)).toNatClampNeg (lsta T k + 1) (lsta T (k + 1))).2.1 - 1) < (addD s (gl T (lsta T k)).toNatClampNeg (lsta T k + 1) (lsta T (k + 1))).2.2 2 ((addD s (gl T (lsta T k)).toNatClampNeg (lsta T k + 1) (lsta T (k + 1))).2.1 - 1) := by
        show (if s.2.1 + 1 - 1 = s.2.1 then _ else _) < (if s.2.1 + 1 - 1 = s.2.1 then _ else _)
        rw [if_pos (by omega), if_pos (by omega)]
        exact hlen
      have hM := markP_I hI2 (Nat.succ_pos _) hl
      refine linP_W d _ _ _ _ hM.1 ?_ v e
      refine Wc_mark (y := 0) hI2.1 (Nat.succ_pos _) hl ?_
      show Wc 1 T (addD s (gl T (lsta T k)).toNatClampNeg (lsta T k + 1) (lsta T (k + 1))) (s.2.1 + 1) + x0 ≤ _
      rw [Wc_addD, wrL_cl hw hlen]
      omega
    · cases e
      exact h
theorem cmdU_W {T : List Int32} {k last x0 : Nat} {s : Sk} (hI : Iv 12 T k s) (hW : Wc 1 T s s.2.1 + (12 * s.1.1 + x0) ≤ lsta T k) {v : Nat × Nat × Sk} (e : cmdU T k last s = .ok v) : Wc 1 T v.2.2 v.2.2.2.1 + (12 * v.2.2.1.1 + x0) ≤ lsta T v.1 := by
  have hI' := cmdU_I hI e
  unfold cmdU at e
  split at e
  case isFalse => cases e
  rename_i hw
  cases hh : hdU T k with
  | none => rw [hh] at e; cases e
  | some w =>
    obtain ⟨a, n, b, m⟩ := w
    rw [hh] at e
    simp only at e
    split at e
    case isFalse => cases e
    obtain ⟨u, e1, e2⟩ := bnd_ok e
    obtain ⟨q, q2, g1, g2, g3, g4, g5⟩ := hdU_some hh
    have hn := hdU_end hI.1 g1 g2 g3 g4 g5
    have hI2 : Iv 12 T (k + 1) (addC s a n b m) := Iv_addC hI hw.1 (by omega)
    have := linP_W (x0 := 12 * (s.1.1 + 1) + x0) _ _ _ _ _ hI2 (by
      show Wc 1 T (addC s a n b m) s.2.1 + _ ≤ _
      rw [Wc_congr (T := T) (s := addC s a n b m) (u := s) s.2.1 (fun _ _ => rfl)]
      omega) _ e1
    simp only [Except.ok.injEq] at e2
    rw [hI'.2.2]
    rw [← e2]
    exact this
theorem lpU_W {T : List Int32} {x0 : Nat} : ∀ (d k last : Nat) (s : Sk), Iv 12 T k s → Wc 1 T s s.2.1 + (12 * s.1.1 + x0) ≤ lsta T k → ∀ u, lpU T d k last s = .ok u → (∃ k, Iv 12 T k u) ∧ Wc 1 T u u.2.1 + (12 * u.1.1 + x0) ≤ T.length
  | 0, k, last, s, hI, hW, u, e => by
    cases e
    have := lsta_n hI.1
    exact ⟨⟨k, hI⟩, by omega⟩
  | d + 1, k, last, s, hI, hW, u, e => by
    unfold lpU at e
    split at e
    · obtain ⟨v, e1, e2⟩ := bnd_ok e
      exact lpU_W d _ _ _ (cmdU_I hI e1).1 (cmdU_W hI hW e1) u e2
    · cases e
      have := lsta_n hI.1
      exact ⟨⟨k, hI⟩, by omega⟩
theorem prU_W {T : List Int32} {u : Sk} (h : prU T = .ok u) : (∃ k, Iv 12 T k u) ∧ (u = sk0 ∨ (4 < lsta T 1 ∧ lsta T 1 + 4 < lsta T 2 ∧ lsta T 2 ≤ T.length ∧ Wc 1 T u u.2.1 + (12 * u.1.1 + lsta T 2) ≤ T.length)) := by
  unfold prU at h
  split at h
  · cases h
    exact ⟨⟨0, Iv_0 (by omega)⟩, Or.inl rfl⟩
  split at h
  case isFalse => cases h
  rename_i h0
  split at h
  case isFalse => cases h
  rename_i h1
  have a0 := whl_stn h0.1 (j := 34) (by rw [lsta_0]; exact h0.2) t34.2
  have a1 := whl_stn h1.1 h1.2 t35.2
  rw [t34.1, lsta_0] at a0
  rw [t35.1] at a1
  have r := lsta_n (l := T) (k := 2) h1.1.1
  obtain ⟨c1, c2⟩ := lpU_W (x0 := lsta T 2) _ _ _ _ (Iv_0 h1.1.1) (by show 0 + (12 * 0 + lsta T 2) ≤ lsta T 2; omega) u h
  have a0' : 0 + 4 < lsta T 1 := a0
  exact ⟨c1, Or.inr ⟨by omega, a1, r, c2⟩⟩
theorem thL_len {T : List Int32} {s : Sk} : ∀ d j rb, rb ≤ j → (thL T s d j rb).length + Wc 1 T s rb ≤ Wc 1 T s (j + d)
  | 0, j, rb, h => by
    have h20 : (am_txt 20).length = 1 := by decide +kernel
    have h21 : (am_txt 21).length = 1 := by decide +kernel
    have := sgL_2 (T := T) (s := s) (c := 43) (c2 := 45) h20 h21 (by omega) (j - rb) rb
    rw [show rb + (j - rb) = j by omega] at this
    unfold thL
    rw [List.length_append]
    exact this
  | d + 1, j, rb, h => by
    have h20 : (am_txt 20).length = 1 := by decide +kernel
    have h21 : (am_txt 21).length = 1 := by decide +kernel
    have h22 : (am_txt 22).length = 1 := by decide +kernel
    have e2 : j + 1 + d = j + (d + 1) := by omega
    unfold thL
    split
    · have h1 := sgL_2 (T := T) (s := s) (c := 43) (c2 := 45) h20 h21 (by omega) (j - rb) rb
      rw [show rb + (j - rb) = j by omega] at h1
      have ih := thL_len (T := T) (s := s) d (j + 1) (j + 1) (Nat.le_refl _)
      have e : Wc 1 T s (j + 1) = Wc 1 T s j + (1 + ww T s j) := rfl
      have w : (wrL (gl T) (s.2.2 1 j) (s.2.2 2 j)).length = ww T s j := rfl
      rw [e2] at ih
      simp only [List.length_append, w, h22]
      omega
    · have ih := thL_len (T := T) (s := s) d (j + 1) rb (by omega)
      rw [e2] at ih
      exact ih
theorem hdL_len {a n b m : Nat} : (hdL a n b m).length ≤ 36 := by
  have h1 : (am_txt 1).length = 4 := by decide +kernel
  have h2 : (am_txt 2).length = 2 := by decide +kernel
  have h3 : (am_txt 3).length = 4 := by decide +kernel
  have hc : ∀ f k, (cntL f k).length ≤ 13 := fun f k => by
    have := digs_len f 5
    have := digs_len k 5
    unfold cntL
    rw [List.length_append]
    split
    · simp only [List.length_nil]; omega
    · simp only [List.length_cons]; omega
  have := hc a n
  have := hc b m
  unfold hdL
  simp only [List.length_append]
  omega
theorem tuLs_len {c : Nat} {T : List Int32} {k : Nat} {s : Sk} (hI : Iv c T k s) : ∀ d i, i + d = s.1.1 → (tuLs T s d i).length + Wc 1 T s (if i < s.1.1 then s.1.2 4 i else s.2.1) ≤ 36 * d + Wc 1 T s s.2.1
  | 0, i, h => by
    rw [if_neg (by omega)]
    show 0 + _ ≤ _
    omega
  | d + 1, i, h => by
    have ih := tuLs_len hI d (i + 1) (by omega)
    have hb := beh_I hI (i := i) (by omega)
    have eb : (if i + 1 < s.1.1 then s.1.2 4 (i + 1) else s.2.1) = beh s i := rfl
    rw [eb] at ih
    rw [if_pos (by omega)]
    have ht := thL_len (T := T) (s := s) (beh s i - s.1.2 4 i) (s.1.2 4 i) (s.1.2 4 i) (Nat.le_refl _)
    rw [show s.1.2 4 i + (beh s i - s.1.2 4 i) = beh s i by omega] at ht
    have hh := hdL_len (a := s.1.2 2 i) (n := s.1.2 3 i) (b := s.1.2 0 i) (m := s.1.2 1 i)
    unfold tuLs tuL
    simp only [List.length_append]
    omega
theorem tuLs_20 {T : List Int32} {u : Sk} (h : prU T = .ok u) (hT : T.length ≤ 6000) : (tuN T u ++ tuLs T u u.1.1 0).length ≤ 19000 ∧ u.1.1 ≤ 500 := by
  obtain ⟨⟨k, hI⟩, hW⟩ := prU_W h
  have hl := tuLs_len hI u.1.1 0 (by omega)
  have h7 := hI.2.2.2.2.2.2
  have hk := lsta_n hI.1
  have h18 : (am_txt 18).length = 4 := by decide +kernel
  have h19 : (am_txt 19).length = 4 := by decide +kernel
  refine ⟨?_, by omega⟩
  rw [List.length_append]
  rcases hW with z | ⟨z1, z2, z3, z4⟩
  · subst z
    show 0 + 0 ≤ _
    omega
  · have hN : (tuN T u).length ≤ lsta T 2 + 8 := by
      unfold tuN
      split
      · simp only [List.length_append, slc_len, h18, h19]
        omega
      · simp
    omega
