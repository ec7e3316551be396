/-! what holds of scripts as they are read -/
theorem lsta_up {T : List Int32} {k : Nat} (hk : k ≤ lnum T) : lsta T k < T.length ↔ k < lnum T := by
  constructor
  · intro h
    rcases Nat.lt_or_ge k (lnum T) with q | q
    · exact q
    · have e : k = lnum T := by omega
      rw [e, lsta_end] at h
      omega
  · intro h
    have r1 := lsta_rise h
    have r2 := lsta_n (l := T) (k := k + 1) h
    omega
theorem lnum_len {T : List Int32} : lnum T ≤ T.length := by
  have := l_mono (T := T) (k := 0) (d := lnum T) (by omega)
  rw [Nat.zero_add, lsta_end] at this
  omega
/-- a line that begins with no 10 reaches further -/
theorem whl_len {T : List Int32} {k : Nat} (h : whl T k) (m : Nat) (hm : ∀ i, i < m → gl T (lsta T k + i) ≠ nI 10) : lsta T k + m < lsta T (k + 1) := by
  have r1 := lsta_rise h.1
  rcases Nat.lt_or_ge (lsta T k + m) (lsta T (k + 1)) with q | q
  · exact q
  · refine absurd ?_ (hm (lsta T (k + 1) - 1 - lsta T k) (by omega))
    rw [show lsta T k + (lsta T (k + 1) - 1 - lsta T k) = lsta T (k + 1) - 1 by omega]
    exact h.2
theorem whl_stn {T : List Int32} {k j : Nat} (h : whl T k) (hs : stn T j (lsta T k)) (h10 : ∀ i, i < (am_txt j).length → gl (am_txt j) i ≠ nI 10) : lsta T k + (am_txt j).length < lsta T (k + 1) := whl_len h _ (fun i hi => by
  rw [stn_get hs hi]
  exact h10 i hi)
/-- a line's end is where the first 10 is -/
theorem whl_at {T : List Int32} {k q : Nat} (h : whl T k) (h1 : lsta T k ≤ q) (h2 : q < lsta T (k + 1)) (h3 : gl T q = nI 10) : lsta T (k + 1) = q + 1 := by
  rcases Nat.lt_or_ge (q + 1) (lsta T (k + 1)) with z | z
  · exact absurd h3 (l_inner h.1 h1 z)
  · omega
/-- the bytes that a line wants when it is added, its 10 too -/
def wt (T : List Int32) (s : Sk) (i : Nat) : Nat := s.2.2 2 i - s.2.2 1 i + (if opE (gl T) (s.2.2 1 i) (s.2.2 2 i) then 1 else 0)
def wsm (T : List Int32) (s : Sk) : Nat → Nat
  | 0 => 0
  | j + 1 => wsm T s j + wt T s j
def beh (s : Sk) (i : Nat) : Nat := if i + 1 < s.1.1 then s.1.2 4 (i + 1) else s.2.1
def Iv (c : Nat) (T : List Int32) (k : Nat) (s : Sk) : Prop := k ≤ lnum T ∧ s.2.1 ≤ k ∧ (∀ i, i < s.2.1 → s.2.2 1 i ≤ s.2.2 2 i ∧ s.2.2 2 i ≤ T.length) ∧ (∀ i, i < s.1.1 → s.1.2 4 i ≤ s.2.1) ∧ (∀ i, i + 1 < s.1.1 → s.1.2 4 i ≤ s.1.2 4 (i + 1)) ∧ wsm T s s.2.1 ≤ lsta T k ∧ c * s.1.1 ≤ lsta T k
theorem wsm_congr {T : List Int32} {s u : Sk} : ∀ j, (∀ i, i < j → wt T s i = wt T u i) → wsm T s j = wsm T u j
  | 0, _ => rfl
  | j + 1, h => by
    unfold wsm
    rw [wsm_congr j (fun i hi => h i (by omega)), h j (by omega)]
theorem Iv_0 {c : Nat} {T : List Int32} {k : Nat} (h : k ≤ lnum T) : Iv c T k sk0 := ⟨h, Nat.zero_le _, fun i hi => absurd hi (Nat.not_lt_zero i), fun i hi => absurd hi (Nat.not_lt_zero i), fun i hi => absurd hi (Nat.not_lt_zero _), Nat.zero_le _, Nat.zero_le _⟩
theorem Iv_up {c : Nat} {T : List Int32} {k : Nat} {s : Sk} (h : Iv c T k s) (hk : k + 1 ≤ lnum T) : Iv c T (k + 1) s := by
  obtain ⟨h1, h2, h3, h4, h5, h6, h7⟩ := h
  have r := lsta_rise (l := T) (k := k) (by omega)
  exact ⟨hk, by omega, h3, h4, h5, by omega, by omega⟩
theorem Iv_addC {c : Nat} {T : List Int32} {k a n b m : Nat} {s : Sk} (h : Iv c T k s) (hk : k + 1 ≤ lnum T) (hl : lsta T k + c ≤ lsta T (k + 1)) : Iv c T (k + 1) (addC s a n b m) := by
  obtain ⟨h1, h2, h3, h4, h5, h6, h7⟩ := h
  refine ⟨hk, by show s.2.1 ≤ k + 1; omega, h3, fun i hi => ?_, fun i hi => ?_, ?_, ?_⟩
  · show (if i = s.1.1 then f5 a n b m s.2.1 4 else s.1.2 4 i) ≤ s.2.1
    have hi : i < s.1.1 + 1 := hi
    by_cases q : i = s.1.1
    · rw [if_pos q]; exact Nat.le_refl _
    · rw [if_neg q]; exact h4 i (by omega)
  · have hi : i + 1 < s.1.1 + 1 := hi
    show (if i = s.1.1 then f5 a n b m s.2.1 4 else s.1.2 4 i) ≤ (if i + 1 = s.1.1 then f5 a n b m s.2.1 4 else s.1.2 4 (i + 1))
    rw [if_neg (by omega)]
    by_cases q : i + 1 = s.1.1
    · rw [if_pos q]; exact h4 i (by omega)
    · rw [if_neg q]; exact h5 i (by omega)
  · show wsm T (addC s a n b m) s.2.1 ≤ _
    rw [wsm_congr (T := T) (s := addC s a n b m) (u := s) s.2.1 (fun _ _ => rfl)]
    omega
  · show c * (s.1.1 + 1) ≤ _
    rw [Nat.mul_add]
    omega
theorem Iv_addD {c : Nat} {T : List Int32} {k g p q : Nat} {s : Sk} (h : Iv c T k s) (hk : k < lnum T) (hpq : p ≤ q) (hq : q ≤ T.length) (hw : q - p + (if opE (gl T) p q then 1 else 0) ≤ lsta T (k + 1) - lsta T k) : Iv c T (k + 1) (addD s g p q) := by
  obtain ⟨h1, h2, h3, h4, h5, h6, h7⟩ := h
  have r := lsta_rise hk
  have e1 : ∀ f i, i < s.2.1 → (addD s g p q).2.2 f i = s.2.2 f i := fun f i hi => by
    show (if i = s.2.1 then f3 g p q f else s.2.2 f i) = _
    rw [if_neg (by omega)]
  have e2 : ∀ f, (addD s g p q).2.2 f s.2.1 = f3 g p q f := fun f => if_pos rfl
  refine ⟨hk, by show s.2.1 + 1 ≤ k + 1; omega, fun i hi => ?_, fun i hi => ?_, h5, ?_, by show c * s.1.1 ≤ _; omega⟩
  · have hi : i < s.2.1 + 1 := hi
    rcases Nat.lt_or_ge i s.2.1 with z | z
    · rw [e1 1 i z, e1 2 i z]
      exact h3 i z
    · obtain rfl : i = s.2.1 := by omega
      rw [e2, e2]
      exact ⟨hpq, hq⟩
  · have := h4 i hi
    show s.1.2 4 i ≤ s.2.1 + 1
    omega
  · show wsm T (addD s g p q) (s.2.1 + 1) ≤ _
    unfold wsm
    rw [wsm_congr (T := T) (s := addD s g p q) (u := s) s.2.1 (fun i hi => by unfold wt; rw [e1 1 i hi, e1 2 i hi])]
    have : wt T (addD s g p q) s.2.1 = q - p + (if opE (gl T) p q then 1 else 0) := by
      unfold wt
      rw [e2, e2]
      rfl
    rw [this]
    omega
theorem wt_le {T : List Int32} {s : Sk} {i : Nat} : wt T s i ≤ s.2.2 2 i - s.2.2 1 i + 1 := by
  unfold wt
  split <;> omega
theorem wt_ge {T : List Int32} {s : Sk} {i : Nat} : s.2.2 2 i - s.2.2 1 i ≤ wt T s i := by
  unfold wt
  split <;> omega
theorem markP_I {c : Nat} {T : List Int32} {k : Nat} {s : Sk} (h : Iv c T k s) (h0 : 0 < s.2.1) (hl : s.2.2 1 (s.2.1 - 1) < s.2.2 2 (s.2.1 - 1)) : Iv c T (markP T (k, s)).1 (markP T (k, s)).2 ∧ k ≤ (markP T (k, s)).1 ∧ (markP T (k, s)).2.1 = s.1 := by
  unfold markP
  by_cases q : stn T 32 (lsta T k)
  case neg => rw [if_neg q]; exact ⟨h, Nat.le_refl _, rfl⟩
  rw [if_pos q]
  obtain ⟨h1, h2, h3, h4, h5, h6, h7⟩ := h
  obtain ⟨w1, w2⟩ := mark_whl h1 q
  have e1 : ∀ f i, ¬ (f = 2 ∧ i + 1 = s.2.1) → (opD s).2.2 f i = s.2.2 f i := fun f i hi => by
    show (if f = 2 ∧ i + 1 = s.2.1 then s.2.2 f i - 1 else s.2.2 f i) = _
    rw [if_neg hi]
  have e2 : (opD s).2.2 2 (s.2.1 - 1) = s.2.2 2 (s.2.1 - 1) - 1 := by
    show (if 2 = 2 ∧ s.2.1 - 1 + 1 = s.2.1 then s.2.2 2 (s.2.1 - 1) - 1 else s.2.2 2 (s.2.1 - 1)) = _
    rw [if_pos ⟨rfl, by omega⟩]
  refine ⟨⟨w1.1, by show s.2.1 ≤ k + 1; omega, fun i hi => ?_, h4, h5, ?_, by show c * s.1.1 ≤ lsta T (k + 1); omega⟩, Nat.le_succ k, rfl⟩
  · have hi : i < s.2.1 := hi
    have := h3 i hi
    rw [e1 1 i (by omega)]
    by_cases z : i + 1 = s.2.1
    · obtain rfl : i = s.2.1 - 1 := by omega
      rw [e2]
      omega
    · rw [e1 2 i (by omega)]
      exact this
  · show wsm T (opD s) s.2.1 ≤ lsta T (k + 1)
    have hm : s.2.1 = s.2.1 - 1 + 1 := by omega
    rw [hm] at h6 ⊢
    unfold wsm at h6 ⊢
    rw [wsm_congr (T := T) (s := opD s) (u := s) (s.2.1 - 1) (fun i hi => by unfold wt; rw [e1 1 i (by omega), e1 2 i (by omega)])]
    have a1 := wt_le (T := T) (s := opD s) (i := s.2.1 - 1)
    have a2 := wt_ge (T := T) (s := s) (i := s.2.1 - 1)
    rw [e2, e1 1 _ (by omega)] at a1
    omega
theorem rowsP_I {c : Nat} {T : List Int32} {j g : Nat} (hj : (am_txt j).length = 2) (h10 : ∀ i, i < (am_txt j).length → gl (am_txt j) i ≠ nI 10) : ∀ (n k : Nat) (s : Sk), Iv c T k s → ∀ v, rowsP T j g n k s = .ok v → Iv c T v.1 v.2 ∧ v.1 = k + n ∧ v.2.1 = s.1 ∧ v.2.2.1 = s.2.1 + n ∧ (0 < n → v.2.2.2 1 (v.2.2.1 - 1) < v.2.2.2 2 (v.2.2.1 - 1))
  | 0, k, s, h, v, e => by
    cases e
    exact ⟨h, rfl, rfl, rfl, fun z => absurd z (Nat.lt_irrefl 0)⟩
  | n + 1, k, s, h, v, e => by
    unfold rowsP at e
    split at e
    case isFalse => cases e
    rename_i q
    have a1 := whl_stn q.1 q.2 h10
    rw [hj] at a1
    have r2 := lsta_n (l := T) (k := k + 1) q.1.1
    have hI : Iv c T (k + 1) (addD s g (lsta T k + 2) (lsta T (k + 1))) := Iv_addD h q.1.1 (by omega) r2 (by split <;> omega)
    obtain ⟨b1, b2, b3, b4, b5⟩ := rowsP_I hj h10 n (k + 1) _ hI v e
    refine ⟨b1, by omega, b3, by rw [b4]; show s.2.1 + 1 + n = _; omega, fun _ => ?_⟩
    rcases Nat.eq_zero_or_pos n with z | z
    · subst z
      cases e
      show (if s.2.1 + 1 - 1 = s.2.1 then _ else _) < (if s.2.1 + 1 - 1 = s.2.1 then _ else _)
      rw [if_pos (by omega), if_pos (by omega)]
      show lsta T k + 2 < lsta T (k + 1)
      omega
    · exact b5 z
theorem rowP_I {c : Nat} {T : List Int32} {j g n k : Nat} {s : Sk} (hj : (am_txt j).length = 2) (h10 : ∀ i, i < (am_txt j).length → gl (am_txt j) i ≠ nI 10) (h : Iv c T k s) {v : Nat × Sk} (e : rowP T j g n k s = .ok v) : Iv c T v.1 v.2 ∧ k ≤ v.1 ∧ v.2.1 = s.1 ∧ v.2.2.1 = s.2.1 + n := by
  unfold rowP bnd at e
  cases hr : rowsP T j g n k s with
  | error x => rw [hr] at e; cases e
  | ok w =>
    rw [hr] at e
    obtain ⟨b1, b2, b3, b4, b5⟩ := rowsP_I hj h10 n k s h w hr
    simp only [Except.ok.injEq] at e
    by_cases z : 0 < n
    · rw [if_pos z] at e
      have := markP_I (T := T) (k := w.1) (s := w.2) b1 (by omega) (b5 z)
      rw [← e]
      have t2 : w.1 ≤ (markP T w).1 := this.2.1
      refine ⟨this.1, by omega, this.2.2.trans b3, ?_⟩
      rw [← b4]
      unfold markP
      split <;> rfl
    · rw [if_neg z] at e
      rw [← e]
      exact ⟨b1, by omega, b3, b4⟩
theorem t5 : (am_txt 5).length = 2 ∧ ∀ i, i < (am_txt 5).length → gl (am_txt 5) i ≠ nI 10 := by decide +kernel
theorem t7 : (am_txt 7).length = 2 ∧ ∀ i, i < (am_txt 7).length → gl (am_txt 7) i ≠ nI 10 := by decide +kernel
theorem isL_v {v : Int32} (h : isL v) : ∃ L, v = nI L ∧ (L = 97 ∨ L = 99 ∨ L = 100) := by
  rcases h with h | h | h
  · exact ⟨97, h, by omega⟩
  · exact ⟨99, h, by omega⟩
  · exact ⟨100, h, by omega⟩
theorem isL_c {v : Int32} (h : isL v) : v = nI v.toNatClampNeg ∧ (v.toNatClampNeg = 97 ∨ v.toNatClampNeg = 99 ∨ v.toNatClampNeg = 100) := by
  obtain ⟨L, e, h2⟩ := isL_v h
  rw [e, nI_clamp (by omega)]
  exact ⟨rfl, h2⟩
/-- a head of NORMAL, taken apart -/
theorem hdN_some {T : List Int32} {k L a a2 b b2 : Nat} (h : hdN T k = some (L, a, a2, b, b2)) : ∃ q q2, pr T (lsta T k) = some (a, a2, q) ∧ gl T q = nI L ∧ (L = 97 ∨ L = 99 ∨ L = 100) ∧ pr T (q + 1) = some (b, b2, q2) ∧ gl T q2 = nI 10 := by
  unfold hdN at h
  cases hv : pr T (lsta T k) with
  | none => rw [hv] at h; cases h
  | some v =>
    obtain ⟨v1, v2, q⟩ := v
    rw [hv] at h
    simp only at h
    split at h
    case isFalse => cases h
    rename_i hL
    cases hw : pr T (q + 1) with
    | none => rw [hw] at h; cases h
    | some w =>
      obtain ⟨w1, w2, q2⟩ := w
      rw [hw] at h
      simp only at h
      split at h
      case isFalse => cases h
      rename_i h10
      simp only [Option.some.injEq, Prod.mk.injEq] at h
      obtain ⟨e1, rfl, rfl, rfl, rfl⟩ := h
      obtain ⟨c1, c2⟩ := isL_c hL
      rw [e1] at c1 c2
      exact ⟨q, q2, rfl, c1, c2, hw, h10⟩
theorem hdE_some {T : List Int32} {k L a a2 : Nat} (h : hdE T k = some (L, a, a2)) : ∃ q, pr T (lsta T k) = some (a, a2, q) ∧ gl T q = nI L ∧ (L = 97 ∨ L = 99 ∨ L = 100) ∧ gl T (q + 1) = nI 10 := by
  unfold hdE at h
  cases hv : pr T (lsta T k) with
  | none => rw [hv] at h; cases h
  | some v =>
    obtain ⟨v1, v2, q⟩ := v
    rw [hv] at h
    simp only at h
    split at h
    case isFalse => cases h
    rename_i hL
    simp only [Option.some.injEq, Prod.mk.injEq] at h
    obtain ⟨e1, rfl, rfl⟩ := h
    obtain ⟨c1, c2⟩ := isL_c hL.1
    rw [e1] at c1 c2
    exact ⟨q, rfl, c1, c2, hL.2⟩
theorem sepN_I {T : List Int32} {L k k1 : Nat} (hk : k ≤ lnum T) (e : sepN T L k = .ok k1) : (k1 = k ∨ k1 = k + 1) ∧ k1 ≤ lnum T := by
  unfold sepN at e
  split at e
  · split at e
    · rename_i z
      simp only [Except.ok.injEq] at e
      have := z.1.1
      omega
    · cases e
  · simp only [Except.ok.injEq] at e
    omega
theorem bnd_ok {α β : Type} {x : Except Nat α} {f : α → Except Nat β} {v : β} (h : bnd x f = .ok v) : ∃ w, x = .ok w ∧ f w = .ok v := by
  cases x with
  | error e => cases h
  | ok w => exact ⟨w, rfl, h⟩
theorem bnd_er {α β : Type} {x : Except Nat α} {f : α → Except Nat β} {e : Nat} (h : bnd x f = .error e) : x = .error e ∨ ∃ w, x = .ok w ∧ f w = .error e := by
  cases x with
  | error e2 => exact Or.inl (by cases h; rfl)
  | ok w => exact Or.inr ⟨w, rfl, h⟩
theorem bodN_I {c : Nat} {T : List Int32} {L g n k : Nat} {s : Sk} (h : Iv c T k s) {v : Nat × Sk} (e : bodN T L g n k s = .ok v) : Iv c T v.1 v.2 ∧ k ≤ v.1 ∧ v.2.1 = s.1 ∧ v.2.2.1 = s.2.1 + g + n := by
  unfold bodN at e
  obtain ⟨w, e1, e2⟩ := bnd_ok e
  obtain ⟨k1, e3, e4⟩ := bnd_ok e2
  obtain ⟨b1, b2, b3, b4⟩ := rowP_I t5.1 t5.2 h e1
  obtain ⟨c1, c2⟩ := sepN_I b1.1 e3
  have hI : Iv c T k1 w.2 := by
    rcases c1 with z | z
    · rw [z]; exact b1
    · rw [z] at c2 ⊢; exact Iv_up b1 c2
  obtain ⟨d1, d2, d3, d4⟩ := rowP_I t7.1 t7.2 hI e4
  exact ⟨d1, by omega, d3.trans b3, by omega⟩
theorem pr_len {T : List Int32} {p a b q : Nat} (h : pr T p = some (a, b, q)) : p < q ∧ q ≤ T.length := ⟨(pr_some h).2.2.2.2.1, (pr_some h).2.2.2.2.2.2⟩
theorem pnum_no {T : List Int32} {p v q : Nat} (h : pnum T p = some (v, q)) (i : Nat) (h1 : p ≤ i) (h2 : i < q) : gl T i ≠ nI 10 := by
  obtain ⟨-, g2, -⟩ := tn_some h
  have := nrun_in (T := T) 5 p (i - p) (by omega)
  rw [show p + (i - p) = i by omega] at this
  exact isd_no this (by omega) (by omega)
theorem pr_no {T : List Int32} {p a b q : Nat} (h : pr T p = some (a, b, q)) (i : Nat) (h1 : p ≤ i) (h2 : i < q) : gl T i ≠ nI 10 := by
  unfold pr at h
  cases hv : pnum T p with
  | none => rw [hv] at h; cases h
  | some v =>
    obtain ⟨v, r⟩ := v
    rw [hv] at h
    simp only at h
    split at h
    · rename_i hc
      cases hw : pnum T (r + 1) with
      | none => rw [hw] at h; cases h
      | some w =>
        obtain ⟨w, r2⟩ := w
        rw [hw] at h
        simp only at h
        split at h
        case isFalse => cases h
        simp only [Option.some.injEq, Prod.mk.injEq] at h
        obtain ⟨rfl, rfl, rfl⟩ := h
        rcases Nat.lt_trichotomy i r with z | z | z
        · exact pnum_no hv i h1 z
        · rw [z, hc]; decide
        · exact pnum_no hw i z h2
    · simp only [Option.some.injEq, Prod.mk.injEq] at h
      obtain ⟨rfl, rfl, rfl⟩ := h
      exact pnum_no hv i h1 h2
theorem pc_no {T : List Int32} {p a b q : Nat} (h : pc T p = some (a, b, q)) : p < q ∧ q ≤ T.length ∧ ∀ i, p ≤ i → i < q → gl T i ≠ nI 10 := by
  unfold pc at h
  cases hv : pnum T p with
  | none => rw [hv] at h; cases h
  | some v =>
    obtain ⟨v, r⟩ := v
    rw [hv] at h
    obtain ⟨-, -, -, -, g5, g6, g7, -⟩ := tn_some hv
    simp only at h
    split at h
    · rename_i hc
      cases hw : pnum T (r + 1) with
      | none => rw [hw] at h; cases h
      | some w =>
        obtain ⟨w, r2⟩ := w
        rw [hw] at h
        obtain ⟨-, -, -, -, k5, k6, k7, -⟩ := tn_some hw
        simp only at h
        split at h
        case isFalse => cases h
        simp only [Option.some.injEq, Prod.mk.injEq] at h
        obtain ⟨rfl, rfl, rfl⟩ := h
        refine ⟨by omega, k7, fun i h1 h2 => ?_⟩
        rcases Nat.lt_trichotomy i r with z | z | z
        · exact pnum_no hv i h1 z
        · rw [z, hc]; decide
        · exact pnum_no hw i z h2
    · split at h
      case isFalse => cases h
      simp only [Option.some.injEq, Prod.mk.injEq] at h
      obtain ⟨rfl, rfl, rfl⟩ := h
      exact ⟨g5, g7, fun i h1 h2 => pnum_no hv i h1 h2⟩
theorem nI_10_ne {L : Nat} (h : L = 97 ∨ L = 99 ∨ L = 100) : nI L ≠ nI 10 := by
  rcases h with rfl | rfl | rfl <;> decide
theorem hdN_end {T : List Int32} {k a a2 q L b b2 q2 : Nat} (hk : k ≤ lnum T) (g1 : pr T (lsta T k) = some (a, a2, q)) (g2 : gl T q = nI L) (g3 : L = 97 ∨ L = 99 ∨ L = 100) (g4 : pr T (q + 1) = some (b, b2, q2)) (g5 : gl T q2 = nI 10) : whl T k ∧ lsta T (k + 1) = q2 + 1 ∧ lsta T k < q ∧ q + 1 < q2 := by
  have p1 := pr_len g1
  have p2 := pr_len g4
  have r2 := gl_ltn (T := T) (p := q2) (by rw [g5]; decide)
  obtain ⟨z1, z2⟩ := l_eol (T := T) (k := k) (x := q2) hk (by omega) r2 g5 (fun y y1 y2 => by
    rcases Nat.lt_trichotomy y q with z | z | z
    · exact pr_no g1 y y1 z
    · rw [z, g2]; exact nI_10_ne g3
    · exact pr_no g4 y z y2)
  exact ⟨z1, z2, p1.1, p2.1⟩
theorem hdE_end {T : List Int32} {k a a2 q L : Nat} (hk : k ≤ lnum T) (g1 : pr T (lsta T k) = some (a, a2, q)) (g2 : gl T q = nI L) (g3 : L = 97 ∨ L = 99 ∨ L = 100) (g5 : gl T (q + 1) = nI 10) : whl T k ∧ lsta T (k + 1) = q + 2 ∧ lsta T k < q := by
  have p1 := pr_len g1
  have r2 := gl_ltn (T := T) (p := q + 1) (by rw [g5]; decide)
  obtain ⟨z1, z2⟩ := l_eol (T := T) (k := k) (x := q + 1) hk (by omega) r2 g5 (fun y y1 y2 => by
    rcases Nat.lt_or_ge y q with z | z
    · exact pr_no g1 y y1 z
    · obtain rfl : y = q := by omega
      rw [g2]; exact nI_10_ne g3)
  exact ⟨z1, z2, p1.1⟩
theorem cmdN_I {T : List Int32} {k last : Nat} {h : Int32} {s : Sk} (hI : Iv 3 T k s) {v : Nat × Nat × Int32 × Sk} (e : cmdN T k last h s = .ok v) : Iv 3 T v.1 v.2.2.2 ∧ k < v.1 ∧ v.2.2.2.1.1 = s.1.1 + 1 := by
  unfold cmdN at e
  split at e
  case isFalse => cases e
  rename_i hw
  cases hh : hdN T k with
  | none => rw [hh] at e; cases e
  | some w =>
    obtain ⟨L, a, a2, b, b2⟩ := w
    rw [hh] at e
    simp only at e
    split at e
    case isFalse => cases e
    obtain ⟨u, e1, e2⟩ := bnd_ok e
    obtain ⟨q, q2, g1, g2, g3, g4, g5⟩ := hdN_some hh
    have hn := hdN_end hI.1 g1 g2 g3 g4 g5
    obtain ⟨b1, b2, b3, b4⟩ := bodN_I (Iv_addC hI hw.1 (by omega)) e1
    simp only [Except.ok.injEq] at e2
    rw [← e2]
    exact ⟨b1, by show k < u.1; omega, by show u.2.1.1 = _; rw [b3]; rfl⟩
theorem dotP_I {c : Nat} {T : List Int32} : ∀ (d n k : Nat) (s : Sk), Iv c T k s → ∀ v, dotP T d n k s = .ok v → Iv c T v.1 v.2 ∧ k < v.1 ∧ v.2.1 = s.1
  | 0, n, k, s, h, v, e => by cases e
  | d + 1, n, k, s, h, v, e => by
    unfold dotP at e
    split at e
    case isFalse => cases e
    rename_i hw
    split at e
    · split at e
      · simp only [Except.ok.injEq] at e
        rw [← e]
        exact ⟨Iv_up h hw.1, Nat.lt_succ_self k, rfl⟩
      · cases e
    · have r1 := lsta_rise hw.1
      have r2 := lsta_n (l := T) (k := k + 1) hw.1
      have hI : Iv c T (k + 1) (addD s 43 (lsta T k) (lsta T (k + 1))) := Iv_addD h hw.1 (by omega) r2 (by
        rw [if_neg]
        · omega
        · rintro (z | z)
          · omega
          · exact z hw.2)
      obtain ⟨b1, b2, b3⟩ := dotP_I d (n + 1) (k + 1) _ hI v e
      exact ⟨b1, by omega, b3⟩
theorem cmdE_I {T : List Int32} {k ab : Nat} {s : Sk} (hI : Iv 3 T k s) {v : Nat × Nat × Sk} (e : cmdE T k ab s = .ok v) : Iv 3 T v.1 v.2.2 ∧ k < v.1 ∧ v.2.2.1.1 = s.1.1 + 1 := by
  unfold cmdE at e
  split at e
  case isFalse => cases e
  rename_i hw
  cases hh : hdE T k with
  | none => rw [hh] at e; cases e
  | some w =>
    obtain ⟨L, a, a2⟩ := w
    rw [hh] at e
    simp only at e
    split at e
    case isFalse => cases e
    obtain ⟨u, e1, e2⟩ := bnd_ok e
    obtain ⟨q, g1, g2, g3, g4⟩ := hdE_some hh
    have hn := hdE_end hI.1 g1 g2 g3 g4
    have hI2 : Iv 3 T (k + 1) (addC s a (gsN L a a2) 0 0) := Iv_addC hI hw.1 (by omega)
    simp only [Except.ok.injEq] at e2
    rw [← e2]
    split at e1
    · simp only [Except.ok.injEq] at e1
      rw [← e1]
      exact ⟨hI2, Nat.lt_succ_self k, rfl⟩
    · obtain ⟨b1, b2, b3⟩ := dotP_I _ _ _ _ hI2 _ e1
      exact ⟨b1, by show k < u.1; omega, by show u.2.1.1 = _; rw [b3]; rfl⟩
theorem linP_I {c : Nat} {T : List Int32} : ∀ (d x y k : Nat) (s : Sk), Iv c T k s → ∀ v, linP T d x y k s = .ok v → Iv c T v.1 v.2 ∧ k ≤ v.1 ∧ v.2.1 = s.1
  | 0, x, y, k, s, h, v, e => by
    cases e
    exact ⟨h, Nat.le_refl _, rfl⟩
  | d + 1, x, y, k, s, h, v, e => by
    unfold linP at e
    split at e
    · split at e
      case isFalse => cases e
      rename_i hw
      obtain ⟨hw, hg⟩ := hw
      have r2 := lsta_n (l := T) (k := k + 1) hw.1
      have hlen := whl_len hw 1 (fun i hi => by
        have hi0 : i = 0 := by omega
        rw [hi0, Nat.add_zero]
        rcases hg with z | z | z
        · rw [z.1]; decide
        · rw [z.1]; decide
        · rw [z.1]; decide)
      have hI : Iv c T (k + 1) (addD s (gl T (lsta T k)).toNatClampNeg (lsta T k + 1) (lsta T (k + 1))) := Iv_addD h hw.1 (by omega) r2 (by split <;> omega)
      have hM := markP_I hI (Nat.succ_pos _) (by
        show (if s.2.1 + 1 - 1 = s.2.1 then _ else _) < (if s.2.1 + 1 - 1 = s.2.1 then _ else _)
        rw [if_pos (by omega), if_pos (by omega)]
        exact hlen)
      obtain ⟨b1, b2, b3⟩ := linP_I d _ _ _ _ hM.1 v e
      exact ⟨b1, by have := hM.2.1; omega, b3.trans hM.2.2⟩
    · cases e
      exact ⟨h, Nat.le_refl _, rfl⟩
theorem t36 : (am_txt 36).length = 4 ∧ ∀ i, i < 4 → gl (am_txt 36) i ≠ nI 10 := by decide +kernel
theorem t37 : (am_txt 37).length = 2 ∧ ∀ i, i < 2 → gl (am_txt 37) i ≠ nI 10 := by decide +kernel
theorem t38 : (am_txt 38).length = 4 ∧ (∀ i, i < 3 → gl (am_txt 38) i ≠ nI 10) ∧ gl (am_txt 38) 3 = nI 10 := by decide +kernel
theorem hdU_some {T : List Int32} {k a n b m : Nat} (h : hdU T k = some (a, n, b, m)) : ∃ q q2, stn T 36 (lsta T k) ∧ pc T (lsta T k + 4) = some (a, n, q) ∧ stn T 37 q ∧ pc T (q + 2) = some (b, m, q2) ∧ stn T 38 q2 := by
  unfold hdU at h
  split at h
  case isFalse => cases h
  rename_i h36
  cases hv : pc T (lsta T k + 4) with
  | none => rw [hv] at h; cases h
  | some v =>
    obtain ⟨v1, v2, q⟩ := v
    rw [hv] at h
    simp only at h
    split at h
    case isFalse => cases h
    rename_i h37
    cases hw : pc T (q + 2) with
    | none => rw [hw] at h; cases h
    | some w =>
      obtain ⟨w1, w2, q2⟩ := w
      rw [hw] at h
      simp only at h
      split at h
      case isFalse => cases h
      rename_i h38
      simp only [Option.some.injEq, Prod.mk.injEq] at h
      obtain ⟨rfl, rfl, rfl, rfl⟩ := h
      exact ⟨q, q2, h36, rfl, h37, hw, h38⟩
theorem hdU_end {T : List Int32} {k a n b m q q2 : Nat} (hk : k ≤ lnum T) (g1 : stn T 36 (lsta T k)) (g2 : pc T (lsta T k + 4) = some (a, n, q)) (g3 : stn T 37 q) (g4 : pc T (q + 2) = some (b, m, q2)) (g5 : stn T 38 q2) : whl T k ∧ lsta T (k + 1) = q2 + 4 ∧ lsta T k + 4 < q ∧ q + 2 < q2 := by
  obtain ⟨p1, p2, p3⟩ := pc_no g2
  obtain ⟨r1, r2, r3⟩ := pc_no g4
  have s1 := stn_get g5 (i := 3) (by rw [t38.1]; omega)
  rw [t38.2.2] at s1
  have s2 := gl_ltn (T := T) (p := q2 + 3) (by rw [s1]; decide)
  obtain ⟨z1, z2⟩ := l_eol (T := T) (k := k) (x := q2 + 3) hk (by omega) s2 s1 (fun y y1 y2 => by
    rcases Nat.lt_or_ge y (lsta T k + 4) with z | z
    · have := stn_get g1 (i := y - lsta T k) (by rw [t36.1]; omega)
      rw [show lsta T k + (y - lsta T k) = y by omega] at this
      rw [this]
      exact t36.2 _ (by omega)
    rcases Nat.lt_or_ge y q with z2 | z2
    · exact p3 y z z2
    rcases Nat.lt_or_ge y (q + 2) with z3 | z3
    · have := stn_get g3 (i := y - q) (by rw [t37.1]; omega)
      rw [show q + (y - q) = y by omega] at this
      rw [this]
      exact t37.2 _ (by omega)
    rcases Nat.lt_or_ge y q2 with z4 | z4
    · exact r3 y z3 z4
    · have := stn_get g5 (i := y - q2) (by rw [t38.1]; omega)
      rw [show q2 + (y - q2) = y by omega] at this
      rw [this]
      exact t38.2.1 _ (by omega))
  exact ⟨z1, z2, p1, r1⟩
theorem cmdU_I {T : List Int32} {k last : Nat} {s : Sk} (hI : Iv 12 T k s) {v : Nat × Nat × Sk} (e : cmdU T k last s = .ok v) : Iv 12 T v.1 v.2.2 ∧ k < v.1 ∧ v.2.2.1.1 = s.1.1 + 1 := by
  unfold cmdU at e
  split at e
  case isFalse => cases e
  rename_i hw
  cases hh : hdU T k with
  | none => rw [hh] at e; cases e
  | some w =>
    obtain ⟨a, n, b, m⟩ := w
    rw [hh] at e
    simp only at e
    split at e
    case isFalse => cases e
    obtain ⟨u, e1, e2⟩ := bnd_ok e
    obtain ⟨q, q2, g1, g2, g3, g4, g5⟩ := hdU_some hh
    have hn := hdU_end hI.1 g1 g2 g3 g4 g5
    obtain ⟨b1, b2, b3⟩ := linP_I _ _ _ _ _ (Iv_addC hI hw.1 (by omega)) _ e1
    simp only [Except.ok.injEq] at e2
    rw [← e2]
    exact ⟨b1, by show k < u.1; omega, by show u.2.1.1 = _; rw [b3]; rfl⟩
/-- no head of NORMAL: what the reader sees -/
theorem hdN_none {T : List Int32} {k : Nat} (h : hdN T k = none) (f1 : Int32) (t1 : Int32 × Nat) (L : Nat × Nat) (f2 : Int32) (t2 : Int32 × Nat) (e1 : f1 = tnR T (lsta T k)) (e2 : t1 = tlR T f1 (lsta T k + nrun T 5 (lsta T k))) (e3 : L = ltR T t1.2) (e4 : f2 = tnR T L.2) (e5 : t2 = tlR T f2 (L.2 + nrun T 5 L.2)) : f1 = mI ∨ t1.1 = mI ∨ L.1 = 0 ∨ f2 = mI ∨ t2.1 = mI ∨ ¬ stn T 4 t2.2 := by
  unfold hdN at h
  cases hv : pr T (lsta T k) with
  | none =>
    have := pr_none hv
    rw [← e1, ← e2] at this
    rcases this with q | q | q
    · exact Or.inl q
    · exact Or.inr (Or.inl q)
    · refine Or.inr (Or.inr (Or.inl ?_))
      rw [e3, ltR_d q]
  | some v =>
    obtain ⟨v1, v2, q⟩ := v
    rw [hv] at h
    obtain ⟨g1, g2, -⟩ := pr_some hv
    rw [← e1] at g1
    rw [← g1, ← e2] at g2
    rw [g2] at e3
    simp only at h e3
    have hL : ltR T q = (if gl T q = nI 97 then (97, q + 1) else if gl T q = nI 99 then (99, q + 1) else if gl T q = nI 100 then (100, q + 1) else (0, q)) := by
      unfold ltR
      simp only [stn_8, stn_9, stn_10]
    by_cases z : isL (gl T q)
    case neg =>
      refine Or.inr (Or.inr (Or.inl ?_))
      rw [e3, hL, if_neg (fun y => z (Or.inl y)), if_neg (fun y => z (Or.inr (Or.inl y))), if_neg (fun y => z (Or.inr (Or.inr y)))]
    have hq : L.2 = q + 1 := by
      rw [e3, hL]
      split
      · rfl
      split
      · rfl
      split
      · rfl
      · rename_i y1 y2 y3
        rcases z with z | z | z
        · exact absurd z y1
        · exact absurd z y2
        · exact absurd z y3
    rw [hq] at e4 e5
    rw [if_pos z] at h
    refine Or.inr (Or.inr (Or.inr ?_))
    cases hw : pr T (q + 1) with
    | none =>
      have := pr_none hw
      rw [← e4, ← e5] at this
      rcases this with y | y | y
      · exact Or.inl y
      · exact Or.inr (Or.inl y)
      · exact Or.inr (Or.inr (fun x => isd_no y (by omega) (by omega) (stn_4.mp x)))
    | some w =>
      obtain ⟨w1, w2, q2⟩ := w
      rw [hw] at h
      simp only at h
      split at h
      · cases h
      rename_i y
      obtain ⟨k1, k2, -⟩ := pr_some hw
      rw [← e4] at k1
      rw [← k1, ← e5] at k2
      rw [k2]
      exact Or.inr (Or.inr (fun x => y (stn_4.mp x)))
theorem ltR_L {T : List Int32} {q L : Nat} (h : gl T q = nI L) (hL : L = 97 ∨ L = 99 ∨ L = 100) : ltR T q = (L, q + 1) := by
  unfold ltR
  simp only [stn_8, stn_9, stn_10, h]
  rcases hL with rfl | rfl | rfl
  · rw [if_pos rfl]
  · rw [if_neg (by decide), if_pos rfl]
  · rw [if_neg (by decide), if_neg (by decide), if_pos rfl]
theorem ltR_e {T : List Int32} {q : Nat} : ltR T q = (if gl T q = nI 97 then (97, q + 1) else if gl T q = nI 99 then (99, q + 1) else if gl T q = nI 100 then (100, q + 1) else (0, q)) := by
  unfold ltR
  simp only [stn_8, stn_9, stn_10]
theorem hdE_none {T : List Int32} {k : Nat} (h : hdE T k = none) (f1 : Int32) (t1 : Int32 × Nat) (L : Nat × Nat) (e1 : f1 = tnR T (lsta T k)) (e2 : t1 = tlR T f1 (lsta T k + nrun T 5 (lsta T k))) (e3 : L = ltR T t1.2) : f1 = mI ∨ t1.1 = mI ∨ L.1 = 0 ∨ ¬ stn T 4 L.2 := by
  unfold hdE at h
  cases hv : pr T (lsta T k) with
  | none =>
    have := pr_none hv
    rw [← e1, ← e2] at this
    rcases this with q | q | q
    · exact Or.inl q
    · exact Or.inr (Or.inl q)
    · refine Or.inr (Or.inr (Or.inl ?_))
      rw [e3, ltR_d q]
  | some v =>
    obtain ⟨v1, v2, q⟩ := v
    rw [hv] at h
    obtain ⟨g1, g2, -⟩ := pr_some hv
    rw [← e1] at g1
    rw [← g1, ← e2] at g2
    rw [g2] at e3
    simp only at h e3
    by_cases z : isL (gl T q)
    case neg =>
      refine Or.inr (Or.inr (Or.inl ?_))
      rw [e3, ltR_e, if_neg (fun y => z (Or.inl y)), if_neg (fun y => z (Or.inr (Or.inl y))), if_neg (fun y => z (Or.inr (Or.inr y)))]
    have hq : L.2 = q + 1 := by
      obtain ⟨c1, c2⟩ := isL_c z
      rw [e3, ltR_L c1 c2]
    split at h
    · cases h
    rename_i y
    refine Or.inr (Or.inr (Or.inr (fun x => y ⟨z, ?_⟩)))
    rw [hq] at x
    exact stn_4.mp x
/-- UNIFIED: what takeRange() sees at p: its answer, first, count, end -/
def trR (T : List Int32) (p : Nat) : Prop × Int32 × Int32 × Nat := if stn T 39 (p + nrun T 5 p) then (¬ tnR T (p + nrun T 5 p + 1) = mI ∧ ¬ tnR T (p + nrun T 5 p + 1) = nI 1 ∧ (nI 0 < tnR T p ∨ (tnR T p = nI 0 ∧ tnR T (p + nrun T 5 p + 1) = nI 0)), tnR T p, tnR T (p + nrun T 5 p + 1), p + nrun T 5 p + 1 + nrun T 5 (p + nrun T 5 p + 1)) else (nI 0 < tnR T p, tnR T p, nI 1, p + nrun T 5 p)
theorem trR_in {T : List Int32} {p : Nat} (hp : p ≤ T.length) : (trR T p).2.2.2 ≤ T.length := by
  have l1 := nrun_le_len (T := T) (m := 5) hp
  unfold trR
  split
  · rename_i h
    have := h.1
    have e : (am_txt 39).length = 1 := by decide +kernel
    exact nrun_le_len (by omega)
  · exact l1
theorem trR_some {T : List Int32} {p a n q : Nat} (h : pc T p = some (a, n, q)) : (trR T p).1 ∧ (trR T p).2 = (nI a, nI n, q) ∧ a < 100000 ∧ n < 100000 := by
  unfold pc at h
  cases hv : pnum T p with
  | none => rw [hv] at h; cases h
  | some v =>
    obtain ⟨v, r⟩ := v
    rw [hv] at h
    obtain ⟨g1, g2, g3, g4, g5, g6, g7, -⟩ := tn_some hv
    simp only at h
    unfold trR
    rw [← g2, g1]
    split at h
    · rename_i hc
      cases hw : pnum T (r + 1) with
      | none => rw [hw] at h; cases h
      | some w =>
        obtain ⟨w, r2⟩ := w
        rw [hw] at h
        obtain ⟨k1, k2, k3, k4, k5, k6, k7, -⟩ := tn_some hw
        simp only at h
        split at h
        case isFalse => cases h
        rename_i hx
        simp only [Option.some.injEq, Prod.mk.injEq] at h
        obtain ⟨rfl, rfl, rfl⟩ := h
        rw [if_pos (stn_39.mpr hc), k1, ← k2]
        refine ⟨⟨fun z => ?_, fun z => ?_, ?_⟩, rfl, g4, k4⟩
        · have := congrArg Int32.toInt z
          rw [nI_toInt (by omega), mI_toInt] at this
          omega
        · exact hx.1 ((nI_eq (by omega) (by omega)).mp z)
        · rcases Nat.eq_zero_or_pos v with y | y
          · subst y
            refine Or.inr ⟨rfl, ?_⟩
            rcases hx.2 with x | x
            · omega
            · rw [x]
          · exact Or.inl (by rw [nI_ltI (by omega) (by omega)]; exact y)
    · rename_i hc
      split at h
      case isFalse => cases h
      rename_i hx
      simp only [Option.some.injEq, Prod.mk.injEq] at h
      obtain ⟨rfl, rfl, rfl⟩ := h
      rw [if_neg (fun z => hc (stn_39.mp z))]
      exact ⟨by show nI 0 < nI v; rw [nI_ltI (by omega) (by omega)]; exact hx, rfl, g4, by omega⟩
theorem trR_none {T : List Int32} {p : Nat} (h : pc T p = none) : ¬ (trR T p).1 ∨ isd T (trR T p).2.2.2 := by
  unfold pc at h
  unfold trR
  cases hv : pnum T p with
  | none =>
    rcases tn_none hv with q | q
    · left
      have n0 : ¬ nI 0 < tnR T p := by
        rw [q, Int32.lt_iff_toInt_lt, mI_toInt, nI_toInt (by omega)]
        omega
      have n1 : ¬ tnR T p = nI 0 := by
        rw [q]
        decide
      split
      · rintro ⟨-, -, z | z⟩
        · exact n0 z
        · exact n1 z.1
      · exact n0
    · right
      rw [if_neg (fun z => isd_no q (by omega) (by omega) (stn_39.mp z))]
      exact q
  | some v =>
    obtain ⟨v, r⟩ := v
    rw [hv] at h
    obtain ⟨g1, g2, g3, g4, g5, g6, g7, -⟩ := tn_some hv
    rw [← g2, g1]
    simp only at h
    split at h
    · rename_i hc
      rw [if_pos (stn_39.mpr hc)]
      cases hw : pnum T (r + 1) with
      | none =>
        rcases tn_none hw with q | q
        · left
          rintro ⟨z, -⟩
          exact z q
        · right
          exact q
      | some w =>
        obtain ⟨w, r2⟩ := w
        rw [hw] at h
        obtain ⟨k1, k2, k3, k4, k5, k6, k7, -⟩ := tn_some hw
        simp only at h
        split at h
        · cases h
        rename_i hx
        left
        rw [k1]
        rintro ⟨-, z2, z3⟩
        refine hx ⟨fun y => z2 (by rw [y]), ?_⟩
        rcases z3 with y | y
        · left
          rw [nI_ltI (by omega) (by omega)] at y
          exact y
        · right
          exact (nI_eq (by omega) (by omega)).mp y.2
    · rename_i hc
      split at h
      · cases h
      rename_i hx
      left
      rw [if_neg (fun z => hc (stn_39.mp z))]
      show ¬ nI 0 < nI v
      rw [nI_ltI (by omega) (by omega)]
      exact hx
theorem t34 : (am_txt 34).length = 4 ∧ ∀ i, i < (am_txt 34).length → gl (am_txt 34) i ≠ nI 10 := by decide +kernel
theorem t35 : (am_txt 35).length = 4 ∧ ∀ i, i < (am_txt 35).length → gl (am_txt 35) i ≠ nI 10 := by decide +kernel
