/-! how long what is made can be -/
def aw (a : List Int32 × Bool) : Nat := a.1.length + (cl a.2).length
def tw (l : List Int32) (i : Nat) : Nat := lsta l i + (if i = lnum l then 1 else 0)
theorem ad1_aw {f : Nat → Int32} {i j : Nat} {a : List Int32 × Bool} : aw (ad1 f i j a) = aw a + (j - i) + (if opE f i j then 1 else 0) := by
  unfold aw ad1
  simp only [List.length_append, slc_len]
  have : (cl (decide (opE f i j))).length = if opE f i j then 1 else 0 := by
    by_cases h : opE f i j
    · rw [if_pos h, decide_eq_true h]; rfl
    · rw [if_neg h, decide_eq_false h]; rfl
  rw [this]
  omega
theorem adB_aw {T : List Int32} {s : Sk} : ∀ (d j : Nat) (a : List Int32 × Bool), aw (adB T s d j a) + wsm T s j ≤ aw a + wsm T s (j + d)
  | 0, j, a => Nat.le_refl _
  | d + 1, j, a => by
    have ih := adB_aw (T := T) (s := s) d (j + 1) (if s.2.2 0 j = 45 then a else ad1 (gl T) (s.2.2 1 j) (s.2.2 2 j) a)
    have e : wsm T s (j + 1) = wsm T s j + wt T s j := rfl
    rw [show j + 1 + d = j + (d + 1) by omega, e] at ih
    unfold adB
    by_cases q : s.2.2 0 j = 45
    · rw [if_pos q] at ih ⊢
      omega
    · rw [if_neg q] at ih ⊢
      rw [ad1_aw] at ih
      unfold wt at ih
      omega
theorem wsm_mono {T : List Int32} {s : Sk} : ∀ d j, wsm T s j ≤ wsm T s (j + d)
  | 0, j => Nat.le_refl _
  | d + 1, j => by
    have := wsm_mono (T := T) (s := s) d j
    show _ ≤ wsm T s (j + d) + _
    omega
theorem wsm_le {T : List Int32} {s : Sk} {i j : Nat} (h : i ≤ j) : wsm T s i ≤ wsm T s j := by
  have := wsm_mono (T := T) (s := s) (j - i) i
  rw [show i + (j - i) = j by omega] at this
  exact this
theorem adL_aw {l : List Int32} : ∀ (d i : Nat) (a : List Int32 × Bool), i + d ≤ lnum l → 0 < d → aw (adL l d i a) + lsta l i ≤ aw a + tw l (i + d)
  | 0, i, a, _, h => absurd h (Nat.lt_irrefl 0)
  | d + 1, i, a, h, _ => by
    have r := lsta_rise (l := l) (k := i) (by omega)
    unfold adL
    have e := ad1_aw (f := gl l) (i := lsta l i) (j := lsta l (i + 1)) (a := a)
    rcases Nat.eq_zero_or_pos d with q | q
    · subst q
      show aw (ad1 (gl l) (lsta l i) (lsta l (i + 1)) a) + _ ≤ aw a + tw l (i + 1)
      rw [e]
      unfold tw
      by_cases z : i + 1 = lnum l
      · rw [if_pos z]
        split <;> omega
      · rw [if_neg z, if_neg (line_10 (by omega))]
        omega
    · have ih := adL_aw (l := l) d (i + 1) (ad1 (gl l) (lsta l i) (lsta l (i + 1)) a) (by omega) q
      rw [show i + 1 + d = i + (d + 1) by omega, e, if_neg (line_10 (by omega))] at ih
      omega
theorem tw_le {l : List Int32} {i j : Nat} (h : i ≤ j) (hj : j ≤ lnum l) : tw l i ≤ tw l j := by
  have m := l_mono (T := l) (k := i) (d := j - i) (by omega)
  rw [show i + (j - i) = j by omega] at m
  unfold tw
  by_cases q : i = j
  · subst q
    exact Nat.le_refl _
  · rw [if_neg (by omega)]
    omega
theorem tw_max {l : List Int32} {i : Nat} (h : i ≤ lnum l) : tw l i ≤ l.length + 1 := by
  have := lsta_n h
  unfold tw
  split <;> omega
theorem adL_tw {l : List Int32} {dn p W : Nat} {a : List Int32 × Bool} (h : aw a ≤ tw l dn + W) (h1 : dn ≤ p) (h2 : p ≤ lnum l) : aw (adL l (p - dn) dn a) ≤ tw l p + W := by
  rcases Nat.eq_zero_or_pos (p - dn) with q | q
  · have e : p = dn := by omega
    subst e
    rw [q]
    exact h
  · have := adL_aw (l := l) (p - dn) dn a (by omega) q
    rw [show dn + (p - dn) = p by omega] at this
    unfold tw at h
    rw [if_neg (by omega)] at h
    omega
/-- what is added of the text fits -/
theorem adL_fit {l : List Int32} {dn p W : Nat} {a : List Int32 × Bool} (h : aw a ≤ tw l dn + W) (h1 : dn ≤ p) (h2 : p ≤ lnum l) (hl : l.length ≤ 2000) (hW : W ≤ 6000) : a.1.length + (cl a.2).length + (lsta l p - lsta l dn) ≤ 9000 := by
  have := lsta_n h2
  have m := l_mono (T := l) (k := dn) (d := p - dn) (by omega)
  rw [show dn + (p - dn) = p by omega] at m
  have : aw a = a.1.length + (cl a.2).length := rfl
  unfold tw at h
  split at h <;> omega
/-- lines that come are none of the text's -/
theorem fitB_plus {l T : List Int32} {s : Sk} : ∀ d j i, (∀ x, j ≤ x → x < j + d → s.2.2 0 x = 43) → fitB l T s d j i = true
  | 0, _, _, _ => rfl
  | d + 1, j, i, h => by
    unfold fitB
    rw [if_pos (h j (by omega) (by omega))]
    exact fitB_plus d (j + 1) i (fun x h1 h2 => h x (by omega) (by omega))
/-- lines that go are not added -/
theorem adB_minus {T : List Int32} {s : Sk} {d2 : Nat} : ∀ d j a, (∀ x, j ≤ x → x < j + d → s.2.2 0 x = 45) → adB T s (d + d2) j a = adB T s d2 (j + d) a
  | 0, j, a, _ => by rw [Nat.zero_add]; rfl
  | d + 1, j, a, h => by
    rw [show d + 1 + d2 = d + d2 + 1 by omega]
    unfold adB
    rw [if_pos (h j (by omega) (by omega)), adB_minus d (j + 1) a (fun x h1 h2 => h x (by omega) (by omega)), show j + 1 + d = j + (d + 1) by omega]
    cases d2 <;> rfl
