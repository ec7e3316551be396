/-! how long what is written can be -/
def Pw (c : Nat) (l : List Int32) (i : Nat) : Nat := lsta l i + c * i + (if i = lnum l then 29 else 0)
theorem Pw_le {c : Nat} {l : List Int32} {i j : Nat} (h : i ≤ j) (hj : j ≤ lnum l) : Pw c l i ≤ Pw c l j := by
  have m := lsta_mo h hj
  have m2 : c * i ≤ c * j := Nat.mul_le_mul_left c h
  unfold Pw
  by_cases z : i = lnum l
  · have : j = lnum l := by omega
    rw [if_pos z, if_pos this]
    omega
  · rw [if_neg z]
    omega
theorem Pw_max {c : Nat} {l : List Int32} (hl : l.length ≤ 2000) (hn : lnum l ≤ 200) (hc : c ≤ 2) : Pw c l (lnum l) ≤ 2429 := by
  have m := lsta_n (l := l) (k := lnum l) (Nat.le_refl _)
  have m2 : c * lnum l ≤ 2 * 200 := Nat.mul_le_mul hc hn
  unfold Pw
  rw [if_pos rfl]
  omega
theorem wrLs_len {sg l : List Int32} {c : Nat} (hs : sg.length = c) : ∀ k i, i + k ≤ lnum l → (wrLs sg l k i).length + Pw c l i ≤ Pw c l (i + k)
  | 0, i, h => by
    show 0 + Pw c l i ≤ Pw c l (i + 0)
    rw [Nat.zero_add, Nat.add_zero]
    exact Nat.le_refl _
  | k + 1, i, h => by
    have ih := wrLs_len (sg := sg) (l := l) hs k (i + 1) (by omega)
    have r := lsta_rise (l := l) (k := i) (by omega)
    rw [show i + 1 + k = i + (k + 1) by omega] at ih
    show ((sg ++ wrL (gl l) (lsta l i) (lsta l (i + 1))) ++ wrLs sg l k (i + 1)).length + _ ≤ _
    rw [List.length_append, List.length_append, hs, wrL_len]
    have e : Pw c l i = lsta l i + c * i := by unfold Pw; rw [if_neg (by omega)]; omega
    have e1 : Pw c l (i + 1) = lsta l (i + 1) + (c * i + c) + (if i + 1 = lnum l then 29 else 0) := by unfold Pw; rw [Nat.mul_succ]
    by_cases z : i + 1 = lnum l
    · rw [if_pos z] at e1
      split <;> omega
    · rw [if_neg z] at e1
      rw [if_neg (line_10 (by omega))]
      omega
theorem rngL_13 (f k : Nat) : (rngL f k).length ≤ 13 := by
  have h1 := digs_6 f 5
  have h2 := digs_6 (f + k - 1) 5
  unfold rngL
  rw [List.length_append]
  split
  · rw [List.length_cons]
    omega
  · rw [List.length_nil]
    omega
theorem crL_13 (f k : Nat) : (crL f k).length ≤ 13 := by
  unfold crL
  split
  · have := digs_6 f 5
    omega
  · exact rngL_13 _ _
theorem t2x : (am_txt 23).length = 2 ∧ (am_txt 25).length = 2 ∧ (am_txt 24).length = 4 ∧ (am_txt 27).length = 0 ∧ (am_txt 28).length = 2 ∧ (am_txt 29).length = 1 ∧ (am_txt 30).length = 1 ∧ (am_txt 31).length = 1 ∧ (am_txt 26).length = 12 := by decide +kernel
section LN
variable {A B : List Int32}
theorem nmLs_len : ∀ d k, k + d = (wkF A B).2.2.2.2.1 → 0 < d → (nmLs A B (wkF A B).2.2.2.2.2 d k).length + Pw 2 A ((wkF A B).2.2.2.2.2 0 k) + Pw 2 B ((wkF A B).2.2.2.2.2 2 k) ≤ 32 * d + Pw 2 A (lnum A) + Pw 2 B (lnum B)
  | 0, k, h, hd => absurd hd (Nat.lt_irrefl 0)
  | d + 1, k, h, _ => by
    obtain ⟨t1, t2, t3, -⟩ := t2x
    have c := wkF_c (A := A) (B := B) (k := k) (by omega)
    have a1 := wrLs_len (l := A) t1 _ _ c.1
    have b1 := wrLs_len (l := B) t2 _ _ c.2
    have r1 := crL_13 ((wkF A B).2.2.2.2.2 0 k) ((wkF A B).2.2.2.2.2 1 k)
    have r2 := crL_13 ((wkF A B).2.2.2.2.2 2 k) ((wkF A B).2.2.2.2.2 3 k)
    have hm : (if 0 < (wkF A B).2.2.2.2.2 1 k ∧ 0 < (wkF A B).2.2.2.2.2 3 k then am_txt 24 else []).length ≤ 4 := by
      split
      · omega
      · exact Nat.zero_le _
    show (nmL A B (wkF A B).2.2.2.2.2 k ++ nmLs A B (wkF A B).2.2.2.2.2 d (k + 1)).length + _ + _ ≤ _
    unfold nmL
    simp only [List.length_append, List.length_cons, List.length_nil]
    rcases Nat.eq_zero_or_pos d with z | z
    · subst z
      have e0 : (nmLs A B (wkF A B).2.2.2.2.2 0 (k + 1)).length = 0 := rfl
      have p1 := Pw_le (c := 2) (l := A) c.1 (Nat.le_refl _)
      have p2 := Pw_le (c := 2) (l := B) c.2 (Nat.le_refl _)
      omega
    · have ih := nmLs_len d (k + 1) (by omega) z
      have s := wkF_s (A := A) (B := B) (k := k) (by omega)
      have c2 := wkF_c (A := A) (B := B) (k := k + 1) (by omega)
      have p1 := Pw_le (c := 2) (l := A) (Nat.le_of_lt s.1) (by omega)
      have p2 := Pw_le (c := 2) (l := B) (Nat.le_of_lt s.2.1) (by omega)
      omega
theorem nm_20 (h1 : A.length ≤ 2000) (h2 : B.length ≤ 2000) (h3 : lnum A ≤ 200) (h4 : lnum B ≤ 200) : (nmLs A B (wkF A B).2.2.2.2.2 (wkF A B).2.2.2.2.1 0).length ≤ 20000 := by
  rcases Nat.eq_zero_or_pos (wkF A B).2.2.2.2.1 with z | z
  · rw [z]
    exact Nat.zero_le _
  · have := nmLs_len (A := A) (B := B) (wkF A B).2.2.2.2.1 0 (by omega) z
    have n := wkF_n (A := A) (B := B)
    have p1 := Pw_max (c := 2) h1 h3 (by omega)
    have p2 := Pw_max (c := 2) h2 h4 (by omega)
    omega
theorem edLs_len : ∀ k, k < (wkF A B).2.2.2.2.1 → (edLs B (wkF A B).2.2.2.2.2 (k + 1)).length ≤ 17 * (k + 1) + Pw 0 B ((wkF A B).2.2.2.2.2 2 k + (wkF A B).2.2.2.2.2 3 k)
  | k, h => by
    obtain ⟨-, -, -, t4, t5, -⟩ := t2x
    have c := wkF_c (A := A) (B := B) (k := k) h
    have b1 := wrLs_len (l := B) t4 _ _ c.2
    have r1 := crL_13 ((wkF A B).2.2.2.2.2 0 k) ((wkF A B).2.2.2.2.2 1 k)
    have hm : (if 0 < (wkF A B).2.2.2.2.2 3 k then am_txt 28 else []).length ≤ 2 := by
      split
      · omega
      · exact Nat.zero_le _
    show (edL B (wkF A B).2.2.2.2.2 k ++ edLs B (wkF A B).2.2.2.2.2 k).length ≤ _
    unfold edL
    simp only [List.length_append, List.length_cons, List.length_nil]
    cases k with
    | zero =>
      have e0 : (edLs B (wkF A B).2.2.2.2.2 0).length = 0 := rfl
      omega
    | succ k =>
      have ih := edLs_len k (by omega)
      have s := wkF_s (A := A) (B := B) (k := k) h
      have p2 := Pw_le (c := 0) (l := B) (Nat.le_of_lt s.2.1) (by omega)
      omega
theorem ed_20 (h2 : B.length ≤ 2000) (h3 : lnum A ≤ 200) (h4 : lnum B ≤ 200) : (edLs B (wkF A B).2.2.2.2.2 (wkF A B).2.2.2.2.1).length ≤ 20000 := by
  rcases Nat.eq_zero_or_pos (wkF A B).2.2.2.2.1 with z | z
  · rw [z]
    exact Nat.zero_le _
  · have := edLs_len (A := A) (B := B) ((wkF A B).2.2.2.2.1 - 1) (by omega)
    rw [show (wkF A B).2.2.2.2.1 - 1 + 1 = (wkF A B).2.2.2.2.1 by omega] at this
    have n := wkF_n (A := A) (B := B)
    have c := wkF_c (A := A) (B := B) (k := (wkF A B).2.2.2.2.1 - 1) (by omega)
    have p1 := Pw_le (c := 0) (l := B) c.2 (Nat.le_refl _)
    have p2 := Pw_max (c := 0) h2 h4 (by omega)
    omega
theorem hbL_len {aT l1 : Nat} (hl : l1 < (wkF A B).2.2.2.2.1) (haT : (wkF A B).2.2.2.2.2 0 l1 + (wkF A B).2.2.2.2.2 1 l1 ≤ aT) (haT2 : aT ≤ lnum A) : ∀ d k i, k + d = l1 + 1 → (d = 0 → i ≤ aT) → (0 < d → i ≤ (wkF A B).2.2.2.2.2 0 k) → (hbL A B (wkF A B).2.2.2.2.2 aT d k i).length + Pw 1 A i + (if d = 0 then 0 else Pw 1 B ((wkF A B).2.2.2.2.2 2 k)) ≤ Pw 1 A aT + (if d = 0 then 0 else Pw 1 B ((wkF A B).2.2.2.2.2 2 l1 + (wkF A B).2.2.2.2.2 3 l1))
  | 0, k, i, h, h0, _ => by
    obtain ⟨-, -, -, -, -, t6, -⟩ := t2x
    have := wrLs_len (l := A) t6 (aT - i) i (by omega)
    have h0 := h0 rfl
    rw [show i + (aT - i) = aT by omega] at this
    show (wrLs (am_txt 29) A (aT - i) i).length + _ + _ ≤ _
    rw [if_pos rfl, if_pos rfl]
    omega
  | d + 1, k, i, h, _, h1 => by
    obtain ⟨-, -, -, -, -, t6, t7, t8, -⟩ := t2x
    have h1 := h1 (by omega)
    have c := wkF_c (A := A) (B := B) (k := k) (by omega)
    have a0 := wrLs_len (l := A) t6 ((wkF A B).2.2.2.2.2 0 k - i) i (by omega)
    rw [show i + ((wkF A B).2.2.2.2.2 0 k - i) = (wkF A B).2.2.2.2.2 0 k by omega] at a0
    have a1 := wrLs_len (l := A) t7 _ _ c.1
    have b1 := wrLs_len (l := B) t8 _ _ c.2
    show (wrLs (am_txt 29) A ((wkF A B).2.2.2.2.2 0 k - i) i ++ (wrLs (am_txt 30) A ((wkF A B).2.2.2.2.2 1 k) ((wkF A B).2.2.2.2.2 0 k) ++ (wrLs (am_txt 31) B ((wkF A B).2.2.2.2.2 3 k) ((wkF A B).2.2.2.2.2 2 k) ++ hbL A B (wkF A B).2.2.2.2.2 aT d (k + 1) ((wkF A B).2.2.2.2.2 0 k + (wkF A B).2.2.2.2.2 1 k)))).length + _ + _ ≤ _
    simp only [List.length_append]
    rw [if_neg (Nat.succ_ne_zero d), if_neg (Nat.succ_ne_zero d)]
    rcases Nat.eq_zero_or_pos d with z | z
    · subst z
      obtain rfl : k = l1 := by omega
      have ih := hbL_len hl haT haT2 0 (k + 1) ((wkF A B).2.2.2.2.2 0 k + (wkF A B).2.2.2.2.2 1 k) (by omega) (fun _ => haT) (fun q => absurd q (Nat.lt_irrefl 0))
      rw [if_pos rfl, if_pos rfl] at ih
      omega
    · have s := wkF_s (A := A) (B := B) (k := k) (by omega)
      have ih := hbL_len hl haT haT2 d (k + 1) ((wkF A B).2.2.2.2.2 0 k + (wkF A B).2.2.2.2.2 1 k) (by omega) (fun q => by omega) (fun _ => Nat.le_of_lt s.1)
      rw [if_neg (by omega), if_neg (by omega)] at ih
      have c2 := wkF_c (A := A) (B := B) (k := k + 1) (by omega)
      have p2 := Pw_le (c := 1) (l := B) (Nat.le_of_lt s.2.1) (by omega)
      omega
theorem hkL_len {ar f l1 : Nat} (hfl : f ≤ l1) (hl : l1 < (wkF A B).2.2.2.2.1) : (hkL A B (wkF A B).2.2.2.2.1 (wkF A B).2.2.2.2.2 ar f l1).length + Pw 1 A ((wkF A B).2.2.2.2.2 0 f - min ar ((wkF A B).2.2.2.2.2 0 f)) + Pw 1 B ((wkF A B).2.2.2.2.2 2 f) ≤ 36 + Pw 1 A ((wkF A B).2.2.2.2.2 0 l1 + (wkF A B).2.2.2.2.2 1 l1 + min ar (pbh A (wkF A B).2.2.2.2.1 (wkF A B).2.2.2.2.2 l1)) + Pw 1 B ((wkF A B).2.2.2.2.2 2 l1 + (wkF A B).2.2.2.2.2 3 l1) := by
  have p := wkF_p (A := A) (B := B) hl
  have h := hbL_len (A := A) (B := B) (aT := (wkF A B).2.2.2.2.2 0 l1 + (wkF A B).2.2.2.2.2 1 l1 + min ar (pbh A (wkF A B).2.2.2.2.1 (wkF A B).2.2.2.2.2 l1)) hl (by omega) (by omega) (l1 + 1 - f) f ((wkF A B).2.2.2.2.2 0 f - min ar ((wkF A B).2.2.2.2.2 0 f)) (by omega) (fun q => by omega) (fun _ => by omega)
  rw [if_neg (by omega), if_neg (by omega)] at h
  unfold hkL
  rw [List.length_append]
  have hd := hdL_len (a := fnm ((wkF A B).2.2.2.2.2 0 f - min ar ((wkF A B).2.2.2.2.2 0 f)) ((wkF A B).2.2.2.2.2 0 l1 + (wkF A B).2.2.2.2.2 1 l1 + min ar (pbh A (wkF A B).2.2.2.2.1 (wkF A B).2.2.2.2.2 l1))) (n := (wkF A B).2.2.2.2.2 0 l1 + (wkF A B).2.2.2.2.2 1 l1 + min ar (pbh A (wkF A B).2.2.2.2.1 (wkF A B).2.2.2.2.2 l1) - ((wkF A B).2.2.2.2.2 0 f - min ar ((wkF A B).2.2.2.2.2 0 f))) (b := fnm ((wkF A B).2.2.2.2.2 2 f - min ar ((wkF A B).2.2.2.2.2 0 f)) ((wkF A B).2.2.2.2.2 2 l1 + (wkF A B).2.2.2.2.2 3 l1 + min ar (pbh A (wkF A B).2.2.2.2.1 (wkF A B).2.2.2.2.2 l1))) (m := (wkF A B).2.2.2.2.2 2 l1 + (wkF A B).2.2.2.2.2 3 l1 + min ar (pbh A (wkF A B).2.2.2.2.1 (wkF A B).2.2.2.2.2 l1) - ((wkF A B).2.2.2.2.2 2 f - min ar ((wkF A B).2.2.2.2.2 0 f)))
  omega
theorem unLs_len {ar : Nat} : ∀ d k f, k + d = (wkF A B).2.2.2.2.1 → 0 < d → f ≤ k → (unLs A B (wkF A B).2.2.2.2.1 (wkF A B).2.2.2.2.2 ar d k f).length + Pw 1 A ((wkF A B).2.2.2.2.2 0 f - min ar ((wkF A B).2.2.2.2.2 0 f)) + Pw 1 B ((wkF A B).2.2.2.2.2 2 f) ≤ 36 * d + Pw 1 A (lnum A) + Pw 1 B (lnum B)
  | 0, k, f, _, hd, _ => absurd hd (Nat.lt_irrefl 0)
  | d + 1, k, f, h, _, hf => by
    have p := wkF_p (A := A) (B := B) (k := k) (by omega)
    have hk := hkL_len (A := A) (B := B) (ar := ar) hf (show k < (wkF A B).2.2.2.2.1 by omega)
    unfold unLs
    split
    · rename_i q
      rw [List.length_append]
      rcases Nat.eq_zero_or_pos d with z | z
      · subst z
        have e0 : (unLs A B (wkF A B).2.2.2.2.1 (wkF A B).2.2.2.2.2 ar 0 (k + 1) (k + 1)).length = 0 := rfl
        have p1 := Pw_le (c := 1) (l := A) (i := (wkF A B).2.2.2.2.2 0 k + (wkF A B).2.2.2.2.2 1 k + min ar (pbh A (wkF A B).2.2.2.2.1 (wkF A B).2.2.2.2.2 k)) (j := lnum A) (by omega) (Nat.le_refl _)
        have p2 := Pw_le (c := 1) (l := B) (i := (wkF A B).2.2.2.2.2 2 k + (wkF A B).2.2.2.2.2 3 k) (j := lnum B) (by omega) (Nat.le_refl _)
        omega
      · have ih := unLs_len (ar := ar) d (k + 1) (k + 1) (by omega) z (Nat.le_refl _)
        have p3 := p.2.2 (by omega)
        have c2 := wkF_c (A := A) (B := B) (k := k + 1) (by omega)
        have p1 := Pw_le (c := 1) (l := A) (i := (wkF A B).2.2.2.2.2 0 k + (wkF A B).2.2.2.2.2 1 k + min ar (pbh A (wkF A B).2.2.2.2.1 (wkF A B).2.2.2.2.2 k)) (j := (wkF A B).2.2.2.2.2 0 (k + 1) - min ar ((wkF A B).2.2.2.2.2 0 (k + 1))) (by omega) (by omega)
        have p2 := Pw_le (c := 1) (l := B) (i := (wkF A B).2.2.2.2.2 2 k + (wkF A B).2.2.2.2.2 3 k) (j := (wkF A B).2.2.2.2.2 2 (k + 1)) (by omega) (by omega)
        omega
    · rename_i q
      have ih := unLs_len (ar := ar) d (k + 1) f (by omega) (by omega) (by omega)
      omega
theorem un_20 {ar : Nat} (h1 : A.length ≤ 2000) (h2 : B.length ≤ 2000) (h3 : lnum A ≤ 200) (h4 : lnum B ≤ 200) : (unL A B (wkF A B).2.2.2.2.1 (wkF A B).2.2.2.2.2 ar).length ≤ 20000 := by
  unfold unL
  rcases Nat.eq_zero_or_pos (wkF A B).2.2.2.2.1 with z | z
  · rw [z]
    exact Nat.zero_le _
  · obtain ⟨-, -, -, -, -, -, -, -, t9⟩ := t2x
    have := unLs_len (A := A) (B := B) (ar := ar) (wkF A B).2.2.2.2.1 0 0 (by omega) z (Nat.le_refl _)
    have n := wkF_n (A := A) (B := B)
    have p1 := Pw_max (c := 1) h1 h3 (by omega)
    have p2 := Pw_max (c := 1) h2 h4 (by omega)
    rw [if_pos z, List.length_append]
    omega
end LN
