/-! bytes, all that is written -/
theorem isb_c {v : Int32} {l : List Int32} (hv : b8 v = v) (h : isb l) : isb (v :: l) := isb_app (l := [v]) (m := l) (isb_1 hv) h
theorem isb_rngL (f k : Nat) : isb (rngL f k) := by
  unfold rngL
  refine isb_app (isb_digs 5) ?_
  split
  · exact isb_c (by decide) (isb_digs 5)
  · exact isb_nil
theorem isb_cntL (f k : Nat) : isb (cntL f k) := by
  unfold cntL
  refine isb_app (isb_digs 5) ?_
  split
  · exact isb_nil
  · exact isb_c (by decide) (isb_digs 5)
theorem isb_crL (f k : Nat) : isb (crL f k) := by
  unfold crL
  split
  · exact isb_digs 5
  · exact isb_rngL _ _
theorem isb_hdL (a n b m : Nat) : isb (hdL a n b m) := isb_app (isb_txt 1) (isb_app (isb_cntL _ _) (isb_app (isb_txt 2) (isb_app (isb_cntL _ _) (isb_txt 3))))
theorem isb_wrLs {j : Nat} {l : List Int32} (hl : isb l) : ∀ k i, i + k ≤ lnum l → isb (wrLs (am_txt j) l k i)
  | 0, i, h => isb_nil
  | k + 1, i, h => by
    have r := lsta_rise (l := l) (k := i) (by omega)
    have r2 := lsta_n (l := l) (k := i + 1) (by omega)
    exact isb_app (isb_app (isb_txt j) (isb_wrL (n := l.length) hl r2 (Nat.le_of_lt r))) (isb_wrLs hl k (i + 1) (by omega))
section IB
variable {A B : List Int32}
theorem isb_nmLs (hA : isb A) (hB : isb B) : ∀ d k, k + d = (wkF A B).2.2.2.2.1 → isb (nmLs A B (wkF A B).2.2.2.2.2 d k)
  | 0, k, h => isb_nil
  | d + 1, k, h => by
    have c := wkF_c (A := A) (B := B) (k := k) (by omega)
    refine isb_app (isb_app (isb_crL _ _) (isb_app (isb_1 (ltr_b8 _ _)) (isb_app (isb_crL _ _) (isb_app (isb_1 (by decide)) (isb_app (isb_wrLs hA _ _ c.1) (isb_app ?_ (isb_wrLs hB _ _ c.2))))))) (isb_nmLs hA hB d (k + 1) (by omega))
    split
    · exact isb_txt 24
    · exact isb_nil
theorem isb_edLs (hB : isb B) : ∀ k, k ≤ (wkF A B).2.2.2.2.1 → isb (edLs B (wkF A B).2.2.2.2.2 k)
  | 0, h => isb_nil
  | k + 1, h => by
    have c := wkF_c (A := A) (B := B) (k := k) (by omega)
    refine isb_app (isb_app (isb_crL _ _) (isb_app (isb_1 (ltr_b8 _ _)) (isb_app (isb_1 (by decide)) (isb_app (isb_wrLs hB _ _ c.2) ?_)))) (isb_edLs hB k (by omega))
    split
    · exact isb_txt 28
    · exact isb_nil
theorem isb_hbL (hA : isb A) (hB : isb B) {aT l1 : Nat} (hl : l1 < (wkF A B).2.2.2.2.1) (haT : (wkF A B).2.2.2.2.2 0 l1 + (wkF A B).2.2.2.2.2 1 l1 ≤ aT) (haT2 : aT ≤ lnum A) : ∀ d k i, k + d = l1 + 1 → (d = 0 → i ≤ aT) → (0 < d → i ≤ (wkF A B).2.2.2.2.2 0 k) → isb (hbL A B (wkF A B).2.2.2.2.2 aT d k i)
  | 0, k, i, h, h0, _ => by
    have h0 := h0 rfl
    exact isb_wrLs hA (aT - i) i (by omega)
  | d + 1, k, i, h, _, h1 => by
    have h1 := h1 (by omega)
    have c := wkF_c (A := A) (B := B) (k := k) (by omega)
    refine isb_app (isb_wrLs hA _ _ (by omega)) (isb_app (isb_wrLs hA _ _ c.1) (isb_app (isb_wrLs hB _ _ c.2) (isb_hbL hA hB hl haT haT2 d (k + 1) _ (by omega) (fun q => ?_) (fun q => ?_))))
    · obtain rfl : k = l1 := by omega
      exact haT
    · exact Nat.le_of_lt (wkF_s (A := A) (B := B) (k := k) (by omega)).1
theorem isb_unLs (hA : isb A) (hB : isb B) {ar : Nat} : ∀ d k f, k + d = (wkF A B).2.2.2.2.1 → f ≤ k → isb (unLs A B (wkF A B).2.2.2.2.1 (wkF A B).2.2.2.2.2 ar d k f)
  | 0, k, f, _, _ => isb_nil
  | d + 1, k, f, h, hf => by
    have p := wkF_p (A := A) (B := B) (k := k) (by omega)
    unfold unLs
    split
    · refine isb_app (isb_app (isb_hdL _ _ _ _) (isb_hbL hA hB (l1 := k) (by omega) (by omega) (by omega) _ _ _ (by omega) (fun q => by omega) (fun _ => by omega))) (isb_unLs hA hB d (k + 1) (k + 1) (by omega) (Nat.le_refl _))
    · exact isb_unLs hA hB d (k + 1) f (by omega) (by omega)
theorem isb_unL (hA : isb A) (hB : isb B) {ar : Nat} : isb (unL A B (wkF A B).2.2.2.2.1 (wkF A B).2.2.2.2.2 ar) := by
  unfold unL
  refine isb_app ?_ (isb_unLs hA hB _ 0 0 (by omega) (Nat.le_refl _))
  split
  · exact isb_txt 26
  · exact isb_nil
theorem isb_sgL {T : List Int32} {s : Sk} {c g cc k : Nat} (hT : isb T) (hI : Iv cc T k s) : ∀ d j, j + d ≤ s.2.1 → isb (sgL T s c (am_txt g) d j)
  | 0, j, h => isb_nil
  | d + 1, j, h => by
    have i3 := hI.2.2.1 j (by omega)
    refine isb_app ?_ (isb_sgL hT hI d (j + 1) (by omega))
    split
    · exact isb_app (isb_txt g) (isb_wrL (n := T.length) hT i3.2 i3.1)
    · exact isb_nil
theorem isb_tnLs {T : List Int32} {s : Sk} {cc k : Nat} (hT : isb T) (hI : Iv cc T k s) : ∀ d i, i + d = s.1.1 → isb (tnLs T s d i)
  | 0, i, h => isb_nil
  | d + 1, i, h => by
    have hb := beh_I hI (i := i) (by omega)
    refine isb_app (isb_app (isb_rngL _ _) (isb_app (isb_1 (ltr_b8 _ _)) (isb_app (isb_rngL _ _) (isb_app (isb_1 (by decide)) (isb_app (isb_sgL hT hI _ _ (by omega)) (isb_app ?_ (isb_sgL hT hI _ _ (by omega)))))))) (isb_tnLs hT hI d (i + 1) (by omega))
    split
    · exact isb_txt 16
    · exact isb_nil
theorem isb_thL {T : List Int32} {s : Sk} {cc k : Nat} (hT : isb T) (hI : Iv cc T k s) : ∀ d j rb, rb ≤ j → j + d ≤ s.2.1 → isb (thL T s d j rb)
  | 0, j, rb, h1, h2 => isb_app (isb_sgL hT hI _ _ (by omega)) (isb_sgL hT hI _ _ (by omega))
  | d + 1, j, rb, h1, h2 => by
    have i3 := hI.2.2.1 j (by omega)
    unfold thL
    split
    · exact isb_app (isb_sgL hT hI _ _ (by omega)) (isb_app (isb_sgL hT hI _ _ (by omega)) (isb_app (isb_app (isb_txt 22) (isb_wrL (n := T.length) hT i3.2 i3.1)) (isb_thL hT hI d (j + 1) (j + 1) (Nat.le_refl _) (by omega))))
    · exact isb_thL hT hI d (j + 1) rb (by omega) (by omega)
theorem isb_tuLs {T : List Int32} {s : Sk} {cc k : Nat} (hT : isb T) (hI : Iv cc T k s) : ∀ d i, i + d = s.1.1 → isb (tuLs T s d i)
  | 0, i, h => isb_nil
  | d + 1, i, h => by
    have hb := beh_I hI (i := i) (by omega)
    exact isb_app (isb_app (isb_hdL _ _ _ _) (isb_thL hT hI _ _ _ (Nat.le_refl _) (by omega))) (isb_tuLs hT hI d (i + 1) (by omega))
theorem isb_tuN {T : List Int32} {s : Sk} (hT : isb T) (hN : 0 < s.1.1 → 4 < lsta T 1 ∧ lsta T 1 + 4 < lsta T 2 ∧ lsta T 2 ≤ T.length) : isb (tuN T s) := by
  unfold tuN
  split
  · rename_i z
    have h := hN z
    exact isb_app (isb_txt 18) (isb_app (isb_sl (n := T.length) hT (by omega)) (isb_app (isb_txt 19) (isb_sl (n := T.length) hT (by omega))))
  · exact isb_nil
end IB
