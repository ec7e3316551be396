/-! two heirs joined -/
def prtB (l m : List Int32) : Nat → Nat → Nat → Bool
  | 0, _, _ => true
  | d + 1, i, j => decide (alk l m i j) && prtB l m d (i + 1) (j + 1)
def prt (l m : List Int32) (xf xt yf yt : Nat) : Bool := decide (xt - xf = yt - yf) && prtB l m (xt - xf) xf yf
def jnX (A B : List Int32) (aF aT bF bT : Nat) (s : List Int32 × Bool) : List Int32 × Bool :=
  ((adL B (bT - bF) bF ((adL A (aT - aF) aF (s.1 ++ (cl s.2 ++ am_txt 12), false)).1 ++ (cl (adL A (aT - aF) aF (s.1 ++ (cl s.2 ++ am_txt 12), false)).2 ++ am_txt 13), false)).1 ++ (cl (adL B (bT - bF) bF ((adL A (aT - aF) aF (s.1 ++ (cl s.2 ++ am_txt 12), false)).1 ++ (cl (adL A (aT - aF) aF (s.1 ++ (cl s.2 ++ am_txt 12), false)).2 ++ am_txt 13), false)).2 ++ am_txt 14), false)
/-- one part: (clashes, what comes) -/
def jnP (O A B : List Int32) (oF oT aF aT bF bT : Nat) (s : Nat × (List Int32 × Bool)) : Nat × (List Int32 × Bool) :=
  if prt O A oF oT aF aT = true then (s.1, adL B (bT - bF) bF s.2) else if prt O B oF oT bF bT = true ∨ prt A B aF aT bF bT = true then (s.1, adL A (aT - aF) aF s.2) else (s.1 + 1, jnX A B aF aT bF bT s.2)
def jn (O A B : List Int32) (pa pb : Nat → Nat) : Nat → Nat → Nat → Nat → Nat → Nat × (List Int32 × Bool) → Nat × (List Int32 × Bool)
  | 0, _, oF, aF, bF, s => jnP O A B oF (lnum O) aF (lnum A) bF (lnum B) s
  | d + 1, i, oF, aF, bF, s => if 0 < pa i ∧ 0 < pb i then jn O A B pa pb d (i + 1) (i + 1) (pa i) (pb i) ((jnP O A B oF i aF (pa i - 1) bF (pb i - 1) s).1, adL O 1 i (jnP O A B oF i aF (pa i - 1) bF (pb i - 1) s).2) else jn O A B pa pb d (i + 1) oF aF bF s
def jnF (O A B : List Int32) : Nat × (List Int32 × Bool) := jn O A B (wkF O A).2.2.2.1 (wkF O B).2.2.2.1 (lnum O) 0 0 0 0 (0, ([], false))
/-- a line that is not the last ends with 10 -/
theorem line_10 {l : List Int32} {i : Nat} (h : i + 1 < lnum l) : ¬ opE (gl l) (lsta l i) (lsta l (i + 1)) := by
  have r := lsta_rise (l := l) (k := i) (by omega)
  rintro (z | z)
  · omega
  · exact z (lsta_ten h)
theorem adL_2 {l : List Int32} : ∀ (d i : Nat) (s : List Int32 × Bool), i + d < lnum l → 0 < d → (adL l d i s).2 = false
  | 0, i, s, _, h => absurd h (Nat.lt_irrefl 0)
  | d + 1, i, s, h, _ => by
    unfold adL
    rcases Nat.eq_zero_or_pos d with q | q
    · subst q
      show decide (opE (gl l) (lsta l i) (lsta l (i + 1))) = false
      exact decide_eq_false (line_10 (l := l) (i := i) (by omega))
    · exact adL_2 d (i + 1) _ (by omega) q
theorem adL_cl {l : List Int32} {d i : Nat} {s : List Int32 × Bool} (h : i + d < lnum l) (hs : s.2 = false) : (adL l d i s).2 = false := by
  rcases Nat.eq_zero_or_pos d with q | q
  · subst q
    exact hs
  · exact adL_2 d i s h q
theorem cl_len {e : Bool} : (cl e).length ≤ 1 := by
  cases e <;> simp [cl]
/-- lines make what comes longer by themselves, and by a 10 before them -/
theorem adL_len {l : List Int32} : ∀ (d i : Nat) (s : List Int32 × Bool), i + d ≤ lnum l → (adL l d i s).1.length + lsta l i ≤ s.1.length + (cl s.2).length + lsta l (i + d)
  | 0, i, s, _ => by
    show s.1.length + _ ≤ _
    rw [Nat.add_zero]
    omega
  | d + 1, i, s, h => by
    have r := lsta_rise (l := l) (k := i) (by omega)
    have ih := adL_len (l := l) d (i + 1) (ad1 (gl l) (lsta l i) (lsta l (i + 1)) s) (by omega)
    unfold adL
    rw [show i + (d + 1) = i + 1 + d by omega]
    have e1 : (ad1 (gl l) (lsta l i) (lsta l (i + 1)) s).1.length = s.1.length + ((cl s.2).length + (lsta l (i + 1) - lsta l i)) := by
      unfold ad1
      simp only [List.length_append, slc_len]
    rcases Nat.eq_zero_or_pos d with q | q
    · subst q
      show (ad1 (gl l) (lsta l i) (lsta l (i + 1)) s).1.length + _ ≤ _
      rw [e1, Nat.add_zero]
      omega
    · have e2 : (ad1 (gl l) (lsta l i) (lsta l (i + 1)) s).2 = false := decide_eq_false (line_10 (l := l) (i := i) (by omega))
      rw [e2] at ih
      have e3 : (cl false).length = 0 := rfl
      omega
theorem t12 : (am_txt 12).length = 8 ∧ (am_txt 13).length = 8 ∧ (am_txt 14).length = 8 := by decide +kernel
theorem jnX_len {A B : List Int32} {aF aT bF bT : Nat} {s : List Int32 × Bool} (ha : aF ≤ aT) (ha2 : aT ≤ lnum A) (hb : bF ≤ bT) (hb2 : bT ≤ lnum B) : (jnX A B aF aT bF bT s).1.length + lsta A aF + lsta B bF ≤ s.1.length + 29 + lsta A aT + lsta B bT := by
  unfold jnX
  have h1 := adL_len (l := A) (aT - aF) aF (s.1 ++ (cl s.2 ++ am_txt 12), false) (by omega)
  have c1 := cl_len (e := s.2)
  have c2 := cl_len (e := (adL A (aT - aF) aF (s.1 ++ (cl s.2 ++ am_txt 12), false)).2)
  generalize adL A (aT - aF) aF (s.1 ++ (cl s.2 ++ am_txt 12), false) = v at *
  have h2 := adL_len (l := B) (bT - bF) bF (v.1 ++ (cl v.2 ++ am_txt 13), false) (by omega)
  have c3 := cl_len (e := (adL B (bT - bF) bF (v.1 ++ (cl v.2 ++ am_txt 13), false)).2)
  generalize adL B (bT - bF) bF (v.1 ++ (cl v.2 ++ am_txt 13), false) = w at *
  rw [show aF + (aT - aF) = aT by omega] at h1
  rw [show bF + (bT - bF) = bT by omega] at h2
  have e3 : (cl false).length = 0 := rfl
  simp only [List.length_append, t12, e3] at *
  omega
theorem jnP_len {O A B : List Int32} {oF oT aF aT bF bT : Nat} {s : Nat × (List Int32 × Bool)} (ha : aF ≤ aT) (ha2 : aT ≤ lnum A) (hb : bF ≤ bT) (hb2 : bT ≤ lnum B) : (jnP O A B oF oT aF aT bF bT s).2.1.length + lsta A aF + lsta B bF ≤ s.2.1.length + 29 + lsta A aT + lsta B bT ∧ (jnP O A B oF oT aF aT bF bT s).1 ≤ s.1 + 1 := by
  have h1 := adL_len (l := A) (aT - aF) aF s.2 (by omega)
  have h2 := adL_len (l := B) (bT - bF) bF s.2 (by omega)
  rw [show aF + (aT - aF) = aT by omega] at h1
  rw [show bF + (bT - bF) = bT by omega] at h2
  have c1 := cl_len (e := s.2.2)
  have m1 := l_mono (T := A) (k := aF) (d := aT - aF) (by omega)
  have m2 := l_mono (T := B) (k := bF) (d := bT - bF) (by omega)
  rw [show aF + (aT - aF) = aT by omega] at m1
  rw [show bF + (bT - bF) = bT by omega] at m2
  unfold jnP
  split
  · exact ⟨by show (adL B (bT - bF) bF s.2).1.length + _ + _ ≤ _; omega, Nat.le_succ _⟩
  split
  · exact ⟨by show (adL A (aT - aF) aF s.2).1.length + _ + _ ≤ _; omega, Nat.le_succ _⟩
  · exact ⟨jnX_len ha ha2 hb hb2, Nat.le_refl _⟩
/-- partners: those behind i are behind f -/
def pOK (O A : List Int32) (p : Nat → Nat) (i f : Nat) : Prop := f ≤ lnum A ∧ ∀ x, i ≤ x → x < lnum O → 0 < p x → f < p x ∧ p x ≤ lnum A ∧ line O x = line A (p x - 1) ∧ ∀ y, x < y → y < lnum O → 0 < p y → p x < p y
theorem pOK_0 {O A : List Int32} : pOK O A (wkF O A).2.2.2.1 0 0 := by
  obtain ⟨hI, e1, e2⟩ := wkF_I (A := O) (B := A)
  obtain ⟨h1, h2, h3, h4, h5, h6, h7, h8, h9, h10, h11, h12⟩ := hI
  rw [e1] at h10 h11 h12
  refine ⟨Nat.zero_le _, fun x _ hx hp => ⟨hp, ?_, h11 x hx hp, fun y hxy hy hp2 => h12 x y hxy hy hp2⟩⟩
  have := h10 x hx
  omega
theorem pOK_s {O A : List Int32} {p : Nat → Nat} {i f : Nat} (h : pOK O A p i f) : pOK O A p (i + 1) f := ⟨h.1, fun x h1 h2 h3 => h.2 x (by omega) h2 h3⟩
theorem pOK_n {O A : List Int32} {p : Nat → Nat} {i f : Nat} (h : pOK O A p i f) (hi : i < lnum O) (hp : 0 < p i) : pOK O A p (i + 1) (p i) ∧ f ≤ p i - 1 ∧ p i ≤ lnum A ∧ line O i = line A (p i - 1) := by
  obtain ⟨g1, g2, g3, g4⟩ := h.2 i (Nat.le_refl _) hi hp
  exact ⟨⟨g2, fun x h1 h2 h3 => ⟨g4 x (by omega) h2 h3, (h.2 x (by omega) h2 h3).2⟩⟩, by omega, g2, g3⟩
/-- alike lines are open alike -/
theorem line_op {l m : List Int32} {i j : Nat} (h : line l i = line m j) (hi : i < lnum l) (hj : j < lnum m) : opE (gl l) (lsta l i) (lsta l (i + 1)) → opE (gl m) (lsta m j) (lsta m (j + 1)) := by
  have r1 := lsta_rise hi
  have r2 := lsta_rise hj
  unfold line at h
  have hl := congrArg List.length h
  rw [slc_len, slc_len] at hl
  rintro (z | z)
  · omega
  · right
    intro y
    apply z
    rw [hl] at h
    have := slc_inj h (lsta m (j + 1) - lsta m j - 1) (by omega)
    rw [show lsta l i + (lsta m (j + 1) - lsta m j - 1) = lsta l (i + 1) - 1 by omega, show lsta m j + (lsta m (j + 1) - lsta m j - 1) = lsta m (j + 1) - 1 by omega] at this
    rw [this]
    exact y
/-- what comes may be open only where all has come -/
def jnO (O A B : List Int32) (oF aF bF : Nat) (e : Bool) : Prop := e = true → oF = lnum O ∧ aF = lnum A ∧ bF = lnum B
theorem jnO_n {O A B : List Int32} {pa pb : Nat → Nat} {i oF aF bF : Nat} {s : Nat × (List Int32 × Bool)} (ha : pOK O A pa i aF) (hb : pOK O B pb i bF) (hi : i < lnum O) (hpa : 0 < pa i) (hpb : 0 < pb i) : jnO O A B (i + 1) (pa i) (pb i) (adL O 1 i (jnP O A B oF i aF (pa i - 1) bF (pb i - 1) s).2).2 := by
  obtain ⟨a1, a2, a3, a4⟩ := pOK_n ha hi hpa
  obtain ⟨b1, b2, b3, b4⟩ := pOK_n hb hi hpb
  intro h
  have h : opE (gl O) (lsta O i) (lsta O (i + 1)) := of_decide_eq_true h
  have e1 : i + 1 = lnum O := by
    rcases Nat.lt_or_ge (i + 1) (lnum O) with q | q
    · exact absurd h (line_10 q)
    · omega
  have e2 : pa i = lnum A := by
    rcases Nat.lt_or_ge (pa i) (lnum A) with q | q
    · have := line_op a4 hi (by omega) h
      exact absurd this (line_10 (by omega))
    · omega
  have e3 : pb i = lnum B := by
    rcases Nat.lt_or_ge (pb i) (lnum B) with q | q
    · have := line_op b4 hi (by omega) h
      exact absurd this (line_10 (by omega))
    · omega
  exact ⟨e1, e2, e3⟩
/-- how long it is at most -/
theorem jn_len {O A B : List Int32} {pa pb : Nat → Nat} : ∀ (d i oF aF bF : Nat) (s : Nat × (List Int32 × Bool)), i + d = lnum O → pOK O A pa i aF → pOK O B pb i bF → (jn O A B pa pb d i oF aF bF s).2.1.length + lsta O i + lsta A aF + lsta B bF ≤ s.2.1.length + 30 * (d + 1) + O.length + A.length + B.length ∧ (jn O A B pa pb d i oF aF bF s).1 ≤ s.1 + (d + 1)
  | 0, i, oF, aF, bF, s, h, ha, hb => by
    have := jnP_len (O := O) (A := A) (B := B) (oF := oF) (oT := lnum O) (s := s) ha.1 (Nat.le_refl _) hb.1 (Nat.le_refl _)
    rw [lsta_end, lsta_end] at this
    have ho := lsta_n (l := O) (k := i) (by omega)
    unfold jn
    omega
  | d + 1, i, oF, aF, bF, s, h, ha, hb => by
    have r := lsta_rise (l := O) (k := i) (by omega)
    unfold jn
    split
    · rename_i q
      obtain ⟨a1, a2, a3, a4⟩ := pOK_n ha (by omega) q.1
      obtain ⟨b1, b2, b3, b4⟩ := pOK_n hb (by omega) q.2
      have g := jnP_len (O := O) (A := A) (B := B) (oF := oF) (oT := i) (s := s) a2 (by omega) b2 (by omega)
      have g2 := adL_len (l := O) 1 i (jnP O A B oF i aF (pa i - 1) bF (pb i - 1) s).2 (by omega)
      have c := cl_len (e := (jnP O A B oF i aF (pa i - 1) bF (pb i - 1) s).2.2)
      have m1 := lsta_rise (l := A) (k := pa i - 1) (by omega)
      have m2 := lsta_rise (l := B) (k := pb i - 1) (by omega)
      rw [show pa i - 1 + 1 = pa i by omega] at m1
      rw [show pb i - 1 + 1 = pb i by omega] at m2
      have ih := jn_len d (i + 1) (i + 1) (pa i) (pb i) ((jnP O A B oF i aF (pa i - 1) bF (pb i - 1) s).1, adL O 1 i (jnP O A B oF i aF (pa i - 1) bF (pb i - 1) s).2) (by omega) a1 b1
      simp only at ih
      omega
    · have ih := jn_len d (i + 1) oF aF bF s (by omega) (pOK_s ha) (pOK_s hb)
      omega
theorem jnF_len {O A B : List Int32} (h1 : O.length ≤ 2000) (h2 : A.length ≤ 2000) (h3 : B.length ≤ 2000) (h4 : lnum O ≤ 200) : (jnF O A B).2.1.length ≤ 20000 ∧ (jnF O A B).1 ≤ 201 := by
  have := jn_len (O := O) (A := A) (B := B) (lnum O) 0 0 0 0 (0, ([], false)) (by omega) pOK_0 pOK_0
  unfold jnF
  simp only [List.length_nil] at this
  omega
