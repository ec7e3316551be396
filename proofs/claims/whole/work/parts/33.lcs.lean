/-! THE SHORTEST SCRIPT, as numbers: the table, the walk -/
def lcr (al : Nat → Nat → Bool) (na nb : Nat) : Nat → Nat → Nat
  | 0, _ => 0
  | _ + 1, 0 => 0
  | p + 1, q + 1 => if al (na - (p + 1)) (nb - (q + 1)) = true then lcr al na nb p q + 1 else max (lcr al na nb p (q + 1)) (lcr al na nb (p + 1) q)
termination_by p q => (p, q)
def alb (A B : List Int32) (i j : Nat) : Bool := decide (line A i = line B j)
def lcs (A B : List Int32) (i j : Nat) : Nat := lcr (alb A B) (lnum A) (lnum B) (lnum A - i) (lnum B - j)
theorem lcs_a {A B : List Int32} {i j : Nat} (h : lnum A ≤ i) : lcs A B i j = 0 := by
  unfold lcs
  rw [show lnum A - i = 0 by omega, lcr]
theorem lcs_b {A B : List Int32} {i j : Nat} (h : lnum B ≤ j) : lcs A B i j = 0 := by
  unfold lcs
  rw [show lnum B - j = 0 by omega]
  cases lnum A - i with
  | zero => rw [lcr]
  | succ p => rw [lcr]
theorem lcs_eq {A B : List Int32} {i j : Nat} (hi : i < lnum A) (hj : j < lnum B) : lcs A B i j = if line A i = line B j then lcs A B (i + 1) (j + 1) + 1 else max (lcs A B (i + 1) j) (lcs A B i (j + 1)) := by
  unfold lcs
  obtain ⟨p, hp⟩ : ∃ p, lnum A - i = p + 1 := ⟨lnum A - i - 1, by omega⟩
  obtain ⟨q, hq⟩ : ∃ q, lnum B - j = q + 1 := ⟨lnum B - j - 1, by omega⟩
  rw [hp, hq, show lnum A - (i + 1) = p by omega, show lnum B - (j + 1) = q by omega, lcr, show lnum A - (p + 1) = i by omega, show lnum B - (q + 1) = j by omega]
  unfold alb
  simp only [decide_eq_true_eq]
theorem lcr_le {al : Nat → Nat → Bool} {na nb : Nat} : ∀ p q, lcr al na nb p q ≤ p
  | 0, q => by rw [lcr]; exact Nat.le_refl _
  | p + 1, 0 => by rw [lcr]; exact Nat.zero_le _
  | p + 1, q + 1 => by
    rw [lcr]
    have h1 := lcr_le (al := al) (na := na) (nb := nb) p q
    have h2 := lcr_le (al := al) (na := na) (nb := nb) p (q + 1)
    have h3 := lcr_le (al := al) (na := na) (nb := nb) (p + 1) q
    split
    · omega
    · omega
theorem lcs_le {A B : List Int32} {i j : Nat} : lcs A B i j ≤ lnum A := Nat.le_trans (lcr_le _ _) (Nat.sub_le _ _)
/-- how far in both, whether in a change, the partners (from 1 on; 0: none), the changes: their number, and ahead in a, going, ahead in b, coming -/
abbrev Wk : Type := Nat × Nat × Bool × (Nat → Nat) × Nat × (Nat → Nat → Nat)
def upn (f : Nat → Nat) (k v : Nat) : Nat → Nat := fun x => if x = k then v else f x
def upC (C : Nat → Nat → Nat) (w k v : Nat) : Nat → Nat → Nat := fun x y => if x = w ∧ y = k then v else C x y
/-- a change begins, unless one is open -/
def wkB (w : Wk) : Wk := if w.2.2.1 then w else (w.1, w.2.1, true, w.2.2.2.1, w.2.2.2.2.1 + 1, upC (upC (upC (upC w.2.2.2.2.2 0 w.2.2.2.2.1 w.1) 2 w.2.2.2.2.1 w.2.1) 1 w.2.2.2.2.1 0) 3 w.2.2.2.2.1 0)
def wkG (w : Wk) : Wk := (w.1 + 1, w.2.1, true, upn w.2.2.2.1 w.1 0, w.2.2.2.2.1, upC w.2.2.2.2.2 1 (w.2.2.2.2.1 - 1) (w.2.2.2.2.2 1 (w.2.2.2.2.1 - 1) + 1))
def wkC (w : Wk) : Wk := (w.1, w.2.1 + 1, true, w.2.2.2.1, w.2.2.2.2.1, upC w.2.2.2.2.2 3 (w.2.2.2.2.1 - 1) (w.2.2.2.2.2 3 (w.2.2.2.2.1 - 1) + 1))
def wkP (w : Wk) : Wk := (w.1 + 1, w.2.1 + 1, false, upn w.2.2.2.1 w.1 (w.2.1 + 1), w.2.2.2.2.1, w.2.2.2.2.2)
abbrev goes (A B : List Int32) (i j : Nat) : Prop := i < lnum A ∧ (lnum B ≤ j ∨ lcs A B i (j + 1) ≤ lcs A B (i + 1) j)
def wk1 (A B : List Int32) (w : Wk) : Wk := if alk A B w.1 w.2.1 then wkP w else if goes A B w.1 w.2.1 then wkG (wkB w) else wkC (wkB w)
def wk (A B : List Int32) : Nat → Wk → Wk
  | 0, w => w
  | k + 1, w => if w.1 < lnum A ∨ w.2.1 < lnum B then wk A B k (wk1 A B w) else w
def wk0 : Wk := (0, 0, false, fun _ => 0, 0, fun _ _ => 0)
/-- the SCRIPT of A to B -/
def wkF (A B : List Int32) : Wk := wk A B (lnum A + lnum B) wk0
/-- what holds on the walk -/
def wkI (A B : List Int32) (w : Wk) : Prop :=
  w.1 ≤ lnum A ∧ w.2.1 ≤ lnum B ∧ w.2.2.2.2.1 ≤ w.1 + 1 ∧ (w.2.2.1 = false → w.2.2.2.2.1 ≤ w.1) ∧ (w.2.2.1 = true → 1 ≤ w.2.2.2.2.1)
  ∧ (w.2.2.2.2.1 = 0 → w.1 = w.2.1)
  ∧ (∀ k, k + 1 = w.2.2.2.2.1 → w.2.2.2.2.2 0 k + w.2.2.2.2.2 1 k ≤ w.1 ∧ w.2.2.2.2.2 2 k + w.2.2.2.2.2 3 k ≤ w.2.1 ∧ w.1 + (w.2.2.2.2.2 2 k + w.2.2.2.2.2 3 k) = w.2.1 + (w.2.2.2.2.2 0 k + w.2.2.2.2.2 1 k) ∧ (w.2.2.1 = true → w.2.2.2.2.2 0 k + w.2.2.2.2.2 1 k = w.1) ∧ (w.2.2.1 = false → w.2.2.2.2.2 0 k + w.2.2.2.2.2 1 k < w.1))
  ∧ (∀ k, k + 1 < w.2.2.2.2.1 → w.2.2.2.2.2 0 k + w.2.2.2.2.2 1 k < w.2.2.2.2.2 0 (k + 1) ∧ w.2.2.2.2.2 2 k + w.2.2.2.2.2 3 k ≤ w.2.2.2.2.2 2 (k + 1) ∧ w.2.2.2.2.2 0 (k + 1) + (w.2.2.2.2.2 2 k + w.2.2.2.2.2 3 k) = w.2.2.2.2.2 2 (k + 1) + (w.2.2.2.2.2 0 k + w.2.2.2.2.2 1 k))
  ∧ (0 < w.2.2.2.2.1 → w.2.2.2.2.2 0 0 = w.2.2.2.2.2 2 0)
  ∧ (∀ x, x < w.1 → w.2.2.2.1 x ≤ w.2.1)
  ∧ (∀ x, x < w.1 → 0 < w.2.2.2.1 x → line A x = line B (w.2.2.2.1 x - 1))
  ∧ (∀ x y, x < y → y < w.1 → 0 < w.2.2.2.1 y → w.2.2.2.1 x < w.2.2.2.1 y)
theorem wkI_0 {A B : List Int32} : wkI A B wk0 := by
  refine ⟨Nat.zero_le _, Nat.zero_le _, Nat.zero_le _, fun _ => Nat.zero_le _, fun h => (by cases h), fun _ => rfl, fun k h => (by cases h), fun k h => (by cases h), fun h => (by cases h), fun x h => (by cases h), fun x h => (by cases h), fun x y _ h => (by cases h)⟩
theorem wkI_P {A B : List Int32} {w : Wk} (h : wkI A B w) (ha : alk A B w.1 w.2.1) : wkI A B (wkP w) := by
  obtain ⟨i, j, o, p, n, C⟩ := w
  obtain ⟨h1, h2, h3, h4, h5, h6, h7, h8, h9, h10, h11, h12⟩ := h
  obtain ⟨a1, a2, a3⟩ := ha
  dsimp only [wkP] at *
  refine ⟨a1, a2, by dsimp only; omega, fun _ => h3, fun q => (by cases q), fun q => by have := h6 q; dsimp only; omega, fun k hk => ?_, h8, h9, fun x hx => ?_, fun x hx hp => ?_, fun x y hxy hy hp => ?_⟩
  · obtain ⟨z1, z2, z3, z4, z5⟩ := h7 k hk
    dsimp only at *
    refine ⟨by omega, by omega, by omega, fun q => (by cases q), fun _ => by omega⟩
  · dsimp only [upn] at *
    split
    · omega
    · have := h10 x (by omega); omega
  · dsimp only [upn] at *
    split
    · rename_i e; subst e; exact a3
    · rename_i e; rw [if_neg e] at hp; exact h11 x (by omega) hp
  · dsimp only [upn] at *
    by_cases e : y = i
    · rw [if_pos e, if_neg (by omega)]
      have := h10 x (by omega); omega
    · rw [if_neg e] at hp ⊢
      rw [if_neg (by omega)]
      exact h12 x y hxy (by omega) hp
theorem wkI_B {A B : List Int32} {w : Wk} (h : wkI A B w) : wkI A B (wkB w) ∧ (wkB w).2.2.1 = true ∧ (wkB w).1 = w.1 ∧ (wkB w).2.1 = w.2.1 ∧ (wkB w).2.2.2.1 = w.2.2.2.1 := by
  obtain ⟨i, j, o, p, n, C⟩ := w
  cases o with
  | true => exact ⟨h, rfl, rfl, rfl, rfl⟩
  | false =>
    refine ⟨?_, rfl, rfl, rfl, rfl⟩
    obtain ⟨h1, h2, h3, h4, h5, h6, h7, h8, h9, h10, h11, h12⟩ := h
    have h4 := h4 rfl
    show wkI A B (i, j, true, p, n + 1, upC (upC (upC (upC C 0 n i) 2 n j) 1 n 0) 3 n 0)
    dsimp only at h1 h2 h3 h4 h5 h6 h7 h8 h9 h10 h11 h12
    unfold wkI
    dsimp only
    refine ⟨h1, h2, by omega, fun q => (by cases q), fun _ => by omega, fun q => (by cases q), fun k hk => ?_, fun k hk => ?_, fun _ => ?_, h10, h11, h12⟩
    · have e : k = n := by omega
      subst e
      simp [upC]
      omega
    · by_cases e : k + 1 = n
      · have e2 : ¬ k = n := by omega
        obtain ⟨z1, z2, z3, z4, z5⟩ := h7 k e
        have z5 := z5 rfl
        simp [upC, e, e2]
        omega
      · have e2 : ¬ k = n := by omega
        have := h8 k (by omega)
        simp only [upC, e, e2, and_false, ↓reduceIte]
        exact this
    · by_cases e : n = 0
      · subst e
        have := h6 rfl
        simp [upC]
        exact this
      · have := h9 (by omega)
        have e2 : ¬ 0 = n := by omega
        simp only [upC, e2, and_false, ↓reduceIte]
        exact this
theorem wkI_G {A B : List Int32} {w : Wk} (h : wkI A B w) (ho : w.2.2.1 = true) (hi : w.1 < lnum A) : wkI A B (wkG w) := by
  obtain ⟨i, j, o, p, n, C⟩ := w
  obtain ⟨h1, h2, h3, h4, h5, h6, h7, h8, h9, h10, h11, h12⟩ := h
  have h5 := h5 ho
  dsimp only [wkG] at *
  refine ⟨hi, h2, by dsimp only; omega, fun q => (by cases q), fun _ => h5, fun q => by dsimp only at q; omega, fun k hk => ?_, fun k hk => ?_, fun _ => ?_, fun x hx => ?_, fun x hx hp => ?_, fun x y hxy hy hp => ?_⟩
  · obtain ⟨z1, z2, z3, z4, z5⟩ := h7 k hk
    have z4 := z4 ho
    have e : k = n - 1 := by dsimp only at hk; omega
    dsimp only at *
    simp [upC, ← e]
    omega
  · dsimp only at *
    have e2 : ¬ k = n - 1 := by omega
    have := h8 k hk
    simp [upC, e2]
    omega
  · dsimp only at *
    have := h9 (by omega)
    simp [upC]
    exact this
  · dsimp only [upn] at *
    split
    · omega
    · exact h10 x (by omega)
  · dsimp only [upn] at *
    split
    · rename_i e; rw [if_pos e] at hp; omega
    · rename_i e; rw [if_neg e] at hp; exact h11 x (by omega) hp
  · dsimp only [upn] at *
    by_cases e : y = i
    · rw [if_pos e] at hp; omega
    · rw [if_neg e] at hp ⊢
      rw [if_neg (by omega)]
      exact h12 x y hxy (by omega) hp
theorem wkI_C {A B : List Int32} {w : Wk} (h : wkI A B w) (ho : w.2.2.1 = true) (hj : w.2.1 < lnum B) : wkI A B (wkC w) := by
  obtain ⟨i, j, o, p, n, C⟩ := w
  obtain ⟨h1, h2, h3, h4, h5, h6, h7, h8, h9, h10, h11, h12⟩ := h
  have h5 := h5 ho
  dsimp only [wkC] at *
  refine ⟨h1, hj, by dsimp only; omega, fun q => (by cases q), fun _ => h5, fun q => by dsimp only at q; omega, fun k hk => ?_, fun k hk => ?_, fun _ => ?_, fun x hx => ?_, h11, h12⟩
  · obtain ⟨z1, z2, z3, z4, z5⟩ := h7 k hk
    have z4 := z4 ho
    have e : k = n - 1 := by dsimp only at hk; omega
    dsimp only at *
    simp [upC, ← e]
    omega
  · dsimp only at *
    have e2 : ¬ k = n - 1 := by omega
    have := h8 k hk
    simp [upC, e2]
    omega
  · dsimp only at *
    have := h9 (by omega)
    simp [upC]
    exact this
  · dsimp only at *
    have := h10 x hx
    omega
theorem wkI_1 {A B : List Int32} {w : Wk} (h : wkI A B w) (hc : w.1 < lnum A ∨ w.2.1 < lnum B) : wkI A B (wk1 A B w) ∧ (lnum A - (wk1 A B w).1) + (lnum B - (wk1 A B w).2.1) < (lnum A - w.1) + (lnum B - w.2.1) := by
  unfold wk1
  split
  · rename_i ha
    exact ⟨wkI_P h ha, by obtain ⟨a1, a2, a3⟩ := ha; dsimp only [wkP]; omega⟩
  · rename_i ha
    obtain ⟨b1, b2, b3, b4, b5⟩ := wkI_B h
    split
    · rename_i hg
      exact ⟨wkI_G b1 b2 (by rw [b3]; exact hg.1), by have := hg.1; dsimp only [wkG]; omega⟩
    · rename_i hg
      have hj : w.2.1 < lnum B := by
        rcases Nat.lt_or_ge w.2.1 (lnum B) with q | q
        · exact q
        · exact absurd ⟨by omega, Or.inl q⟩ hg
      exact ⟨wkI_C b1 b2 (by rw [b4]; exact hj), by dsimp only [wkC]; omega⟩
theorem wkI_k {A B : List Int32} : ∀ k w, wkI A B w → (lnum A - w.1) + (lnum B - w.2.1) ≤ k → wkI A B (wk A B k w) ∧ (wk A B k w).1 = lnum A ∧ (wk A B k w).2.1 = lnum B
  | 0, w, h, hm => by
    have h1 := h.1
    have h2 := h.2.1
    exact ⟨h, by rw [wk]; omega, by rw [wk]; omega⟩
  | k + 1, w, h, hm => by
    unfold wk
    split
    · rename_i hc
      obtain ⟨z1, z2⟩ := wkI_1 h hc
      exact wkI_k k _ z1 (by omega)
    · have h1 := h.1
      have h2 := h.2.1
      exact ⟨h, by omega, by omega⟩
theorem wkF_I {A B : List Int32} : wkI A B (wkF A B) ∧ (wkF A B).1 = lnum A ∧ (wkF A B).2.1 = lnum B := wkI_k _ _ wkI_0 (by dsimp only [wk0]; omega)
