/-! CLASS AND REFERENCE SIDE BY SIDE: what holds between two calls -/
def tA (t : Nat) : Nat := 30 + 5 * t
theorem tA_T : ∀ t, t < 8 → is_T (tA t) := by
  have h : ∀ t, t < 8 → t = 0 ∨ t = 1 ∨ t = 2 ∨ t = 3 ∨ t = 4 ∨ t = 5 ∨ t = 6 ∨ t = 7 := by omega
  intro t ht
  rcases h t ht with rfl | rfl | rfl | rfl | rfl | rfl | rfl | rfl <;> exact ⟨rfl, ⟨rfl, rfl, fun _ => rfl, ⟨rfl, rfl, rfl⟩, ⟨rfl, rfl, rfl⟩, ⟨rfl, rfl, rfl⟩⟩, ⟨rfl, rfl⟩, ⟨rfl, rfl, rfl⟩, fun _ => ⟨rfl, rfl, rfl⟩, ⟨rfl, rfl, rfl⟩, ⟨rfl, rfl, rfl⟩⟩
theorem tA_in {t : Nat} (h : t < 8) : 30 ≤ tA t ∧ tA t ≤ 65 := by unfold tA; omega
/-- texts -/
def R1 (σ : am_M) (L : Nat → List Int32) : Prop := ∀ t, t < 8 → Tx σ (tA t) (L t) ∧ MT σ t (L t)
/-- a row of bytes of the class at a, and of the reference at b with its length in field k -/
def R2 (σ : am_M) (a b k : Nat) (T : List Int32) : Prop := Bt σ a T ∧ σ.1 a 2 = nI 0 ∧ Bs σ b T ∧ σ.1 80 k = nI T.length
/-- versions, and the comparison that is kept -/
def R4 (q : Nat) (σ : am_M) (L : Nat → List Int32) : Prop := ∃ (v : Nat → Nat) (a b : Nat), a < 8 ∧ b < 8 ∧ σ.2.2 2 = tA a ∧ σ.2.2 3 = tA b ∧ (∀ t, t < 8 → v t ≤ q ∧ σ.1 (tA t) 4 = nI (v t)) ∧ (σ.1 70 9 = mI ∨ ∃ x y, σ.1 70 9 = nI x ∧ σ.1 70 10 = nI y ∧ x ≤ v a ∧ y ≤ v b ∧ (x = v a → y = v b → Cmp σ (L a) (L b)))
/-- the latest hunks -/
def R5 (σ : am_M) : Prop := ∃ (h g n : Nat) (H : Nat → Nat → Int32), ((h = 22 ∧ g = 26) ∨ (h = 26 ∧ g = 22)) ∧ σ.2.2 0 = h ∧ σ.2.2 1 = g ∧ Hk σ h n H ∧ σ.1 80 47 = nI n ∧ (∀ i, i < n → σ.2.1 323 i = H 0 i) ∧ (∀ i, i < n → σ.2.1 324 i = H 1 i) ∧ (∀ i, i < n → σ.2.1 325 i = H 2 i)
/-- the latest fault -/
def R6 (σ : am_M) : Prop := σ.1 80 29 = σ.1 0 12 ∧ σ.1 80 30 = σ.1 0 13
def RR (q : Nat) (σ : am_M) : Prop := ∃ (L : Nat → List Int32) (T O : List Int32), R1 σ L ∧ R2 σ 2 101 6 T ∧ R2 σ 4 102 7 O ∧ R4 q σ L ∧ R5 σ ∧ R6 σ
theorem R1_of {σ τ : am_M} {L : Nat → List Int32} (h : R1 σ L) (h1 : ∀ a k, 30 ≤ a → a ≤ 69 → τ.1 a k = σ.1 a k) (h2 : ∀ a, (30 ≤ a ∧ a ≤ 69) ∨ (82 ≤ a ∧ a ≤ 100) → τ.2.1 a = σ.2.1 a) : R1 τ L := by
  intro t ht
  obtain ⟨x1, x2⟩ := h t ht
  have e : tA t = 30 + 5 * t := rfl
  refine ⟨Tx_of x1 (h1 _ _ (by omega) (by omega)) (h1 _ _ (by omega) (by omega)) (h2 _ (by omega)) (h2 _ (by omega)) (h2 _ (by omega)), MT_of x2 (h2 _ (by omega)) (by rw [h2 _ (by omega)]) (by rw [h2 _ (by omega)]) (h2 _ (by omega))⟩
theorem R2_of {σ τ : am_M} {a b k : Nat} {T : List Int32} (h : R2 σ a b k T) (h1 : ∀ j, τ.1 a j = σ.1 a j) (h2 : τ.2.1 (a + 1) = σ.2.1 (a + 1)) (h3 : τ.2.1 b = σ.2.1 b) (h4 : τ.1 80 k = σ.1 80 k) : R2 τ a b k T :=
  ⟨Bt_of h.1 (h1 1) h2, by rw [h1]; exact h.2.1, Bs_of h.2.2.1 h3, by rw [h4]; exact h.2.2.2⟩
theorem Cmp_of {σ τ : am_M} {A B : List Int32} (h : Cmp σ A B) (h1 : τ.1 70 6 = σ.1 70 6) (h2 : ∀ a, 71 ≤ a → a ≤ 76 → τ.2.1 a = σ.2.1 a) : Cmp τ A B :=
  ⟨fun x y hx hy hxy => by rw [h2 71 (by omega) (by omega)]; exact h.1 x y hx hy hxy, Wr_of h.2 h1 (fun a p q => h2 a (by omega) q)⟩
theorem R4_of {q : Nat} {σ τ : am_M} {L : Nat → List Int32} (h : R4 q σ L) (h1 : ∀ a k, 30 ≤ a → a ≤ 76 → τ.1 a k = σ.1 a k) (h2 : ∀ a, 70 ≤ a → a ≤ 76 → τ.2.1 a = σ.2.1 a) (h3 : τ.2.2 2 = σ.2.2 2) (h4 : τ.2.2 3 = σ.2.2 3) : R4 q τ L := by
  obtain ⟨v, a, b, ha, hb, e1, e2, hv, hc⟩ := h
  refine ⟨v, a, b, ha, hb, by rw [h3]; exact e1, by rw [h4]; exact e2, fun t ht => ⟨(hv t ht).1, by rw [h1 _ _ (by unfold tA; omega) (by unfold tA; omega)]; exact (hv t ht).2⟩, ?_⟩
  rcases hc with hc | ⟨x, y, c1, c2, c3, c4, c5⟩
  · exact Or.inl (by rw [h1 _ _ (by omega) (by omega)]; exact hc)
  · exact Or.inr ⟨x, y, by rw [h1 _ _ (by omega) (by omega)]; exact c1, by rw [h1 _ _ (by omega) (by omega)]; exact c2, c3, c4, fun p r => Cmp_of (c5 p r) (h1 _ _ (by omega) (by omega)) (fun a p r => h2 a (by omega) r)⟩
theorem R4_up {q : Nat} {σ : am_M} {L : Nat → List Int32} (h : R4 q σ L) : R4 (q + 1) σ L := by
  obtain ⟨v, a, b, ha, hb, e1, e2, hv, hc⟩ := h
  exact ⟨v, a, b, ha, hb, e1, e2, fun t ht => ⟨Nat.le_succ_of_le (hv t ht).1, (hv t ht).2⟩, hc⟩
theorem R5_of {σ τ : am_M} (h : R5 σ) (h1 : ∀ a k, 22 ≤ a → a ≤ 29 → τ.1 a k = σ.1 a k) (h2 : ∀ a, (22 ≤ a ∧ a ≤ 29) ∨ (323 ≤ a ∧ a ≤ 325) → τ.2.1 a = σ.2.1 a) (h3 : τ.2.2 0 = σ.2.2 0) (h4 : τ.2.2 1 = σ.2.2 1) (h5 : τ.1 80 47 = σ.1 80 47) : R5 τ := by
  obtain ⟨h, g, n, H, hg, e1, e2, hk, k1, k2, k3, k4⟩ := h
  obtain ⟨q1, q2, q3, q4, q5⟩ := hk
  refine ⟨h, g, n, H, hg, by rw [h3]; exact e1, by rw [h4]; exact e2, ⟨?_, q2, ?_, ?_, ?_⟩, by rw [h5]; exact k1, by rw [h2 _ (by omega)]; exact k2, by rw [h2 _ (by omega)]; exact k3, by rw [h2 _ (by omega)]; exact k4⟩
  · rw [h1 _ _ (by omega) (by omega)]
    exact q1
  · rw [h2 _ (by omega)]
    exact q3
  · rw [h2 _ (by omega)]
    exact q4
  · rw [h2 _ (by omega)]
    exact q5
theorem R6_of {σ τ : am_M} (h : R6 σ) (h1 : τ.1 80 29 = σ.1 80 29) (h2 : τ.1 80 30 = σ.1 80 30) (h3 : ∀ k, τ.1 0 k = σ.1 0 k) : R6 τ := ⟨by rw [h1, h3]; exact h.1, by rw [h2, h3]; exact h.2⟩
/-- a call of both: the answers are the same, and it all holds again -/
def Fin (x : Int32) (q : Nat) (w : Option Value) (K : am_H) : Prop := ∃ υ, w = some (.int x) ∧ K = hh υ ∧ RR (q + 1) υ
def Mid (X : am_X) (mm : Nat) (as : List Value) (q : Nat) (v : Option Value) (H : am_H) : Prop := ∃ x τ, v = some (.int x) ∧ H = hh τ ∧ am_Go X mm 0 (am_entry (am_ml mm) (.ref 80 :: as)) [] (hh τ) (Fin x q)
def Pr (X : am_X) (md mm : Nat) (as : List Value) (q : Nat) (σ : am_M) : Prop := am_Go X md 0 (am_entry (am_ml md) (.ref 0 :: as)) [] (hh σ) (Mid X mm as q)
theorem Fin_i {x : Int32} {q : Nat} {w : Option Value} {K : am_H} {υ : am_M} (h1 : w = some (.int x)) (h2 : K = hh υ) (h3 : RR (q + 1) υ) : Fin x q w K := ⟨υ, h1, h2, h3⟩
theorem Mid_i {X : am_X} {mm q : Nat} {as : List Value} {v : Option Value} {H : am_H} {x : Int32} {τ : am_M} (h1 : v = some (.int x)) (h2 : H = hh τ) (h3 : am_Go X mm 0 (am_entry (am_ml mm) (.ref 80 :: as)) [] (hh τ) (Fin x q)) : Mid X mm as q v H := ⟨x, τ, h1, h2, h3⟩
theorem RR_up {q : Nat} {σ : am_M} (h : RR q σ) : RR (q + 1) σ := by
  obtain ⟨L, T, O, r1, r2, r3, r4, r5, r6⟩ := h
  exact ⟨L, T, O, r1, r2, r3, R4_up r4, r5, r6⟩
theorem i_nat {i : Int32} (h : nI 0 ≤ i) : ∃ k, k < 2 ^ 31 ∧ i = nI k := by
  have h1 : (nI 0).toInt ≤ i.toInt := Int32.le_iff_toInt_le.mp h
  have h0 : (nI 0).toInt = 0 := by decide
  have h2 := Int32.toInt_lt i
  refine ⟨i.toInt.toNat, by omega, ?_⟩
  have h3 : i = iI i.toInt := (Int32.ofInt_toInt i).symm
  rw [nI_iI, Int.toNat_of_nonneg (by omega)]
  exact h3
/-- in(i, 0, n - 1), and how the class asks it -/
theorem in_iff {i : Int32} {n : Nat} (hn : n < 2 ^ 30) : (nI 0 ≤ i ∧ i ≤ nI n - nI 1) ↔ ¬ (i < nI 0 ∨ nI n ≤ i) := by
  have e : nI n - nI 1 = iI ((n : Int) - 1) := by rw [nI_iI n, iN_sub]; rfl
  have h0 : (nI 0).toInt = 0 := by decide
  have h1 : (nI n).toInt = n := by rw [nI_iI, iI_toInt (by omega) (by omega)]
  have h2 : (iI ((n : Int) - 1)).toInt = (n : Int) - 1 := iI_toInt (by omega) (by omega)
  rw [e, Int32.le_iff_toInt_le, Int32.le_iff_toInt_le, Int32.lt_iff_toInt_lt, Int32.le_iff_toInt_le, h0, h1, h2]
  omega
theorem in_n {i : Int32} {n : Nat} (hn : n < 2 ^ 30) (h : ¬ (i < nI 0 ∨ nI n ≤ i)) : ∃ k, k < n ∧ i = nI k := by
  obtain ⟨k, hk, rfl⟩ := i_nat ((in_iff hn).mpr h).1
  refine ⟨k, ?_, rfl⟩
  rcases Nat.lt_or_ge k n with q | q
  · exact q
  · exact absurd (Or.inr (nI_le q hk)) h
