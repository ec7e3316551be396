/-! the shape of scripts that were read -/
/-- numbers are small -/
def KB (s : Sk) : Prop := ∀ i, i < s.1.1 → s.1.2 0 i ≤ 100000 ∧ s.1.2 1 i ≤ 100000 ∧ s.1.2 2 i ≤ 100000 ∧ s.1.2 3 i ≤ 100000
theorem KB_0 : KB sk0 := fun i hi => absurd hi (Nat.not_lt_zero i)
theorem KB_addC {s : Sk} {a n b m : Nat} (h : KB s) (ha : a ≤ 100000) (hn : n ≤ 100000) (hb : b ≤ 100000) (hm : m ≤ 100000) : KB (addC s a n b m) := by
  intro i hi
  have hi : i < s.1.1 + 1 := hi
  show (if i = s.1.1 then f5 a n b m s.2.1 0 else s.1.2 0 i) ≤ _ ∧ (if i = s.1.1 then f5 a n b m s.2.1 1 else s.1.2 1 i) ≤ _ ∧ (if i = s.1.1 then f5 a n b m s.2.1 2 else s.1.2 2 i) ≤ _ ∧ (if i = s.1.1 then f5 a n b m s.2.1 3 else s.1.2 3 i) ≤ _
  by_cases q : i = s.1.1
  · rw [if_pos q, if_pos q, if_pos q, if_pos q]
    exact ⟨ha, hn, hb, hm⟩
  · rw [if_neg q, if_neg q, if_neg q, if_neg q]
    exact h i (by omega)
theorem KB_of {s u : Sk} (h : KB s) (e : u.1 = s.1) : KB u := by
  unfold KB at h ⊢
  rw [e]
  exact h
/-- all signs are such ones -/
def SG (P : Nat → Prop) (s : Sk) : Prop := ∀ i, i < s.2.1 → P (s.2.2 0 i)
theorem SG_0 {P : Nat → Prop} : SG P sk0 := fun i hi => absurd hi (Nat.not_lt_zero i)
theorem SG_addC {P : Nat → Prop} {s : Sk} {a n b m : Nat} (h : SG P s) : SG P (addC s a n b m) := h
theorem SG_addD {P : Nat → Prop} {s : Sk} {c p q : Nat} (h : SG P s) (hc : P c) : SG P (addD s c p q) := by
  intro i hi
  have hi : i < s.2.1 + 1 := hi
  show P (if i = s.2.1 then f3 c p q 0 else s.2.2 0 i)
  by_cases z : i = s.2.1
  · rw [if_pos z]; exact hc
  · rw [if_neg z]; exact h i (by omega)
theorem SG_opD {P : Nat → Prop} {s : Sk} (h : SG P s) : SG P (opD s) := by
  intro i hi
  show P (if 0 = 2 ∧ i + 1 = s.2.1 then s.2.2 0 i - 1 else s.2.2 0 i)
  rw [if_neg (fun z => by omega)]
  exact h i hi
theorem SG_mark {P : Nat → Prop} {T : List Int32} {v : Nat × Sk} (h : SG P v.2) : SG P (markP T v).2 := by
  unfold markP
  split
  · exact SG_opD h
  · exact h
/-- lines that came: the old ones keep their signs, the new ones have g -/
theorem rowsP_S {T : List Int32} {j g : Nat} : ∀ (n k : Nat) (s : Sk) (v : Nat × Sk), rowsP T j g n k s = .ok v → (∀ i, i < s.2.1 → v.2.2.2 0 i = s.2.2 0 i) ∧ (∀ i, s.2.1 ≤ i → i < s.2.1 + n → v.2.2.2 0 i = g)
  | 0, k, s, v, e => by
    cases e
    exact ⟨fun _ _ => rfl, fun i h1 h2 => by omega⟩
  | n + 1, k, s, v, e => by
    unfold rowsP at e
    split at e
    case isFalse => cases e
    obtain ⟨h1, h2⟩ := rowsP_S n _ _ v e
    have e1 : ∀ i, i < s.2.1 → (addD s g (lsta T k + 2) (lsta T (k + 1))).2.2 0 i = s.2.2 0 i := fun i hi => if_neg (by omega)
    have e2 : (addD s g (lsta T k + 2) (lsta T (k + 1))).2.2 0 s.2.1 = g := if_pos rfl
    have em : (addD s g (lsta T k + 2) (lsta T (k + 1))).2.1 = s.2.1 + 1 := rfl
    rw [em] at h1 h2
    refine ⟨fun i hi => ?_, fun i hi hi2 => ?_⟩
    · rw [h1 i (by omega), e1 i hi]
    · by_cases z : i = s.2.1
      · rw [h1 i (by omega), z, e2]
      · exact h2 i (by omega) (by omega)
theorem rowP_S {T : List Int32} {j g n k : Nat} {s : Sk} {v : Nat × Sk} (e : rowP T j g n k s = .ok v) : (∀ i, i < s.2.1 → v.2.2.2 0 i = s.2.2 0 i) ∧ (∀ i, s.2.1 ≤ i → i < s.2.1 + n → v.2.2.2 0 i = g) := by
  unfold rowP at e
  obtain ⟨w, e1, e2⟩ := bnd_ok e
  have h := rowsP_S n k s w e1
  simp only [Except.ok.injEq] at e2
  rw [← e2]
  split
  · have em : ∀ i, (markP T w).2.2.2 0 i = w.2.2.2 0 i := fun i => by
      unfold markP
      split
      · show (if 0 = 2 ∧ i + 1 = w.2.2.1 then w.2.2.2 0 i - 1 else w.2.2.2 0 i) = _
        rw [if_neg (fun z => by omega)]
      · rfl
    exact ⟨fun i hi => by rw [em, h.1 i hi], fun i h1 h2 => by rw [em, h.2 i h1 h2]⟩
  · exact h
theorem bodN_S {c : Nat} {T : List Int32} {L g n k : Nat} {s : Sk} (hI : Iv c T k s) {v : Nat × Sk} (e : bodN T L g n k s = .ok v) : (∀ i, i < s.2.1 → v.2.2.2 0 i = s.2.2 0 i) ∧ (∀ i, s.2.1 ≤ i → i < s.2.1 + g → v.2.2.2 0 i = 45) ∧ (∀ i, s.2.1 + g ≤ i → i < s.2.1 + g + n → v.2.2.2 0 i = 43) := by
  unfold bodN at e
  obtain ⟨w, e1, e2⟩ := bnd_ok e
  obtain ⟨k1, e3, e4⟩ := bnd_ok e2
  obtain ⟨b1, b2, b3, b4⟩ := rowP_I t5.1 t5.2 hI e1
  obtain ⟨c1, c2⟩ := rowP_S e1
  obtain ⟨d1, d2⟩ := rowP_S e4
  rw [b4] at d1 d2
  exact ⟨fun i hi => by rw [d1 i (by omega), c1 i hi], fun i h1 h2 => by rw [d1 i (by omega), c2 i h1 h2], d2⟩
/-- how far the commands ahead of i reach -/
def dnN (s : Sk) : Nat → Nat
  | 0 => 0
  | i + 1 => ah s i + s.1.2 1 i
/-- the shape of command i of NORMAL -/
def shN (s : Sk) (i : Nat) : Prop := s.1.2 4 i + s.1.2 1 i + s.1.2 3 i = beh s i ∧ (∀ j, s.1.2 4 i ≤ j → j < s.1.2 4 i + s.1.2 1 i → s.2.2 0 j = 45) ∧ (∀ j, s.1.2 4 i + s.1.2 1 i ≤ j → j < beh s i → s.2.2 0 j = 43) ∧ dnN s i ≤ ah s i ∧ (0 < s.1.2 1 i ∨ 0 < s.1.2 3 i) ∧ (0 < s.1.2 1 i → 1 ≤ s.1.2 0 i)
def NS (s : Sk) (last : Nat) : Prop := KB s ∧ SG (fun c => c = 45 ∨ c = 43) s ∧ (∀ i, i < s.1.1 → shN s i) ∧ dnN s s.1.1 = last
theorem addC_o {s : Sk} {a n b m f i : Nat} (h : i < s.1.1) : (addC s a n b m).1.2 f i = s.1.2 f i := if_neg (by omega)
theorem addC_n {s : Sk} {a n b m f : Nat} : (addC s a n b m).1.2 f s.1.1 = f5 a n b m s.2.1 f := if_pos rfl
theorem dnN_congr {s u : Sk} {i : Nat} (h : ∀ f x, x < i → u.1.2 f x = s.1.2 f x) : dnN u i = dnN s i := by
  cases i with
  | zero => rfl
  | succ i =>
    show ah u i + u.1.2 1 i = ah s i + s.1.2 1 i
    unfold ah
    rw [h 0 i (by omega), h 1 i (by omega)]
theorem cmdN_S {T : List Int32} {k last : Nat} {h : Int32} {s : Sk} (hI : Iv 3 T k s) (hN : NS s last) {v : Nat × Nat × Int32 × Sk} (e : cmdN T k last h s = .ok v) : NS v.2.2.2 v.2.1 := by
  unfold cmdN at e
  split at e
  case isFalse => cases e
  rename_i hw
  cases hh : hdN T k with
  | none => rw [hh] at e; cases e
  | some w =>
    obtain ⟨L, a, a2, b, b2⟩ := w
    rw [hh] at e
    simp only at e
    split at e
    case isFalse => cases e
    rename_i hok
    obtain ⟨u, e1, e2⟩ := bnd_ok e
    obtain ⟨q, q2, g1, g2, g3, g4, g5⟩ := hdN_some hh
    have hn := hdN_end hI.1 g1 g2 g3 g4 g5
    obtain ⟨-, -, a4, a5, -⟩ := pr_some g1
    obtain ⟨-, -, b4, b5, -⟩ := pr_some g4
    have hI2 : Iv 3 T (k + 1) (addC s a (gsN L a a2) b (csN L b b2)) := Iv_addC hI hw.1 (by omega)
    obtain ⟨c1, c2, c3, c4⟩ := bodN_I hI2 e1
    obtain ⟨d1, d2, d3⟩ := bodN_S hI2 e1
    have hgs : gsN L a a2 ≤ 100000 := by unfold gsN; split <;> omega
    have hcs : csN L b b2 ≤ 100000 := by unfold csN; split <;> omega
    have em : (addC s a (gsN L a a2) b (csN L b b2)).2.1 = s.2.1 := rfl
    have en : u.2.1.1 = s.1.1 + 1 := by rw [c3]; rfl
    rw [em] at d1 d2 d3 c4
    obtain ⟨n1, n2, n3, n4⟩ := hN
    simp only [Except.ok.injEq] at e2
    rw [← e2]
    show NS u.2 a2
    have o1 : ∀ f i, i < s.1.1 → u.2.1.2 f i = s.1.2 f i := fun f i hi => by rw [c3]; exact addC_o hi
    have o2 : ∀ f, u.2.1.2 f s.1.1 = f5 a (gsN L a a2) b (csN L b b2) s.2.1 f := fun f => by rw [c3]; exact addC_n
    have k0 : u.2.1.2 0 s.1.1 = a := o2 0
    have k1 : u.2.1.2 1 s.1.1 = gsN L a a2 := o2 1
    have k3 : u.2.1.2 3 s.1.1 = csN L b b2 := o2 3
    have k4 : u.2.1.2 4 s.1.1 = s.2.1 := o2 4
    have hah : ah u.2 s.1.1 = if L = 97 then a else a - 1 := by
      unfold ah
      rw [k0, k1]
      unfold gsN
      split
      · rw [if_pos rfl]
      · rw [if_neg (by omega)]
    have hdn : dnN u.2 s.1.1 = last := by rw [dnN_congr (fun f x hx => o1 f x hx)]; exact n4
    have hok2 : last ≤ (if L = 97 then a else a - 1) ∧ (if L = 97 then a else a - 1) + gsN L a a2 = a2 ∧ (L ≠ 97 → 1 ≤ a) := by
      unfold okN at hok
      unfold gsN
      split at hok
      · rename_i z
        rw [if_pos z, if_pos z]
        omega
      · rename_i z
        rw [if_neg z, if_neg z]
        omega
    refine ⟨KB_of (KB_addC n1 (by omega) hgs (by omega) hcs) c3, fun i hi => ?_, fun i hi => ?_, ?_⟩
    · rw [c4] at hi
      rcases Nat.lt_or_ge i s.2.1 with z | z
      · rw [d1 i z]
        exact n2 i z
      rcases Nat.lt_or_ge i (s.2.1 + gsN L a a2) with y | y
      · exact Or.inl (d2 i z y)
      · exact Or.inr (d3 i y hi)
    · rw [en] at hi
      rcases Nat.lt_or_ge i s.1.1 with z | z
      · obtain ⟨s1, s2, s3, s4, s5, s6⟩ := n3 i z
        have hb := beh_I hI z
        have eb : beh u.2 i = beh s i := by
          unfold beh
          rw [en, if_pos (by omega)]
          by_cases y : i + 1 < s.1.1
          · rw [if_pos y, o1 4 _ y]
          · rw [if_neg y, show i + 1 = s.1.1 by omega, k4]
        unfold shN
        rw [eb, o1 0 i z, o1 1 i z, o1 3 i z, o1 4 i z]
        refine ⟨s1, fun j h1 h2 => ?_, fun j h1 h2 => ?_, ?_, s5, s6⟩
        · rw [d1 j (by omega)]; exact s2 j h1 h2
        · rw [d1 j (by omega)]; exact s3 j h1 h2
        · rw [dnN_congr (fun f x hx => o1 f x (by omega))]
          unfold ah
          rw [o1 0 i z, o1 1 i z]
          exact s4
      · obtain rfl : i = s.1.1 := by omega
        have eb : beh u.2 s.1.1 = s.2.1 + gsN L a a2 + csN L b b2 := by
          unfold beh
          rw [en, if_neg (by omega), c4]
        unfold shN
        rw [eb, k0, k1, k3, k4, hdn, hah]
        refine ⟨rfl, d2, d3, hok2.1, ?_, fun z => ?_⟩
        · unfold gsN csN
          rcases g3 with rfl | rfl | rfl <;> simp
        · unfold gsN at z
          split at z
          · omega
          · rename_i y
            exact hok2.2.2 y
    · rw [en]
      show ah u.2 s.1.1 + u.2.1.2 1 s.1.1 = a2
      rw [hah, k1]
      exact hok2.2.1
theorem lpN_S {T : List Int32} : ∀ (d k last : Nat) (h : Int32) (s : Sk), Iv 3 T k s → NS s last → ∀ u, lpN T d k last h s = .ok u → ∃ l, NS u l
  | 0, k, last, h, s, hI, hN, u, e => by
    cases e
    exact ⟨last, hN⟩
  | d + 1, k, last, h, s, hI, hN, u, e => by
    unfold lpN at e
    split at e
    · obtain ⟨v, e1, e2⟩ := bnd_ok e
      exact lpN_S d _ _ _ _ (cmdN_I hI e1).1 (cmdN_S hI hN e1) u e2
    · cases e
      exact ⟨last, hN⟩
theorem prN_S {T : List Int32} {u : Sk} (h : prN T = .ok u) : ∃ l, NS u l := lpN_S _ _ _ _ _ (Iv_0 (by omega)) ⟨KB_0, SG_0, fun i hi => absurd hi (Nat.not_lt_zero i), rfl⟩ u h
/-- ED: the commands lie one ahead of the other, all lines come -/
theorem dotP_S {T : List Int32} {P : Nat → Prop} (hP : P 43) : ∀ (d n k : Nat) (s : Sk), SG P s → ∀ v, dotP T d n k s = .ok v → SG P v.2
  | 0, n, k, s, h, v, e => by cases e
  | d + 1, n, k, s, h, v, e => by
    unfold dotP at e
    split at e
    case isFalse => cases e
    split at e
    · split at e
      · simp only [Except.ok.injEq] at e
        rw [← e]
        exact h
      · cases e
    · exact dotP_S hP d _ _ _ (SG_addD h hP) v e
def ES (s : Sk) (ab : Nat) : Prop := KB s ∧ SG (fun c => c = 43) s ∧ (∀ i, i < s.1.1 → 0 < s.1.2 1 i → 1 ≤ s.1.2 0 i) ∧ (∀ i, i + 1 < s.1.1 → ah s (i + 1) + s.1.2 1 (i + 1) ≤ ah s i) ∧ (s.1.1 = 0 ∨ s.1.2 0 (s.1.1 - 1) = ab)
theorem cmdE_S {T : List Int32} {k ab : Nat} {s : Sk} (hI : Iv 3 T k s) (hN : ES s ab) {v : Nat × Nat × Sk} (e : cmdE T k ab s = .ok v) : ES v.2.2 v.2.1 := by
  unfold cmdE at e
  split at e
  case isFalse => cases e
  rename_i hw
  cases hh : hdE T k with
  | none => rw [hh] at e; cases e
  | some w =>
    obtain ⟨L, a, a2⟩ := w
    rw [hh] at e
    simp only at e
    split at e
    case isFalse => cases e
    rename_i hok
    obtain ⟨u, e1, e2⟩ := bnd_ok e
    obtain ⟨q, g1, g2, g3, g4⟩ := hdE_some hh
    have hn := hdE_end hI.1 g1 g2 g3 g4
    obtain ⟨-, -, a4, a5, -⟩ := pr_some g1
    have hI2 : Iv 3 T (k + 1) (addC s a (gsN L a a2) 0 0) := Iv_addC hI hw.1 (by omega)
    obtain ⟨n1, n2, n3, n4, n5⟩ := hN
    have c3 : u.2.1 = (addC s a (gsN L a a2) 0 0).1 ∧ SG (fun c => c = 43) u.2 := by
      split at e1
      · simp only [Except.ok.injEq] at e1
        rw [← e1]
        exact ⟨rfl, SG_addC n2⟩
      · exact ⟨(dotP_I _ _ _ _ hI2 _ e1).2.2, dotP_S (P := fun c => c = 43) rfl _ _ _ _ (SG_addC n2) _ e1⟩
    have hgs : gsN L a a2 ≤ 100000 := by unfold gsN; split <;> omega
    have en : u.2.1.1 = s.1.1 + 1 := by rw [c3.1]; rfl
    simp only [Except.ok.injEq] at e2
    rw [← e2]
    show ES u.2 a
    have o1 : ∀ f i, i < s.1.1 → u.2.1.2 f i = s.1.2 f i := fun f i hi => by rw [c3.1]; exact addC_o hi
    have o2 : ∀ f, u.2.1.2 f s.1.1 = f5 a (gsN L a a2) 0 0 s.2.1 f := fun f => by rw [c3.1]; exact addC_n
    have k0 : u.2.1.2 0 s.1.1 = a := o2 0
    have k1 : u.2.1.2 1 s.1.1 = gsN L a a2 := o2 1
    have hok1 := hok.1
    have hok2 := hok.2
    have hah : ah u.2 s.1.1 + gsN L a a2 = a2 ∧ (0 < gsN L a a2 → 1 ≤ a) := by
      unfold ah
      rw [k0, k1]
      unfold gsN
      split at hok1
      · rename_i z
        rw [if_pos z, if_pos rfl]
        omega
      · rename_i z
        rw [if_neg z, if_neg (by omega)]
        omega
    refine ⟨KB_of (KB_addC n1 (by omega) hgs (by omega) (by omega)) c3.1, c3.2, fun i hi h0 => ?_, fun i hi => ?_, Or.inr ?_⟩
    · rw [en] at hi
      rcases Nat.lt_or_ge i s.1.1 with z | z
      · rw [o1 1 i z] at h0
        rw [o1 0 i z]
        exact n3 i z h0
      · obtain rfl : i = s.1.1 := by omega
        rw [k1] at h0
        rw [k0]
        exact hah.2 h0
    · rw [en] at hi
      have ea : ∀ x, x < s.1.1 → ah u.2 x = ah s x := fun x hx => by
        unfold ah
        rw [o1 0 x hx, o1 1 x hx]
      rcases Nat.lt_or_ge (i + 1) s.1.1 with z | z
      · rw [ea (i + 1) z, ea i (by omega), o1 1 _ z]
        exact n4 i z
      · have e1 : i + 1 = s.1.1 := by omega
        rw [e1, ea i (by omega), k1, hah.1]
        rcases n5 with y | y
        · omega
        · rw [show s.1.1 - 1 = i by omega] at y
          unfold ah
          have := n3 i (by omega)
          split <;> omega
    · rw [en]
      exact k0
theorem lpE_S {T : List Int32} : ∀ (d k ab : Nat) (s : Sk), Iv 3 T k s → ES s ab → ∀ u, lpE T d k ab s = .ok u → (∃ l, ES u l) ∧ ∃ k, Iv 3 T k u
  | 0, k, ab, s, hI, hN, u, e => by
    cases e
    exact ⟨⟨ab, hN⟩, ⟨k, hI⟩⟩
  | d + 1, k, ab, s, hI, hN, u, e => by
    unfold lpE at e
    split at e
    · obtain ⟨v, e1, e2⟩ := bnd_ok e
      exact lpE_S d _ _ _ (cmdE_I hI e1).1 (cmdE_S hI hN e1) u e2
    · cases e
      exact ⟨⟨ab, hN⟩, ⟨k, hI⟩⟩
theorem prE_S {T : List Int32} {u : Sk} (h : prE T = .ok u) : (∃ l, ES u l) ∧ ∃ k, Iv 3 T k u := lpE_S _ _ _ _ (Iv_0 (by omega)) ⟨KB_0, SG_0, fun i hi => absurd hi (Nat.not_lt_zero i), fun i hi => absurd hi (Nat.not_lt_zero _), Or.inl rfl⟩ u h
/-- UNIFIED -/
def US (s : Sk) : Prop := KB s ∧ SG (fun c => c = 32 ∨ c = 45 ∨ c = 43) s ∧ (∀ i, i < s.1.1 → 0 < s.1.2 1 i → 1 ≤ s.1.2 0 i) ∧ (∀ i, i < s.1.1 → 0 < s.1.2 3 i → 1 ≤ s.1.2 2 i)
theorem linP_S {T : List Int32} {P : Nat → Prop} (h32 : P 32) (h45 : P 45) (h43 : P 43) : ∀ (d x y k : Nat) (s : Sk), SG P s → ∀ v, linP T d x y k s = .ok v → SG P v.2
  | 0, x, y, k, s, h, v, e => by
    cases e
    exact h
  | d + 1, x, y, k, s, h, v, e => by
    unfold linP at e
    split at e
    · split at e
      case isFalse => cases e
      rename_i hw
      refine linP_S h32 h45 h43 d _ _ _ _ (SG_mark (SG_addD h ?_)) v e
      rcases hw.2 with z | z | z
      · rw [z.1, nI_clamp (by omega)]; exact h32
      · rw [z.1, nI_clamp (by omega)]; exact h45
      · rw [z.1, nI_clamp (by omega)]; exact h43
    · cases e
      exact h
theorem pc_v {T : List Int32} {p a n q : Nat} (h : pc T p = some (a, n, q)) : a < 100000 ∧ n < 100000 ∧ (0 < n → 1 ≤ a) := by
  obtain ⟨-, -, h1, h2⟩ := trR_some h
  refine ⟨h1, h2, fun hn => ?_⟩
  unfold pc at h
  cases hv : pnum T p with
  | none => rw [hv] at h; cases h
  | some v =>
    obtain ⟨v, r⟩ := v
    rw [hv] at h
    simp only at h
    split at h
    · cases hw : pnum T (r + 1) with
      | none => rw [hw] at h; cases h
      | some w =>
        rw [hw] at h
        simp only at h
        split at h
        case isFalse => cases h
        rename_i hx
        simp only [Option.some.injEq, Prod.mk.injEq] at h
        omega
    · split at h
      case isFalse => cases h
      simp only [Option.some.injEq, Prod.mk.injEq] at h
      omega
theorem cmdU_S {T : List Int32} {k last : Nat} {s : Sk} (hI : Iv 12 T k s) (hN : US s) {v : Nat × Nat × Sk} (e : cmdU T k last s = .ok v) : US v.2.2 := by
  unfold cmdU at e
  split at e
  case isFalse => cases e
  rename_i hw
  cases hh : hdU T k with
  | none => rw [hh] at e; cases e
  | some w =>
    obtain ⟨a, n, b, m⟩ := w
    rw [hh] at e
    simp only at e
    split at e
    case isFalse => cases e
    obtain ⟨u, e1, e2⟩ := bnd_ok e
    obtain ⟨q, q2, g1, g2, g3, g4, g5⟩ := hdU_some hh
    have hn := hdU_end hI.1 g1 g2 g3 g4 g5
    have v1 := pc_v g2
    have v2 := pc_v g4
    have hI2 : Iv 12 T (k + 1) (addC s a n b m) := Iv_addC hI hw.1 (by omega)
    obtain ⟨b1, b2, b3⟩ := linP_I _ _ _ _ _ hI2 _ e1
    obtain ⟨n1, n2, n3, n4⟩ := hN
    simp only [Except.ok.injEq] at e2
    rw [← e2]
    show US u.2
    have o1 : ∀ f i, i < s.1.1 → u.2.1.2 f i = s.1.2 f i := fun f i hi => by rw [b3]; exact addC_o hi
    have o2 : ∀ f, u.2.1.2 f s.1.1 = f5 a n b m s.2.1 f := fun f => by rw [b3]; exact addC_n
    have k0 : u.2.1.2 0 s.1.1 = a := o2 0
    have k1 : u.2.1.2 1 s.1.1 = n := o2 1
    have k2 : u.2.1.2 2 s.1.1 = b := o2 2
    have k3 : u.2.1.2 3 s.1.1 = m := o2 3
    have en : u.2.1.1 = s.1.1 + 1 := by rw [b3]; rfl
    refine ⟨KB_of (KB_addC n1 (by omega) (by omega) (by omega) (by omega)) b3, linP_S (Or.inl rfl) (Or.inr (Or.inl rfl)) (Or.inr (Or.inr rfl)) _ _ _ _ _ (SG_addC n2) _ e1, fun i hi h0 => ?_, fun i hi h0 => ?_⟩
    · rw [en] at hi
      rcases Nat.lt_or_ge i s.1.1 with z | z
      · rw [o1 1 i z] at h0
        rw [o1 0 i z]
        exact n3 i z h0
      · obtain rfl : i = s.1.1 := by omega
        rw [k1] at h0
        rw [k0]
        exact v1.2.2 h0
    · rw [en] at hi
      rcases Nat.lt_or_ge i s.1.1 with z | z
      · rw [o1 3 i z] at h0
        rw [o1 2 i z]
        exact n4 i z h0
      · obtain rfl : i = s.1.1 := by omega
        rw [k3] at h0
        rw [k2]
        exact v2.2.2 h0
theorem lpU_S {T : List Int32} : ∀ (d k last : Nat) (s : Sk), Iv 12 T k s → US s → ∀ u, lpU T d k last s = .ok u → US u
  | 0, k, last, s, hI, hN, u, e => by
    cases e
    exact hN
  | d + 1, k, last, s, hI, hN, u, e => by
    unfold lpU at e
    split at e
    · obtain ⟨v, e1, e2⟩ := bnd_ok e
      exact lpU_S d _ _ _ (cmdU_I hI e1).1 (cmdU_S hI hN e1) u e2
    · cases e
      exact hN
theorem US_0 : US sk0 := ⟨KB_0, SG_0, fun i hi => absurd hi (Nat.not_lt_zero i), fun i hi => absurd hi (Nat.not_lt_zero i)⟩
theorem prU_S {T : List Int32} {u : Sk} (h : prU T = .ok u) : US u := by
  unfold prU at h
  split at h
  · cases h
    exact US_0
  split at h
  case isFalse => cases h
  split at h
  case isFalse => cases h
  rename_i h1
  exact lpU_S _ _ _ _ (Iv_0 h1.1.1) US_0 u h
