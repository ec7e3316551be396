/-! the two sides apart -/
def CC (q : Nat) (σ : am_M) (L : Nat → List Int32) (T O : List Int32) (h g n : Nat) (H : Nat → Nat → Int32) (x y : Int32) : Prop := (∀ t, t < 8 → Tx σ (tA t) (L t)) ∧ (Bt σ 2 T ∧ σ.1 2 2 = nI 0) ∧ (Bt σ 4 O ∧ σ.1 4 2 = nI 0) ∧ R4 q σ L ∧ (((h = 22 ∧ g = 26) ∨ (h = 26 ∧ g = 22)) ∧ σ.2.2 0 = h ∧ σ.2.2 1 = g ∧ Hk σ h n H) ∧ (σ.1 0 12 = x ∧ σ.1 0 13 = y)
def MM (σ : am_M) (L : Nat → List Int32) (T O : List Int32) (n : Nat) (H : Nat → Nat → Int32) (x y : Int32) : Prop := (∀ t, t < 8 → MT σ t (L t)) ∧ (Bs σ 101 T ∧ σ.1 80 6 = nI T.length) ∧ (Bs σ 102 O ∧ σ.1 80 7 = nI O.length) ∧ (σ.1 80 47 = nI n ∧ (∀ i, i < n → σ.2.1 323 i = H 0 i) ∧ (∀ i, i < n → σ.2.1 324 i = H 1 i) ∧ (∀ i, i < n → σ.2.1 325 i = H 2 i)) ∧ (σ.1 80 29 = x ∧ σ.1 80 30 = y)
/-- the reference's part is as it was; the class's part is as it was -/
def frCl (σ τ : am_M) : Prop := (∀ k, τ.1 80 k = σ.1 80 k) ∧ (∀ a, 81 ≤ a → τ.2.1 a = σ.2.1 a)
def frRf (σ τ : am_M) : Prop := (∀ a k, a < 80 → τ.1 a k = σ.1 a k) ∧ (∀ a, a < 80 → τ.2.1 a = σ.2.1 a) ∧ τ.2.2 = σ.2.2
theorem frCl_refl {σ : am_M} : frCl σ σ := ⟨fun _ => rfl, fun _ _ => rfl⟩
theorem frRf_refl {σ : am_M} : frRf σ σ := ⟨fun _ _ _ => rfl, fun _ _ => rfl, rfl⟩
theorem frCl_trans {σ τ υ : am_M} (h1 : frCl σ τ) (h2 : frCl τ υ) : frCl σ υ := ⟨fun k => (h2.1 k).trans (h1.1 k), fun a h => (h2.2 a h).trans (h1.2 a h)⟩
theorem frRf_trans {σ τ υ : am_M} (h1 : frRf σ τ) (h2 : frRf τ υ) : frRf σ υ := ⟨fun a k h => (h2.1 a k h).trans (h1.1 a k h), fun a h => (h2.2.1 a h).trans (h1.2.1 a h), h2.2.2.trans h1.2.2⟩
theorem frCl_fr {lo hi : Nat} {σ τ : am_M} (h : fr lo hi σ τ) (hd : hi < 80) : frCl σ τ := ⟨fun k => h.1 _ _ (by omega), fun a q => h.2.1 _ (by omega)⟩
theorem CC_of {q : Nat} {σ τ : am_M} {L : Nat → List Int32} {T O : List Int32} {h g n : Nat} {H : Nat → Nat → Int32} {x y : Int32} (c : CC q σ L T O h g n H x y) (h1 : ∀ a k, a = 0 ∨ a = 2 ∨ a = 4 ∨ (22 ≤ a ∧ a ≤ 76) → τ.1 a k = σ.1 a k) (h2 : ∀ a, a = 3 ∨ a = 5 ∨ (22 ≤ a ∧ a ≤ 76) → τ.2.1 a = σ.2.1 a) (h3 : τ.2.2 = σ.2.2) : CC q τ L T O h g n H x y := by
  obtain ⟨c1, ⟨c2, c2b⟩, ⟨c3, c3b⟩, c4, ⟨hg, e1, e2, hk⟩, c6, c7⟩ := c
  have hh2 : 22 ≤ h ∧ h + 3 ≤ 29 := by omega
  refine ⟨fun t ht => ?_, ⟨Bt_of c2 (h1 _ _ (by omega)) (h2 _ (by omega)), by rw [h1 _ _ (by omega)]; exact c2b⟩, ⟨Bt_of c3 (h1 _ _ (by omega)) (h2 _ (by omega)), by rw [h1 _ _ (by omega)]; exact c3b⟩, R4_of c4 (fun a k p r => h1 a k (by omega)) (fun a p r => h2 a (by omega)) (by rw [h3]) (by rw [h3]), ⟨hg, by rw [h3]; exact e1, by rw [h3]; exact e2, ?_⟩, by rw [h1 _ _ (by omega)]; exact c6, by rw [h1 _ _ (by omega)]; exact c7⟩
  · have e : tA t = 30 + 5 * t := rfl
    exact Tx_of (c1 t ht) (h1 _ _ (by omega)) (h1 _ _ (by omega)) (h2 _ (by omega)) (h2 _ (by omega)) (h2 _ (by omega))
  · obtain ⟨q1, q2, q3, q4, q5⟩ := hk
    exact ⟨by rw [h1 _ _ (by omega)]; exact q1, q2, by rw [h2 _ (by omega)]; exact q3, by rw [h2 _ (by omega)]; exact q4, by rw [h2 _ (by omega)]; exact q5⟩
theorem CC_rf {q : Nat} {σ τ : am_M} {L : Nat → List Int32} {T O : List Int32} {h g n : Nat} {H : Nat → Nat → Int32} {x y : Int32} (c : CC q σ L T O h g n H x y) (f : frRf σ τ) : CC q τ L T O h g n H x y := CC_of c (fun a k p => f.1 a k (by omega)) (fun a p => f.2.1 a (by omega)) f.2.2
theorem MM_of {σ τ : am_M} {L : Nat → List Int32} {T O : List Int32} {n : Nat} {H : Nat → Nat → Int32} {x y : Int32} (c : MM σ L T O n H x y) (h1 : ∀ k, k = 6 ∨ k = 7 ∨ k = 29 ∨ k = 30 ∨ k = 47 → τ.1 80 k = σ.1 80 k) (h2 : ∀ a, (82 ≤ a ∧ a ≤ 102) ∨ (323 ≤ a ∧ a ≤ 325) → τ.2.1 a = σ.2.1 a) : MM τ L T O n H x y := by
  obtain ⟨c1, ⟨c2, c2b⟩, ⟨c3, c3b⟩, ⟨k1, k2, k3, k4⟩, c6, c7⟩ := c
  refine ⟨fun t ht => MT_of (c1 t ht) (h2 _ (by omega)) (by rw [h2 _ (by omega)]) (by rw [h2 _ (by omega)]) (h2 _ (by omega)), ⟨Bs_of c2 (h2 _ (by omega)), by rw [h1 _ (by omega)]; exact c2b⟩, ⟨Bs_of c3 (h2 _ (by omega)), by rw [h1 _ (by omega)]; exact c3b⟩, ⟨by rw [h1 _ (by omega)]; exact k1, by rw [h2 _ (by omega)]; exact k2, by rw [h2 _ (by omega)]; exact k3, by rw [h2 _ (by omega)]; exact k4⟩, by rw [h1 _ (by omega)]; exact c6, by rw [h1 _ (by omega)]; exact c7⟩
theorem MM_cl {σ τ : am_M} {L : Nat → List Int32} {T O : List Int32} {n : Nat} {H : Nat → Nat → Int32} {x y : Int32} (c : MM σ L T O n H x y) (f : frCl σ τ) : MM τ L T O n H x y := MM_of c (fun k _ => f.1 k) (fun a p => f.2 a (by omega))
theorem RR_cm {q : Nat} {σ : am_M} {L : Nat → List Int32} {T O : List Int32} {h g n : Nat} {H : Nat → Nat → Int32} {x y : Int32} (c : CC q σ L T O h g n H x y) (m : MM σ L T O n H x y) : RR q σ := by
  obtain ⟨c1, ⟨c2, c2b⟩, ⟨c3, c3b⟩, c4, ⟨hg, e1, e2, hk⟩, c6, c7⟩ := c
  obtain ⟨m1, ⟨m2, m2b⟩, ⟨m3, m3b⟩, ⟨k1, k2, k3, k4⟩, m6, m7⟩ := m
  exact ⟨L, T, O, fun t ht => ⟨c1 t ht, m1 t ht⟩, ⟨c2, c2b, m2, m2b⟩, ⟨c3, c3b, m3, m3b⟩, c4, ⟨h, g, n, H, hg, e1, e2, hk, k1, k2, k3, k4⟩, m6.trans c6.symm, m7.trans c7.symm⟩
theorem RR_split {q : Nat} {σ : am_M} (h : RR q σ) : ∃ L T O h g n H x y, CC q σ L T O h g n H x y ∧ MM σ L T O n H x y := by
  obtain ⟨L, T, O, r1, r2, r3, r4, r5, r6⟩ := h
  obtain ⟨h, g, n, H, hg, e1, e2, hk, k1, k2, k3, k4⟩ := r5
  exact ⟨L, T, O, h, g, n, H, σ.1 0 12, σ.1 0 13, ⟨fun t ht => (r1 t ht).1, ⟨r2.1, r2.2.1⟩, ⟨r3.1, r3.2.1⟩, r4, ⟨hg, e1, e2, hk⟩, rfl, rfl⟩, ⟨fun t ht => (r1 t ht).2, ⟨r2.2.2.1, r2.2.2.2⟩, ⟨r3.2.2.1, r3.2.2.2⟩, ⟨k1, k2, k3, k4⟩, r6.1, r6.2⟩⟩
theorem CC_up {q : Nat} {σ : am_M} {L : Nat → List Int32} {T O : List Int32} {h g n : Nat} {H : Nat → Nat → Int32} {x y : Int32} (c : CC q σ L T O h g n H x y) : CC (q + 1) σ L T O h g n H x y := ⟨c.1, c.2.1, c.2.2.1, R4_up c.2.2.2.1, c.2.2.2.2.1, c.2.2.2.2.2⟩
/-- what a side's call comes to -/
def ZC (q : Nat) (σ : am_M) (a : Int32) (L : Nat → List Int32) (T O : List Int32) (n : Nat) (H : Nat → Nat → Int32) (x y : Int32) (v : Option Value) (K : am_H) : Prop := ∃ τ h g, v = some (.int a) ∧ K = hh τ ∧ CC (q + 1) τ L T O h g n H x y ∧ frCl σ τ
def ZM (σ : am_M) (a : Int32) (L : Nat → List Int32) (T O : List Int32) (n : Nat) (H : Nat → Nat → Int32) (x y : Int32) (v : Option Value) (K : am_H) : Prop := ∃ τ, v = some (.int a) ∧ K = hh τ ∧ MM τ L T O n H x y ∧ frRf σ τ
theorem ZC_i {q : Nat} {σ τ : am_M} {a : Int32} {L : Nat → List Int32} {T O : List Int32} {h g n : Nat} {H : Nat → Nat → Int32} {x y : Int32} {v : Option Value} {K : am_H} (h1 : v = some (.int a)) (h2 : K = hh τ) (h3 : CC (q + 1) τ L T O h g n H x y) (h4 : frCl σ τ) : ZC q σ a L T O n H x y v K := ⟨τ, h, g, h1, h2, h3, h4⟩
theorem ZM_i {σ τ : am_M} {a : Int32} {L : Nat → List Int32} {T O : List Int32} {n : Nat} {H : Nat → Nat → Int32} {x y : Int32} {v : Option Value} {K : am_H} (h1 : v = some (.int a)) (h2 : K = hh τ) (h3 : MM τ L T O n H x y) (h4 : frRf σ τ) : ZM σ a L T O n H x y v K := ⟨τ, h1, h2, h3, h4⟩
theorem Pr_cm {X : am_X} {md mm q : Nat} {as : List Value} {σ : am_M} {L : Nat → List Int32} {T O : List Int32} {n : Nat} {H : Nat → Nat → Int32} {x y a : Int32} {L' : Nat → List Int32} {T' O' : List Int32} {n' : Nat} {H' : Nat → Nat → Int32} {x' y' : Int32} (m : MM σ L T O n H x y) (h1 : am_Go X md 0 (am_entry (am_ml md) (.ref 0 :: as)) [] (hh σ) (ZC q σ a L' T' O' n' H' x' y')) (h2 : ∀ τ, MM τ L T O n H x y → am_Go X mm 0 (am_entry (am_ml mm) (.ref 80 :: as)) [] (hh τ) (ZM τ a L' T' O' n' H' x' y')) : Pr X md mm as q σ := by
  refine go_mono h1 ?_
  rintro v K ⟨τ, h, g, e1, e2, c, f⟩
  refine ⟨a, τ, e1, e2, go_mono (h2 τ (MM_cl m f)) ?_⟩
  rintro w K2 ⟨υ, f1, f2, m2, f3⟩
  exact ⟨υ, f1, f2, RR_cm (CC_rf c f3) m2⟩
/-- a text becomes another -/
def upL (L : Nat → List Int32) (t : Nat) (l : List Int32) : Nat → List Int32 := fun u => if u = t then l else L u
theorem upL_s {L : Nat → List Int32} {t : Nat} {l : List Int32} : upL L t l t = l := if_pos rfl
theorem upL_n {L : Nat → List Int32} {t u : Nat} {l : List Int32} (h : u ≠ t) : upL L t l u = L u := if_neg h
theorem CC_become {q : Nat} {σ τ : am_M} {L : Nat → List Int32} {T O l : List Int32} {h g n t : Nat} {H : Nat → Nat → Int32} {x y : Int32} (c : CC q σ L T O h g n H x y) (ht : t < 8) (hq : q < 2 ^ 30) (hx : Tx τ (tA t) l) (f : fr (tA t) (tA t + 4) σ τ) (hv : τ.1 (tA t) 4 = σ.1 (tA t) 4 + nI 1) : CC (q + 1) τ (upL L t l) T O h g n H x y := by
  have ti := tA_in ht
  obtain ⟨c1, ⟨c2, c2b⟩, ⟨c3, c3b⟩, c4, ⟨hg, e1, e2, hk⟩, c6, c7⟩ := c
  have et : tA t = 30 + 5 * t := rfl
  refine ⟨fun u hu => ?_, ⟨Bt_fr c2 f (by omega), by rw [f.1 _ _ (by omega)]; exact c2b⟩, ⟨Bt_fr c3 f (by omega), by rw [f.1 _ _ (by omega)]; exact c3b⟩, ?_, ⟨hg, by rw [f.2.2]; exact e1, by rw [f.2.2]; exact e2, Hk_fr hk f (by omega)⟩, by rw [f.1 _ _ (by omega)]; exact c6, by rw [f.1 _ _ (by omega)]; exact c7⟩
  · by_cases z : u = t
    · subst z
      rw [upL_s]
      exact hx
    · rw [upL_n z]
      have eu : tA u = 30 + 5 * u := rfl
      exact Tx_fr (c1 u hu) f (by omega)
  · obtain ⟨v, a, b, ha, hb, w1, w2, hv2, hc⟩ := c4
    refine ⟨fun u => if u = t then v t + 1 else v u, a, b, ha, hb, by rw [f.2.2]; exact w1, by rw [f.2.2]; exact w2, fun u hu => ?_, ?_⟩
    · dsimp only
      by_cases z : u = t
      · subst z
        rw [if_pos rfl]
        have := hv2 u hu
        refine ⟨by omega, ?_⟩
        rw [hv, this.2, nI_add]
      · rw [if_neg z]
        have eu : tA u = 30 + 5 * u := rfl
        have := hv2 u hu
        exact ⟨by omega, by rw [f.1 _ _ (by omega)]; exact this.2⟩
    · rw [f.1 70 9 (by omega), f.1 70 10 (by omega)]
      rcases hc with hc | ⟨x1, y1, p1, p2, p3, p4, p5⟩
      · exact Or.inl hc
      · refine Or.inr ⟨x1, y1, p1, p2, ?_, ?_, fun r1 r2 => ?_⟩
        · show x1 ≤ if a = t then v t + 1 else v a
          split
          · rename_i z
            subst z
            omega
          · exact p3
        · show y1 ≤ if b = t then v t + 1 else v b
          split
          · rename_i z
            subst z
            omega
          · exact p4
        · have za : a ≠ t := fun z => by
            subst z
            have r1 : x1 = if a = a then v a + 1 else v a := r1
            rw [if_pos rfl] at r1
            omega
          have zb : b ≠ t := fun z => by
            subst z
            have r2 : y1 = if b = b then v b + 1 else v b := r2
            rw [if_pos rfl] at r2
            omega
          have r1 : x1 = if a = t then v t + 1 else v a := r1
          have r2 : y1 = if b = t then v t + 1 else v b := r2
          rw [if_neg za] at r1
          rw [if_neg zb] at r2
          rw [upL_n za, upL_n zb]
          exact Cmp_of (p5 r1 r2) (f.1 _ _ (by omega)) (fun k s1 s2 => f.2.1 _ (by omega))
theorem MM_become {σ τ : am_M} {L : Nat → List Int32} {T O l : List Int32} {n t : Nat} {H : Nat → Nat → Int32} {x y : Int32} (c : MM σ L T O n H x y) (ht : t < 8) (hx : MT τ t l) (f : frB t σ τ) : MM τ (upL L t l) T O n H x y := by
  obtain ⟨c1, ⟨c2, c2b⟩, ⟨c3, c3b⟩, ⟨k1, k2, k3, k4⟩, c6, c7⟩ := c
  refine ⟨fun u hu => ?_, ⟨Bs_frB c2 f (by omega) ht, by rw [f.1]; exact c2b⟩, ⟨Bs_frB c3 f (by omega) ht, by rw [f.1]; exact c3b⟩, ⟨by rw [f.1]; exact k1, by rw [f.2.1 _ (by omega) (by omega) (by omega) (by omega)]; exact k2, by rw [f.2.1 _ (by omega) (by omega) (by omega) (by omega)]; exact k3, by rw [f.2.1 _ (by omega) (by omega) (by omega) (by omega)]; exact k4⟩, by rw [f.1]; exact c6, by rw [f.1]; exact c7⟩
  by_cases z : u = t
  · subst z
    rw [upL_s]
    exact hx
  · rw [upL_n z]
    exact MT_frB (c1 u hu) f z ht
theorem frRf_B {t : Nat} {σ τ : am_M} (ht : t < 8) (f : frB t σ τ) : frRf σ τ := ⟨fun a k _ => by rw [f.1], fun a p => f.2.1 a (by omega) (by omega) (by omega) (by omega), f.2.2.2⟩
theorem frRf_fr {lo hi : Nat} {σ τ : am_M} (h : fr lo hi σ τ) (hd : 80 < lo) : frRf σ τ := ⟨fun a k q => h.1 _ _ (by omega), fun a q => h.2.1 _ (by omega), h.2.2⟩
theorem frRf_W {σ τ : am_M} (h : frW σ τ) : frRf σ τ := ⟨fun a k q => h.1 _ _ (by omega), fun a q => h.2.1 _ (by omega), h.2.2⟩
theorem frRf_O {σ τ : am_M} (h : frO σ τ) : frRf σ τ := ⟨fun a k q => h.1 _ _ (by omega), fun a q => h.2.1 _ (by omega), h.2.2⟩
theorem frRf_wf {σ : am_M} {k : Nat} {v : Int32} : frRf σ (wf σ 80 k v) := ⟨fun a j q => by simp only [wf]; rw [if_neg (by omega)], fun _ _ => rfl, rfl⟩
theorem frRf_wa {σ : am_M} {a : Nat} {f : Nat → Int32} (h : 80 < a) : frRf σ (wa σ a f) := ⟨fun _ _ _ => rfl, fun b q => by rw [wa_2, if_neg (by omega)], rfl⟩
