/-! the line that is wrong -/
def Eb (T : List Int32) (e : Nat) : Prop := 0 < e ∧ e ≤ lnum T + 1
theorem Eb_1 {T : List Int32} {k : Nat} (h : k ≤ lnum T) : Eb T (k + 1) := ⟨by omega, by omega⟩
theorem Eb_e {T : List Int32} {k e : Nat} {α : Type} (h : k ≤ lnum T) (q : (Except.error (k + 1) : Except Nat α) = .error e) : Eb T e := by
  cases q
  exact Eb_1 h
theorem rowsP_E {T : List Int32} {j sg : Nat} : ∀ (n k : Nat) (s : Sk) (e : Nat), k ≤ lnum T → rowsP T j sg n k s = .error e → Eb T e
  | 0, k, s, e, hk, h => by cases h
  | n + 1, k, s, e, hk, h => by
    unfold rowsP at h
    split at h
    · rename_i w
      exact rowsP_E n (k + 1) _ e w.1.1 h
    · exact Eb_e hk h
theorem rowP_E {T : List Int32} {j sg n k : Nat} {s : Sk} {e : Nat} (hk : k ≤ lnum T) (h : rowP T j sg n k s = .error e) : Eb T e := by
  rcases bnd_er h with h | ⟨w, h1, h2⟩
  · exact rowsP_E n k s e hk h
  · cases h2
theorem sepN_E {T : List Int32} {L k e : Nat} (hk : k ≤ lnum T) (h : sepN T L k = .error e) : Eb T e := by
  unfold sepN at h
  split at h
  · split at h
    · cases h
    · exact Eb_e hk h
  · cases h
theorem bodN_E {c : Nat} {T : List Int32} {L g n k : Nat} {s : Sk} {e : Nat} (hI : Iv c T k s) (h : bodN T L g n k s = .error e) : Eb T e := by
  rcases bnd_er h with h | ⟨w, h1, h2⟩
  · exact rowP_E hI.1 h
  · have i1 := rowP_I t5.1 t5.2 hI h1
    rcases bnd_er h2 with h2 | ⟨k1, h3, h4⟩
    · exact sepN_E i1.1.1 h2
    · exact rowP_E (sepN_I i1.1.1 h3).2 h4
theorem cmdN_E {T : List Int32} {k last : Nat} {h : Int32} {s : Sk} {e : Nat} (hI : Iv 3 T k s) (q : cmdN T k last h s = .error e) : Eb T e := by
  unfold cmdN at q
  split at q
  case isFalse => exact Eb_e hI.1 q
  rename_i hw
  cases hh : hdN T k with
  | none =>
    rw [hh] at q
    exact Eb_e hI.1 q
  | some w =>
    obtain ⟨L, a, a2, b, b2⟩ := w
    rw [hh] at q
    simp only at q
    split at q
    case isFalse => exact Eb_e hI.1 q
    obtain ⟨p, p2, g1, g2, g3, g4, g5⟩ := hdN_some hh
    have hn := hdN_end hI.1 g1 g2 g3 g4 g5
    have hI2 : Iv 3 T (k + 1) (addC s a (gsN L a a2) b (csN L b b2)) := Iv_addC hI hw.1 (by omega)
    rcases bnd_er q with q | ⟨w, q1, q2⟩
    · exact bodN_E hI2 q
    · cases q2
theorem lpN_E {T : List Int32} : ∀ (d k last : Nat) (h : Int32) (s : Sk) (e : Nat), Iv 3 T k s → lpN T d k last h s = .error e → Eb T e
  | 0, k, last, h, s, e, hI, q => by cases q
  | d + 1, k, last, h, s, e, hI, q => by
    unfold lpN at q
    split at q
    · rcases bnd_er q with q | ⟨v, q1, q2⟩
      · exact cmdN_E hI q
      · exact lpN_E d _ _ _ _ e (cmdN_I hI q1).1 q2
    · cases q
theorem prN_E {T : List Int32} {e : Nat} (h : prN T = .error e) : Eb T e := lpN_E _ _ _ _ _ e (Iv_0 (by omega)) h
theorem dotP_E {c : Nat} {T : List Int32} : ∀ (d n k : Nat) (s : Sk) (e : Nat), k ≤ lnum T → dotP T d n k s = .error e → Eb T e
  | 0, n, k, s, e, hk, q => Eb_e hk q
  | d + 1, n, k, s, e, hk, q => by
    unfold dotP at q
    split at q
    · rename_i w
      split at q
      · split at q
        · cases q
        · exact Eb_e hk q
      · exact dotP_E (c := c) d (n + 1) (k + 1) _ e w.1 q
    · exact Eb_e hk q
theorem cmdE_E {T : List Int32} {k ab : Nat} {s : Sk} {e : Nat} (hI : Iv 3 T k s) (q : cmdE T k ab s = .error e) : Eb T e := by
  unfold cmdE at q
  split at q
  case isFalse => exact Eb_e hI.1 q
  rename_i hw
  cases hh : hdE T k with
  | none =>
    rw [hh] at q
    exact Eb_e hI.1 q
  | some w =>
    obtain ⟨L, a, a2⟩ := w
    rw [hh] at q
    simp only at q
    split at q
    case isFalse => exact Eb_e hI.1 q
    rcases bnd_er q with q | ⟨w, q1, q2⟩
    · split at q
      · cases q
      · exact dotP_E (c := 0) _ _ _ _ e hw.1 q
    · cases q2
theorem lpE_E {T : List Int32} : ∀ (d k ab : Nat) (s : Sk) (e : Nat), Iv 3 T k s → lpE T d k ab s = .error e → Eb T e
  | 0, k, ab, s, e, hI, q => by cases q
  | d + 1, k, ab, s, e, hI, q => by
    unfold lpE at q
    split at q
    · rcases bnd_er q with q | ⟨v, q1, q2⟩
      · exact cmdE_E hI q
      · exact lpE_E d _ _ _ e (cmdE_I hI q1).1 q2
    · cases q
theorem prE_E {T : List Int32} {e : Nat} (h : prE T = .error e) : Eb T e := lpE_E _ _ _ _ e (Iv_0 (by omega)) h
theorem markP_k {T : List Int32} {k : Nat} {s : Sk} (hk : k ≤ lnum T) : (markP T (k, s)).1 ≤ lnum T := by
  unfold markP
  split
  · rename_i h
    exact (mark_whl hk h).1.1
  · exact hk
theorem linP_E {T : List Int32} : ∀ (d x y k : Nat) (s : Sk) (e : Nat), k ≤ lnum T → linP T d x y k s = .error e → Eb T e
  | 0, x, y, k, s, e, hk, q => by cases q
  | d + 1, x, y, k, s, e, hk, q => by
    unfold linP at q
    split at q
    · split at q
      · rename_i w
        exact linP_E d _ _ _ _ e (markP_k w.1.1) q
      · exact Eb_e hk q
    · cases q
theorem cmdU_E {T : List Int32} {k last : Nat} {s : Sk} {e : Nat} (hk : k ≤ lnum T) (q : cmdU T k last s = .error e) : Eb T e := by
  unfold cmdU at q
  split at q
  case isFalse => exact Eb_e hk q
  rename_i hw
  cases hh : hdU T k with
  | none =>
    rw [hh] at q
    exact Eb_e hk q
  | some w =>
    obtain ⟨a, n, b, m⟩ := w
    rw [hh] at q
    simp only at q
    split at q
    case isFalse => exact Eb_e hk q
    rcases bnd_er q with q | ⟨w, q1, q2⟩
    · exact linP_E _ _ _ _ _ e hw.1 q
    · cases q2
theorem lpU_E {T : List Int32} : ∀ (d k last : Nat) (s : Sk) (e : Nat), Iv 12 T k s → lpU T d k last s = .error e → Eb T e
  | 0, k, last, s, e, hI, q => by cases q
  | d + 1, k, last, s, e, hI, q => by
    unfold lpU at q
    split at q
    · rcases bnd_er q with q | ⟨v, q1, q2⟩
      · exact cmdU_E hI.1 q
      · exact lpU_E d _ _ _ e (cmdU_I hI q1).1 q2
    · cases q
theorem prU_E {T : List Int32} {e : Nat} (h : prU T = .error e) : Eb T e := by
  unfold prU at h
  split at h
  · cases h
  rename_i h0
  split at h
  case isFalse =>
    cases h
    exact ⟨by omega, by omega⟩
  rename_i h1
  split at h
  case isFalse =>
    cases h
    have := h1.1.1
    exact ⟨by omega, by omega⟩
  rename_i h2
  exact lpU_E _ _ _ _ e (Iv_0 h2.1.1) h
