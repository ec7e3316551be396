/-! numbers below zero -/
def iI (x : Int) : Int32 := Int32.ofInt x
theorem iI_toInt {x : Int} (h1 : -2147483648 ≤ x) (h2 : x < 2147483648) : (iI x).toInt = x := Int32.toInt_ofInt_of_le (by simpa using h1) (by simpa using h2)
theorem nI_iI (n : Nat) : nI n = iI n := by
  show nI n = Int32.ofInt n
  rw [Int32.ofInt_eq_ofNat]
  rfl
theorem iI_nat {x : Int} (h : 0 ≤ x) : iI x = nI x.toNat := by
  rw [nI_iI]
  congr 1
  omega
theorem iI_add (x y : Int) : iI x + iI y = iI (x + y) := (Int32.ofInt_add x y).symm
theorem iI_sub (x y : Int) : iI x - iI y = iI (x - y) := (Int32.ofInt_sub x y).symm
theorem mI_iI : mI = iI (-1) := by decide
theorem iI_le {x y : Int} (h1 : -2147483648 ≤ x ∧ x < 2147483648) (h2 : -2147483648 ≤ y ∧ y < 2147483648) : (iI x ≤ iI y) = (x ≤ y) := by
  rw [Int32.le_iff_toInt_le, iI_toInt h1.1 h1.2, iI_toInt h2.1 h2.2]
theorem iI_lt {x y : Int} (h1 : -2147483648 ≤ x ∧ x < 2147483648) (h2 : -2147483648 ≤ y ∧ y < 2147483648) : (iI x < iI y) = (x < y) := by
  rw [Int32.lt_iff_toInt_lt, iI_toInt h1.1 h1.2, iI_toInt h2.1 h2.2]
theorem iI_eq {x y : Int} (h1 : -2147483648 ≤ x ∧ x < 2147483648) (h2 : -2147483648 ≤ y ∧ y < 2147483648) : (iI x = iI y) = (x = y) := by
  apply propext
  constructor
  · intro h
    have := congrArg Int32.toInt h
    rw [iI_toInt h1.1 h1.2, iI_toInt h2.1 h2.2] at this
    exact this
  · intro h
    rw [h]
theorem iI_max {x y : Int} (h1 : -2147483648 ≤ x ∧ x < 2147483648) (h2 : -2147483648 ≤ y ∧ y < 2147483648) : (if iI x ≤ iI y then iI y else iI x) = iI (max x y) := by
  by_cases h : x ≤ y
  · rw [if_pos (by rw [iI_le h1 h2]; exact h), Int.max_eq_right h]
  · rw [if_neg (by rw [iI_le h1 h2]; exact h), Int.max_eq_left (by omega)]
/-! a script set against a text -/
def ah (s : Sk) (k : Nat) : Nat := if s.1.2 1 k = 0 then s.1.2 0 k else s.1.2 0 k - 1
def bl (T : List Int32) (s : Sk) (j : Nat) : List Int32 := slc (gl T) (s.2.2 1 j) (s.2.2 2 j - s.2.2 1 j)
/-- the d lines from j on, but those that come, are the text's from i on -/
def fitB (l T : List Int32) (s : Sk) : Nat → Nat → Nat → Bool
  | 0, _, _ => true
  | d + 1, j, i => if s.2.2 0 j = 43 then fitB l T s d (j + 1) i else decide (i < lnum l ∧ line l i = bl T s j) && fitB l T s d (j + 1) (i + 1)
/-- the d lines from j on, but those that go, are added -/
def adB (T : List Int32) (s : Sk) : Nat → Nat → List Int32 × Bool → List Int32 × Bool
  | 0, _, a => a
  | d + 1, j, a => adB T s d (j + 1) (if s.2.2 0 j = 45 then a else ad1 (gl T) (s.2.2 1 j) (s.2.2 2 j) a)
def kth (s : Sk) (rev : Bool) (n : Nat) : Nat := if rev = true then s.1.1 - 1 - n else n
def apC (l T : List Int32) (s : Sk) (rev : Bool) : Nat → Nat → Nat → List Int32 × Bool → Option (Nat × (List Int32 × Bool))
  | 0, _, dn, a => some (dn, a)
  | d + 1, n, dn, a => if dn ≤ ah s (kth s rev n) ∧ ah s (kth s rev n) + s.1.2 1 (kth s rev n) ≤ lnum l ∧ fitB l T s (beh s (kth s rev n) - s.1.2 4 (kth s rev n)) (s.1.2 4 (kth s rev n)) (ah s (kth s rev n)) = true then apC l T s rev d (n + 1) (ah s (kth s rev n) + s.1.2 1 (kth s rev n)) (adB T s (beh s (kth s rev n) - s.1.2 4 (kth s rev n)) (s.1.2 4 (kth s rev n)) (adL l (ah s (kth s rev n) - dn) dn a)) else none
def apR (l T : List Int32) (s : Sk) (rev : Bool) : Option (List Int32 × Bool) :=
  match apC l T s rev s.1.1 0 0 ([], false) with
  | none => none
  | some v => some (adL l (lnum l - v.1) v.1 v.2)
/-- what fuzz leaves of a hunk: its first line, behind its last one, how many of the text -/
def lv1 (s : Sk) (b : Nat) : Nat → Nat → Nat
  | 0, f => f
  | g + 1, f => if f < b ∧ s.2.2 0 f = 32 then lv1 s b g (f + 1) else f
def lv2 (s : Sk) (f : Nat) : Nat → Nat → Nat
  | 0, b => b
  | g + 1, b => if f < b ∧ s.2.2 0 (b - 1) = 32 then lv2 s f g (b - 1) else b
def cnO (s : Sk) : Nat → Nat → Nat
  | 0, _ => 0
  | d + 1, j => (if s.2.2 0 j = 43 then 0 else 1) + cnO s d (j + 1)
def hkF (s : Sk) (k g : Nat) : Nat := lv1 s (beh s k) g (s.1.2 4 k)
def hkB (s : Sk) (k g : Nat) : Nat := lv2 s (hkF s k g) g (beh s k)
def hkO (s : Sk) (k g : Nat) : Nat := cnO s (hkB s k g - hkF s k g) (hkF s k g)
theorem lv1_in {s : Sk} {b : Nat} : ∀ g f, f ≤ b → f ≤ lv1 s b g f ∧ lv1 s b g f ≤ b ∧ lv1 s b g f ≤ f + g
  | 0, f, h => ⟨Nat.le_refl _, h, Nat.le_refl _⟩
  | g + 1, f, h => by
    unfold lv1
    split
    · rename_i q
      have := lv1_in (s := s) (b := b) g (f + 1) q.1
      omega
    · omega
theorem lv2_in {s : Sk} {f : Nat} : ∀ g b, f ≤ b → f ≤ lv2 s f g b ∧ lv2 s f g b ≤ b
  | 0, b, h => ⟨h, Nat.le_refl _⟩
  | g + 1, b, h => by
    unfold lv2
    split
    · rename_i q
      have := lv2_in (s := s) (f := f) g (b - 1) (by omega)
      omega
    · omega
theorem cnO_le {s : Sk} : ∀ d j, cnO s d j ≤ d
  | 0, _ => Nat.le_refl _
  | d + 1, j => by
    have := cnO_le (s := s) d (j + 1)
    unfold cnO
    split <;> omega
theorem fitB_old {l T : List Int32} {s : Sk} : ∀ d j i, fitB l T s d j i = true → cnO s d j = 0 ∨ i + cnO s d j ≤ lnum l
  | 0, j, i, _ => Or.inl rfl
  | d + 1, j, i, h => by
    unfold fitB at h
    unfold cnO
    by_cases q : s.2.2 0 j = 43
    · rw [if_pos q] at h ⊢
      have := fitB_old d (j + 1) i h
      omega
    · rw [if_neg q] at h ⊢
      rw [Bool.and_eq_true, decide_eq_true_eq] at h
      have := fitB_old d (j + 1) (i + 1) h.2
      have := h.1.1
      omega
/-- hunk k with fuzz g fits at p, behind dn -/
def fitZ (l T : List Int32) (s : Sk) (dn k g : Nat) (p : Int) : Bool := decide ((dn : Int) ≤ p ∧ p + (hkO s k g : Int) ≤ (lnum l : Int)) && fitB l T s (hkB s k g - hkF s k g) (hkF s k g) p.toNat
/-- the nearest place to w, those behind it first -/
def srch (fit : Int → Bool) (w : Int) : Nat → Nat → Option Int
  | 0, _ => none
  | m + 1, d => if fit (w + d) = true then some (w + d) else if fit (w - d) = true then some (w - d) else srch fit w m (d + 1)
theorem srch_skip {fit : Int → Bool} {w : Int} {n : Nat} : ∀ m d, (∀ x : Nat, d ≤ x → x < d + m → fit (w + x) = false ∧ fit (w - x) = false) → srch fit w (m + n) d = srch fit w n (d + m)
  | 0, d, _ => by rw [Nat.zero_add]; rfl
  | m + 1, d, h => by
    have e : m + 1 + n = m + n + 1 := by omega
    have e1 : srch fit w (m + n + 1) d = if fit (w + d) = true then some (w + d) else if fit (w - d) = true then some (w - d) else srch fit w (m + n) (d + 1) := rfl
    rw [e, e1]
    have h0 := h d (Nat.le_refl _) (by omega)
    rw [if_neg (by rw [h0.1]; decide), if_neg (by rw [h0.2]; decide), srch_skip m (d + 1) (fun x h1 h2 => h x (by omega) (by omega)), show d + 1 + m = d + (m + 1) by omega]
theorem srch_none {fit : Int → Bool} {w : Int} (m d : Nat) (h : ∀ x : Nat, d ≤ x → fit (w + x) = false ∧ fit (w - x) = false) : srch fit w m d = none := by
  have := srch_skip (n := 0) (fit := fit) (w := w) m d (fun x h1 _ => h x h1)
  rw [Nat.add_zero] at this
  rw [this]
  rfl
theorem srch_more {fit : Int → Bool} {w : Int} (n : Nat) : ∀ m d, (∀ x : Nat, d + m ≤ x → fit (w + x) = false ∧ fit (w - x) = false) → srch fit w (m + n) d = srch fit w m d
  | 0, d, h => by rw [Nat.zero_add, srch_none n d (fun x h1 => h x (by omega))]; rfl
  | m + 1, d, h => by
    have e : m + 1 + n = m + n + 1 := by omega
    rw [e]
    unfold srch
    rw [srch_more n m (d + 1) (fun x h1 => h x (by omega))]
/-- the search among those that lie within lo .. hi -/
theorem srch_in {fit : Int → Bool} {w lo hi : Int} (h : ∀ p, fit p = true → lo ≤ p ∧ p ≤ hi) {near far M : Nat} (h1 : ∀ x : Nat, x < near → x < lo - w ∨ x < w - hi) (h2 : w - lo ≤ far) (h3 : hi - w ≤ far) (hM : far < M) (hnf : near ≤ far + 1) : srch fit w M 0 = srch fit w (far + 1 - near) near := by
  have no : ∀ p, ¬ (lo ≤ p ∧ p ≤ hi) → fit p = false := fun p hp => by
    cases hf : fit p with
    | false => rfl
    | true => exact absurd (h p hf) hp
  have e : M = near + (far + 1 - near + (M - (far + 1))) := by omega
  rw [e, srch_skip near 0 (fun x _ hx => ?_), Nat.zero_add, srch_more _ _ _ (fun x hx => ?_)]
  · exact ⟨no _ (by omega), no _ (by omega)⟩
  · have := h1 x (by omega)
    exact ⟨no _ (by omega), no _ (by omega)⟩
def wnt (s : Sk) (sh : Int) (k g : Nat) : Int := (ah s k : Int) + sh + ((hkF s k g - s.1.2 4 k : Nat) : Int)
def plc (l T : List Int32) (s : Sk) (dn : Nat) (sh : Int) (k g : Nat) : Option Int := srch (fitZ l T s dn k g) (wnt s sh k g) ((wnt s sh k g).natAbs + lnum l + 2) 0
def tryF (l T : List Int32) (s : Sk) (dn : Nat) (sh : Int) (k : Nat) : Nat → Nat → Option (Int × Nat)
  | 0, _ => none
  | m + 1, g =>
    match plc l T s dn sh k g with
    | some p => some (p, g)
    | none => tryF l T s dn sh k m (g + 1)
theorem srch_fit {fit : Int → Bool} {w p : Int} : ∀ m d, srch fit w m d = some p → fit p = true
  | 0, d, h => by cases h
  | m + 1, d, h => by
    unfold srch at h
    split at h
    · rename_i q
      cases h
      exact q
    split at h
    · rename_i q
      cases h
      exact q
    · exact srch_fit m (d + 1) h
theorem plc_in {l T : List Int32} {s : Sk} {dn k g : Nat} {sh p : Int} (h : plc l T s dn sh k g = some p) : (dn : Int) ≤ p ∧ p + (hkO s k g : Int) ≤ (lnum l : Int) ∧ fitB l T s (hkB s k g - hkF s k g) (hkF s k g) p.toNat = true := by
  have := srch_fit _ _ h
  unfold fitZ at this
  rw [Bool.and_eq_true, decide_eq_true_eq] at this
  exact ⟨this.1.1, this.1.2, this.2⟩
theorem tryF_in {l T : List Int32} {s : Sk} {dn k : Nat} {sh : Int} {v : Int × Nat} : ∀ m g, tryF l T s dn sh k m g = some v → plc l T s dn sh k v.2 = some v.1 ∧ g ≤ v.2 ∧ v.2 < g + m
  | 0, g, h => by cases h
  | m + 1, g, h => by
    unfold tryF at h
    cases hp : plc l T s dn sh k g with
    | some p =>
      rw [hp] at h
      cases h
      exact ⟨hp, Nat.le_refl _, by show g < _; omega⟩
    | none =>
      rw [hp] at h
      have := tryF_in m (g + 1) h
      exact ⟨this.1, by omega, by omega⟩
def upH (H : Nat → Nat → Int32) (k : Nat) (x y z : Int32) : Nat → Nat → Int32 := fun f i => if i = k then (if f = 0 then x else if f = 1 then y else z) else H f i
/-- the hunks from k on: how many were rejected, what comes, where they were placed -/
def apH (l T : List Int32) (s : Sk) (F : Nat) : Nat → Nat → Nat → Int → Nat → List Int32 × Bool → (Nat → Nat → Int32) → Nat × (List Int32 × Bool) × (Nat → Nat → Int32)
  | 0, _, rj, _, dn, a, H => (rj, adL l (lnum l - dn) dn a, H)
  | d + 1, k, rj, sh, dn, a, H =>
    match tryF l T s dn sh k (F + 1) 0 with
    | none => apH l T s F d (k + 1) (rj + 1) sh dn a (upH H k mI (nI 0) (nI 0))
    | some v => apH l T s F d (k + 1) rj (v.1 - ((hkF s k v.2 - s.1.2 4 k : Nat) : Int) - (ah s k : Int)) (v.1.toNat + hkO s k v.2) (adB T s (hkB s k v.2 - hkF s k v.2) (hkF s k v.2) (adL l (v.1.toNat - dn) dn a)) (upH H k (nI v.1.toNat) (iI (v.1 - ((hkF s k v.2 - s.1.2 4 k : Nat) : Int) - (ah s k : Int))) (nI v.2))
