/-! what is written, as lists -/
def wrLs (sg l : List Int32) : Nat → Nat → List Int32
  | 0, _ => []
  | k + 1, i => (sg ++ wrL (gl l) (lsta l i) (lsta l (i + 1))) ++ wrLs sg l k (i + 1)
def crL (a k : Nat) : List Int32 := if k = 0 then digs a 5 else rngL (a + 1) k
def ltr (n m : Nat) : Nat := if n = 0 then 97 else if m = 0 then 100 else 99
def nmL (A B : List Int32) (C : Nat → Nat → Nat) (k : Nat) : List Int32 := crL (C 0 k) (C 1 k) ++ ([nI (ltr (C 1 k) (C 3 k))] ++ (crL (C 2 k) (C 3 k) ++ ([nI 10] ++ (wrLs (am_txt 23) A (C 1 k) (C 0 k) ++ ((if 0 < C 1 k ∧ 0 < C 3 k then am_txt 24 else []) ++ wrLs (am_txt 25) B (C 3 k) (C 2 k))))))
def nmLs (A B : List Int32) (C : Nat → Nat → Nat) : Nat → Nat → List Int32
  | 0, _ => []
  | d + 1, k => nmL A B C k ++ nmLs A B C d (k + 1)
def edL (B : List Int32) (C : Nat → Nat → Nat) (k : Nat) : List Int32 := crL (C 0 k) (C 1 k) ++ ([nI (ltr (C 1 k) (C 3 k))] ++ ([nI 10] ++ (wrLs (am_txt 27) B (C 3 k) (C 2 k) ++ (if 0 < C 3 k then am_txt 28 else []))))
def edLs (B : List Int32) (C : Nat → Nat → Nat) : Nat → List Int32
  | 0 => []
  | k + 1 => edL B C k ++ edLs B C k
/-- the pairs behind change k -/
def pbh (A : List Int32) (n : Nat) (C : Nat → Nat → Nat) (k : Nat) : Nat := (if k + 1 < n then C 0 (k + 1) else lnum A) - C 0 k - C 1 k
def fnm (f t : Nat) : Nat := if f = t then f else f + 1
def hbL (A B : List Int32) (C : Nat → Nat → Nat) (aT : Nat) : Nat → Nat → Nat → List Int32
  | 0, _, i => wrLs (am_txt 29) A (aT - i) i
  | d + 1, k, i => wrLs (am_txt 29) A (C 0 k - i) i ++ (wrLs (am_txt 30) A (C 1 k) (C 0 k) ++ (wrLs (am_txt 31) B (C 3 k) (C 2 k) ++ hbL A B C aT d (k + 1) (C 0 k + C 1 k)))
def hkL (A B : List Int32) (n : Nat) (C : Nat → Nat → Nat) (ar f l : Nat) : List Int32 :=
  hdL (fnm (C 0 f - min ar (C 0 f)) (C 0 l + C 1 l + min ar (pbh A n C l))) (C 0 l + C 1 l + min ar (pbh A n C l) - (C 0 f - min ar (C 0 f))) (fnm (C 2 f - min ar (C 0 f)) (C 2 l + C 3 l + min ar (pbh A n C l))) (C 2 l + C 3 l + min ar (pbh A n C l) - (C 2 f - min ar (C 0 f)))
  ++ hbL A B C (C 0 l + C 1 l + min ar (pbh A n C l)) (l + 1 - f) f (C 0 f - min ar (C 0 f))
def unLs (A B : List Int32) (n : Nat) (C : Nat → Nat → Nat) (ar : Nat) : Nat → Nat → Nat → List Int32
  | 0, _, _ => []
  | d + 1, k, f => if k + 1 = n ∨ 2 * ar < pbh A n C k then hkL A B n C ar f k ++ unLs A B n C ar d (k + 1) (k + 1) else unLs A B n C ar d (k + 1) f
def unL (A B : List Int32) (n : Nat) (C : Nat → Nat → Nat) (ar : Nat) : List Int32 := (if 0 < n then am_txt 26 else []) ++ unLs A B n C ar n 0 0
/-- the changes' places -/
theorem wkF_b {A B : List Int32} : ∀ d k, k + d + 1 = (wkF A B).2.2.2.2.1 → (wkF A B).2.2.2.2.2 0 k + (wkF A B).2.2.2.2.2 1 k ≤ lnum A ∧ (wkF A B).2.2.2.2.2 2 k + (wkF A B).2.2.2.2.2 3 k ≤ lnum B := by
  obtain ⟨hI, e1, e2⟩ := wkF_I (A := A) (B := B)
  obtain ⟨h1, h2, h3, h4, h5, h6, h7, h8, h9, h10, h11, h12⟩ := hI
  intro d
  induction d with
  | zero =>
    intro k hk
    obtain ⟨z1, z2, -⟩ := h7 k (by omega)
    omega
  | succ d ih =>
    intro k hk
    obtain ⟨y1, y2⟩ := ih (k + 1) (by omega)
    obtain ⟨z1, z2, z3⟩ := h8 k (by omega)
    omega
theorem wkF_c {A B : List Int32} {k : Nat} (h : k < (wkF A B).2.2.2.2.1) : (wkF A B).2.2.2.2.2 0 k + (wkF A B).2.2.2.2.2 1 k ≤ lnum A ∧ (wkF A B).2.2.2.2.2 2 k + (wkF A B).2.2.2.2.2 3 k ≤ lnum B := wkF_b ((wkF A B).2.2.2.2.1 - k - 1) k (by omega)
theorem wkF_n {A B : List Int32} : (wkF A B).2.2.2.2.1 ≤ lnum A + 1 := by
  obtain ⟨hI, e1, e2⟩ := wkF_I (A := A) (B := B)
  have := hI.2.2.1
  omega
/-- the next change lies further, in both alike -/
theorem wkF_s {A B : List Int32} {k : Nat} (h : k + 1 < (wkF A B).2.2.2.2.1) : (wkF A B).2.2.2.2.2 0 k + (wkF A B).2.2.2.2.2 1 k < (wkF A B).2.2.2.2.2 0 (k + 1) ∧ (wkF A B).2.2.2.2.2 2 k + (wkF A B).2.2.2.2.2 3 k < (wkF A B).2.2.2.2.2 2 (k + 1) ∧ (wkF A B).2.2.2.2.2 0 (k + 1) + ((wkF A B).2.2.2.2.2 2 k + (wkF A B).2.2.2.2.2 3 k) = (wkF A B).2.2.2.2.2 2 (k + 1) + ((wkF A B).2.2.2.2.2 0 k + (wkF A B).2.2.2.2.2 1 k) := by
  obtain ⟨hI, e1, e2⟩ := wkF_I (A := A) (B := B)
  have := hI.2.2.2.2.2.2.2.1 k h
  omega
theorem wkF_0 {A B : List Int32} (h : 0 < (wkF A B).2.2.2.2.1) : (wkF A B).2.2.2.2.2 0 0 = (wkF A B).2.2.2.2.2 2 0 := (wkF_I (A := A) (B := B)).1.2.2.2.2.2.2.2.2.1 h
/-- behind the last change -/
theorem wkF_l {A B : List Int32} {k : Nat} (h : k + 1 = (wkF A B).2.2.2.2.1) : lnum A + ((wkF A B).2.2.2.2.2 2 k + (wkF A B).2.2.2.2.2 3 k) = lnum B + ((wkF A B).2.2.2.2.2 0 k + (wkF A B).2.2.2.2.2 1 k) := by
  obtain ⟨hI, e1, e2⟩ := wkF_I (A := A) (B := B)
  have := (hI.2.2.2.2.2.2.1 k h).2.2.1
  omega
