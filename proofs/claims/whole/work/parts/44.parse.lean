/-! scripts as they are read from lines -/
theorem nrun_s {T : List Int32} : ∀ m p, nrun T (m + 1) p = if nrun T m p = m ∧ isd T (p + m) then m + 1 else nrun T m p
  | 0, p => by
    unfold nrun nrun
    by_cases h : isd T p
    · rw [if_pos h, if_pos ⟨rfl, h⟩]
    · rw [if_neg h, if_neg (fun z => h z.2)]
  | m + 1, p => by
    have ih := nrun_s (T := T) m (p + 1)
    have e1 : nrun T (m + 1 + 1) p = if isd T p then nrun T (m + 1) (p + 1) + 1 else 0 := rfl
    have e2 : nrun T (m + 1) p = if isd T p then nrun T m (p + 1) + 1 else 0 := rfl
    rw [e1, e2]
    by_cases h : isd T p
    · rw [if_pos h, if_pos h, ih]
      by_cases q : nrun T m (p + 1) = m ∧ isd T (p + 1 + m)
      · rw [if_pos q, if_pos ⟨by omega, by rw [show p + (m + 1) = p + 1 + m by omega]; exact q.2⟩]
      · rw [if_neg q, if_neg (fun z => q ⟨by omega, by rw [show p + 1 + m = p + (m + 1) by omega]; exact z.2⟩)]
    · rw [if_neg h, if_neg h, if_neg (fun z => by omega)]
/-- a NUMBER at p: it, and where it ends -/
def pnum (T : List Int32) (p : Nat) : Option (Nat × Nat) := if nrun T 6 p = 0 ∨ nrun T 6 p = 6 ∨ (1 < nrun T 6 p ∧ gl T p = nI 48) then none else some (nval T (nrun T 6 p) p 0, p + nrun T 6 p)
theorem tn_some {T : List Int32} {p v q : Nat} (h : pnum T p = some (v, q)) : tnR T p = nI v ∧ q = p + nrun T 5 p ∧ ¬ isd T q ∧ v < 100000 ∧ p < q ∧ q ≤ p + 5 ∧ q ≤ T.length ∧ nrun T 6 p = nrun T 5 p ∧ v = nval T (nrun T 5 p) p 0 ∧ ¬ (1 < nrun T 5 p ∧ gl T p = nI 48) := by
  unfold pnum at h
  split at h
  · cases h
  rename_i hc
  have hl := nrun_le (T := T) 6 p
  have hc0 : ¬ nrun T 6 p = 0 := fun z => hc (Or.inl z)
  have hc6 : ¬ nrun T 6 p = 6 := fun z => hc (Or.inr (Or.inl z))
  have he := nrun_end (T := T) 6 p (by omega)
  have hs : nrun T 6 p = if nrun T 5 p = 5 ∧ isd T (p + 5) then 6 else nrun T 5 p := nrun_s (T := T) 5 p
  have h5 : nrun T 6 p = nrun T 5 p := by
    by_cases z : nrun T 5 p = 5 ∧ isd T (p + 5)
    · rw [if_pos z] at hs; omega
    · rw [if_neg z] at hs; exact hs
  rw [Option.some.injEq, Prod.mk.injEq] at h
  obtain ⟨h1, h2⟩ := h
  rw [h5] at h1 h2 he hc hl hc0 hc6
  have hin := nrun_in (T := T) 5 p
  have hv := nval_lt (T := T) (nrun T 5 p) p 0 hin
  have h10 : 10 ^ nrun T 5 p ≤ 10 ^ 5 := Nat.pow_le_pow_right (by omega) (nrun_le 5 p)
  have hlast := (hin (nrun T 5 p - 1) (by omega)).1
  have h5le := nrun_le (T := T) 5 p
  refine ⟨?_, h2.symm, by rw [← h2]; exact he, by omega, by omega, by omega, by omega, h5, h1.symm, fun z => hc (Or.inr (Or.inr z))⟩
  unfold tnR
  rw [if_neg (fun z => by rcases z with z | z; exact hc (Or.inl z); exact hc (Or.inr (Or.inr z))), h1]
theorem tn_none {T : List Int32} {p : Nat} (h : pnum T p = none) : tnR T p = mI ∨ isd T (p + nrun T 5 p) := by
  unfold pnum at h
  split at h
  case isFalse => cases h
  rename_i hc
  have hs : nrun T 6 p = if nrun T 5 p = 5 ∧ isd T (p + 5) then 6 else nrun T 5 p := nrun_s (T := T) 5 p
  by_cases z : nrun T 5 p = 5 ∧ isd T (p + 5)
  · rw [z.1]
    exact Or.inr z.2
  rw [if_neg z] at hs
  rw [hs] at hc
  have h5le := nrun_le (T := T) 5 p
  refine Or.inl ?_
  unfold tnR
  rw [if_pos]
  rcases hc with q | q | q
  · exact Or.inl q
  · omega
  · exact Or.inr q
theorem tnR_in {T : List Int32} {p : Nat} : tnR T p = mI ∨ ∃ v, v < 100000 ∧ tnR T p = nI v := by
  unfold tnR
  split
  · exact Or.inl rfl
  · refine Or.inr ⟨_, ?_, rfl⟩
    have hv := nval_lt (T := T) (nrun T 5 p) p 0 (nrun_in 5 p)
    have h10 : 10 ^ nrun T 5 p ≤ 10 ^ 5 := Nat.pow_le_pow_right (by omega) (nrun_le 5 p)
    omega
/-- a piece of one byte -/
theorem gl_out {T : List Int32} {p : Nat} (h : T.length ≤ p) : gl T p = nI 0 := by
  unfold gl
  rw [List.getD_eq_getElem?_getD, List.getElem?_eq_none h]
  rfl
theorem gl_ltn {T : List Int32} {p : Nat} (h : gl T p ≠ nI 0) : p < T.length := by
  rcases Nat.lt_or_ge p T.length with q | q
  · exact q
  · exact absurd (gl_out q) h
theorem stn_iff {T : List Int32} {j p m : Nat} (hm : (am_txt j).length = m) (h : ∀ i, i < m → gl (am_txt j) i ≠ nI 0) (h0 : 0 < m) : stn T j p ↔ ∀ i, i < m → gl T (p + i) = gl (am_txt j) i := by
  constructor
  · intro z i hi
    exact stn_get z (by omega)
  · intro z
    have := gl_ltn (T := T) (p := p + (m - 1)) (by rw [z _ (by omega)]; exact h _ (by omega))
    exact ⟨by omega, slc_list (fun i hi => z i (by omega))⟩
theorem stn_1 {T : List Int32} {j p : Nat} {c : Nat} (hm : am_txt j = [nI c]) (h : nI c ≠ nI 0) : stn T j p ↔ gl T p = nI c := by
  have e : gl (am_txt j) 0 = nI c := by rw [hm]; rfl
  rw [stn_iff (m := 1) (by rw [hm]; rfl) (fun i hi => by
    have hi0 : i = 0 := by omega
    rw [hi0, e]
    exact h) (by omega)]
  constructor
  · intro z
    have := z 0 (by omega)
    rw [e] at this
    exact this
  · intro z i hi
    obtain rfl : i = 0 := by omega
    rw [e]
    exact z
theorem stn_33 {T : List Int32} {p : Nat} : stn T 33 p ↔ gl T p = nI 44 := stn_1 (by decide +kernel) (by decide)
theorem stn_39 {T : List Int32} {p : Nat} : stn T 39 p ↔ gl T p = nI 44 := stn_1 (by decide +kernel) (by decide)
theorem stn_4 {T : List Int32} {p : Nat} : stn T 4 p ↔ gl T p = nI 10 := stn_1 (by decide +kernel) (by decide)
theorem stn_8 {T : List Int32} {p : Nat} : stn T 8 p ↔ gl T p = nI 97 := stn_1 (by decide +kernel) (by decide)
theorem stn_9 {T : List Int32} {p : Nat} : stn T 9 p ↔ gl T p = nI 99 := stn_1 (by decide +kernel) (by decide)
theorem stn_10 {T : List Int32} {p : Nat} : stn T 10 p ↔ gl T p = nI 100 := stn_1 (by decide +kernel) (by decide)
/-- a digit is no other sign -/
theorem isd_no {T : List Int32} {p c : Nat} (h : isd T p) (hc : c < 48 ∨ 57 < c) (hc2 : c < 1000) : gl T p ≠ nI c := by
  obtain ⟨e1, e2⟩ := isd_eq h
  rw [e1]
  intro z
  have := (nI_eq (by omega) (by omega)).mp z
  omega
/-- a RANGE of NORMAL and ED at p: first, last, end -/
def pr (T : List Int32) (p : Nat) : Option (Nat × Nat × Nat) :=
  match pnum T p with
  | none => none
  | some v => if gl T v.2 = nI 44 then (match pnum T (v.2 + 1) with | none => none | some w => if v.1 < w.1 then some (v.1, w.1, w.2) else none) else some (v.1, v.1, v.2)
/-- what takeLast(f) answers at p, and where it ends; the same of takeLetter() -/
def tlR (T : List Int32) (f : Int32) (p : Nat) : Int32 × Nat := if stn T 33 p then (if f < tnR T (p + 1) then tnR T (p + 1) else mI, p + 1 + nrun T 5 (p + 1)) else (f, p)
def ltR (T : List Int32) (p : Nat) : Nat × Nat := if stn T 8 p then (97, p + 1) else if stn T 9 p then (99, p + 1) else if stn T 10 p then (100, p + 1) else (0, p)
theorem pr_some {T : List Int32} {p a b q : Nat} (h : pr T p = some (a, b, q)) : tnR T p = nI a ∧ tlR T (nI a) (p + nrun T 5 p) = (nI b, q) ∧ a ≤ b ∧ b < 100000 ∧ p < q ∧ q ≤ p + 11 ∧ q ≤ T.length := by
  unfold pr at h
  cases hv : pnum T p with
  | none => rw [hv] at h; cases h
  | some v =>
    obtain ⟨v, r⟩ := v
    rw [hv] at h
    obtain ⟨g1, g2, g3, g4, g5, g6, g7, -⟩ := tn_some hv
    simp only at h
    split at h
    · rename_i hc
      cases hw : pnum T (r + 1) with
      | none => rw [hw] at h; cases h
      | some w =>
        obtain ⟨w, r2⟩ := w
        rw [hw] at h
        obtain ⟨k1, k2, k3, k4, k5, k6, k7, -⟩ := tn_some hw
        simp only at h
        split at h
        · rename_i hlt
          simp only [Option.some.injEq, Prod.mk.injEq] at h
          obtain ⟨rfl, rfl, rfl⟩ := h
          refine ⟨g1, ?_, by omega, k4, by omega, by omega, k7⟩
          unfold tlR
          rw [← g2, if_pos (stn_33.mpr hc), k1, ← k2, if_pos]
          rw [nI_ltI (by omega) (by omega)]
          exact hlt
        · cases h
    · rename_i hc
      simp only [Option.some.injEq, Prod.mk.injEq] at h
      obtain ⟨rfl, rfl, rfl⟩ := h
      refine ⟨g1, ?_, by omega, g4, by omega, by omega, g7⟩
      unfold tlR
      rw [← g2, if_neg (fun z => hc (stn_33.mp z))]
theorem pr_none {T : List Int32} {p : Nat} (h : pr T p = none) : tnR T p = mI ∨ (tlR T (tnR T p) (p + nrun T 5 p)).1 = mI ∨ isd T (tlR T (tnR T p) (p + nrun T 5 p)).2 := by
  unfold pr at h
  cases hv : pnum T p with
  | none =>
    rcases tn_none hv with q | q
    · exact Or.inl q
    · refine Or.inr (Or.inr ?_)
      unfold tlR
      rw [if_neg (fun z => isd_no q (by omega) (by omega) (stn_33.mp z))]
      exact q
  | some v =>
    obtain ⟨v, r⟩ := v
    rw [hv] at h
    obtain ⟨g1, g2, g3, g4, g5, g6, g7, -⟩ := tn_some hv
    simp only at h
    split at h
    case isFalse => cases h
    rename_i hc
    refine Or.inr ?_
    unfold tlR
    rw [← g2, if_pos (stn_33.mpr hc), g1]
    cases hw : pnum T (r + 1) with
    | none =>
      rcases tn_none hw with q | q
      · rw [q, if_neg]
        · exact Or.inl rfl
        · rw [Int32.lt_iff_toInt_lt, mI_toInt, nI_toInt (by omega)]
          omega
      · exact Or.inr q
    | some w =>
      obtain ⟨w, r2⟩ := w
      rw [hw] at h
      obtain ⟨k1, k2, k3, k4, k5, k6, k7, -⟩ := tn_some hw
      simp only at h
      split at h
      · cases h
      · rename_i hlt
        rw [k1, if_neg]
        · exact Or.inl rfl
        · rw [nI_ltI (by omega) (by omega)]
          exact hlt
theorem ltR_d {T : List Int32} {p : Nat} (h : isd T p) : ltR T p = (0, p) := by
  unfold ltR
  rw [if_neg (fun z => isd_no h (by omega) (by omega) (stn_8.mp z)), if_neg (fun z => isd_no h (by omega) (by omega) (stn_9.mp z)), if_neg (fun z => isd_no h (by omega) (by omega) (stn_10.mp z))]
theorem tlR_in {T : List Int32} {f : Int32} {p : Nat} (hp : p ≤ T.length) : (tlR T f p).2 ≤ T.length := by
  unfold tlR
  split
  · rename_i h
    have := h.1
    have e : (am_txt 33).length = 1 := by decide +kernel
    exact nrun_le_len (by omega)
  · exact hp
theorem ltR_in {T : List Int32} {p : Nat} (hp : p ≤ T.length) : (ltR T p).2 ≤ T.length := by
  unfold ltR
  split
  · rename_i h
    have := gl_ltn (T := T) (p := p) (by rw [stn_8.mp h]; decide)
    exact this
  split
  · rename_i h
    have := gl_ltn (T := T) (p := p) (by rw [stn_9.mp h]; decide)
    exact this
  split
  · rename_i h
    have := gl_ltn (T := T) (p := p) (by rw [stn_10.mp h]; decide)
    exact this
  exact hp
/-! what was read: commands (their number; facts 0 first of a, 1 how many of a, 2 first of b, 3 how many of b, 4 the first line) and lines (their number; facts 0 sign, 1 from, 2 to) -/
abbrev Sk := (Nat × (Nat → Nat → Nat)) × (Nat × (Nat → Nat → Nat))
def sk0 : Sk := ((0, fun _ _ => 0), (0, fun _ _ => 0))
def f5 (a n b m l : Nat) (f : Nat) : Nat := if f = 0 then a else if f = 1 then n else if f = 2 then b else if f = 3 then m else l
def f3 (c p q : Nat) (f : Nat) : Nat := if f = 0 then c else if f = 1 then p else q
def addC (s : Sk) (a n b m : Nat) : Sk := ((s.1.1 + 1, fun f i => if i = s.1.1 then f5 a n b m s.2.1 f else s.1.2 f i), s.2)
def addD (s : Sk) (c p q : Nat) : Sk := (s.1, (s.2.1 + 1, fun f i => if i = s.2.1 then f3 c p q f else s.2.2 f i))
def opD (s : Sk) : Sk := (s.1, (s.2.1, fun f i => if f = 2 ∧ i + 1 = s.2.1 then s.2.2 f i - 1 else s.2.2 f i))
def bnd {α β : Type} (x : Except Nat α) (f : α → Except Nat β) : Except Nat β :=
  match x with
  | .error e => .error e
  | .ok v => f v
/-- c lines that begin with piece j; the mark behind them; both -/
def rowsP (T : List Int32) (j sg : Nat) : Nat → Nat → Sk → Except Nat (Nat × Sk)
  | 0, k, s => .ok (k, s)
  | c + 1, k, s => if whl T k ∧ stn T j (lsta T k) then rowsP T j sg c (k + 1) (addD s sg (lsta T k + 2) (lsta T (k + 1))) else .error (k + 1)
def markP (T : List Int32) (v : Nat × Sk) : Nat × Sk := if stn T 32 (lsta T v.1) then (v.1 + 1, opD v.2) else v
def rowP (T : List Int32) (j sg c k : Nat) (s : Sk) : Except Nat (Nat × Sk) := bnd (rowsP T j sg c k s) (fun v => .ok (if 0 < c then markP T v else v))
/-- the head of a command of NORMAL: letter, first and last of a, first and last of b -/
abbrev isL (v : Int32) : Prop := v = nI 97 ∨ v = nI 99 ∨ v = nI 100
def hdN (T : List Int32) (k : Nat) : Option (Nat × Nat × Nat × Nat × Nat) :=
  match pr T (lsta T k) with
  | none => none
  | some v => if isL (gl T v.2.2) then (match pr T (v.2.2 + 1) with | none => none | some w => if gl T w.2.2 = nI 10 then some ((gl T v.2.2).toNatClampNeg, v.1, v.2.1, w.1, w.2.1) else none) else none
abbrev okN (last : Nat) (h : Int32) (L a a2 b b2 : Nat) : Prop := if L = 97 then a2 = a ∧ last ≤ a ∧ nI b = nI a + h + nI 1 else last + 1 ≤ a ∧ (if L = 100 then b2 = b ∧ nI b = nI a + h + mI else nI b = nI a + h + nI 0)
def gsN (L a a2 : Nat) : Nat := if L = 97 then 0 else a2 - a + 1
def csN (L b b2 : Nat) : Nat := if L = 100 then 0 else b2 - b + 1
def sepN (T : List Int32) (L k : Nat) : Except Nat Nat := if L = 99 then (if whl T k ∧ stn T 6 (lsta T k) then .ok (k + 1) else .error (k + 1)) else .ok k
def bodN (T : List Int32) (L g c k : Nat) (s : Sk) : Except Nat (Nat × Sk) := bnd (rowP T 5 45 g k s) fun v => bnd (sepN T L v.1) fun k1 => rowP T 7 43 c k1 v.2
def cmdN (T : List Int32) (k last : Nat) (h : Int32) (s : Sk) : Except Nat (Nat × Nat × Int32 × Sk) :=
  if whl T k then
    match hdN T k with
    | none => .error (k + 1)
    | some w => if okN last h w.1 w.2.1 w.2.2.1 w.2.2.2.1 w.2.2.2.2 then bnd (bodN T w.1 (gsN w.1 w.2.1 w.2.2.1) (csN w.1 w.2.2.2.1 w.2.2.2.2) (k + 1) (addC s w.2.1 (gsN w.1 w.2.1 w.2.2.1) w.2.2.2.1 (csN w.1 w.2.2.2.1 w.2.2.2.2))) (fun v => .ok (v.1, w.2.2.1, h + (nI (csN w.1 w.2.2.2.1 w.2.2.2.2) - nI (gsN w.1 w.2.1 w.2.2.1)), v.2)) else .error (k + 1)
  else .error (k + 1)
def lpN (T : List Int32) : Nat → Nat → Nat → Int32 → Sk → Except Nat Sk
  | 0, _, _, _, s => .ok s
  | d + 1, k, last, h, s => if k < lnum T then bnd (cmdN T k last h s) (fun v => lpN T d v.1 v.2.1 v.2.2.1 v.2.2.2) else .ok s
def prN (T : List Int32) : Except Nat Sk := lpN T (lnum T) 0 0 (nI 0) sk0
/-- ED -/
def hdE (T : List Int32) (k : Nat) : Option (Nat × Nat × Nat) :=
  match pr T (lsta T k) with
  | none => none
  | some v => if isL (gl T v.2.2) ∧ gl T (v.2.2 + 1) = nI 10 then some ((gl T v.2.2).toNatClampNeg, v.1, v.2.1) else none
abbrev okE (ab L a a2 : Nat) : Prop := (if L = 97 then a2 = a else 0 < a) ∧ a2 < ab
def dotP (T : List Int32) : Nat → Nat → Nat → Sk → Except Nat (Nat × Sk)
  | 0, _, k, _ => .error (k + 1)
  | d + 1, n, k, s => if whl T k then (if stn T 11 (lsta T k) then (if 0 < n then .ok (k + 1, s) else .error (k + 1)) else dotP T d (n + 1) (k + 1) (addD s 43 (lsta T k) (lsta T (k + 1)))) else .error (k + 1)
def cmdE (T : List Int32) (k ab : Nat) (s : Sk) : Except Nat (Nat × Nat × Sk) :=
  if whl T k then
    match hdE T k with
    | none => .error (k + 1)
    | some w => if okE ab w.1 w.2.1 w.2.2 then bnd (if w.1 = 100 then .ok (k + 1, addC s w.2.1 (gsN w.1 w.2.1 w.2.2) 0 0) else dotP T (lnum T - k) 0 (k + 1) (addC s w.2.1 (gsN w.1 w.2.1 w.2.2) 0 0)) (fun v => .ok (v.1, w.2.1, v.2)) else .error (k + 1)
  else .error (k + 1)
def lpE (T : List Int32) : Nat → Nat → Nat → Sk → Except Nat Sk
  | 0, _, _, s => .ok s
  | d + 1, k, ab, s => if k < lnum T then bnd (cmdE T k ab s) (fun v => lpE T d v.1 v.2.1 v.2.2) else .ok s
def prE (T : List Int32) : Except Nat Sk := lpE T (lnum T) 0 100000 sk0
/-- UNIFIED: a RANGE; a head; lines; a hunk; all -/
def pc (T : List Int32) (p : Nat) : Option (Nat × Nat × Nat) :=
  match pnum T p with
  | none => none
  | some v => if gl T v.2 = nI 44 then (match pnum T (v.2 + 1) with | none => none | some w => if w.1 ≠ 1 ∧ (0 < v.1 ∨ w.1 = 0) then some (v.1, w.1, w.2) else none) else if 0 < v.1 then some (v.1, 1, v.2) else none
def hdU (T : List Int32) (k : Nat) : Option (Nat × Nat × Nat × Nat) :=
  if stn T 36 (lsta T k) then
    match pc T (lsta T k + 4) with
    | none => none
    | some v => if stn T 37 v.2.2 then (match pc T (v.2.2 + 2) with | none => none | some w => if stn T 38 w.2.2 then some (v.1, v.2.1, w.1, w.2.1) else none) else none
  else none
abbrev okU (last a n m : Nat) : Prop := if n = 0 then last ≤ a ∧ 0 < m else last + 1 ≤ a
abbrev sgU (T : List Int32) (k x y : Nat) : Prop := (gl T (lsta T k) = nI 32 ∧ 0 < x ∧ 0 < y) ∨ (gl T (lsta T k) = nI 45 ∧ 0 < x) ∨ (gl T (lsta T k) = nI 43 ∧ 0 < y)
def linP (T : List Int32) : Nat → Nat → Nat → Nat → Sk → Except Nat (Nat × Sk)
  | 0, _, _, k, s => .ok (k, s)
  | d + 1, x, y, k, s => if 0 < x ∨ 0 < y then (if whl T k ∧ sgU T k x y then linP T d (if gl T (lsta T k) = nI 43 then x else x - 1) (if gl T (lsta T k) = nI 45 then y else y - 1) (markP T (k + 1, addD s (gl T (lsta T k)).toNatClampNeg (lsta T k + 1) (lsta T (k + 1)))).1 (markP T (k + 1, addD s (gl T (lsta T k)).toNatClampNeg (lsta T k + 1) (lsta T (k + 1)))).2 else .error (k + 1)) else .ok (k, s)
def cmdU (T : List Int32) (k last : Nat) (s : Sk) : Except Nat (Nat × Nat × Sk) :=
  if whl T k then
    match hdU T k with
    | none => .error (k + 1)
    | some w => if okU last w.1 w.2.1 w.2.2.2 then bnd (linP T (w.2.1 + w.2.2.2) w.2.1 w.2.2.2 (k + 1) (addC s w.1 w.2.1 w.2.2.1 w.2.2.2)) (fun v => .ok (v.1, w.1 + max w.2.1 1 - 1, v.2)) else .error (k + 1)
  else .error (k + 1)
def lpU (T : List Int32) : Nat → Nat → Nat → Sk → Except Nat Sk
  | 0, _, _, s => .ok s
  | d + 1, k, last, s => if k < lnum T ∨ s.1.1 = 0 then bnd (cmdU T k last s) (fun v => lpU T d v.1 v.2.1 v.2.2) else .ok s
def prU (T : List Int32) : Except Nat Sk := if lnum T = 0 then .ok sk0 else if whl T 0 ∧ stn T 34 0 then (if whl T 1 ∧ stn T 35 (lsta T 1) then lpU T (lnum T) 2 0 sk0 else .error 2) else .error 1
