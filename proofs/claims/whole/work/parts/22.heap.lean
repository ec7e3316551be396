/-! THE TYPED HEAP: after both constructors every cell has its place; what changes are ints of objects (σ.1 address slot), ints of arrays (σ.2.1 address index), four references (σ.2.2) -/
abbrev am_NC : Nat := 331
abbrev am_NL : Nat := 317893
def ly_c (a : Nat) : Nat := if a < 331 then (if a < 46 then (if a < 22 then (if a < 12 then (if a < 4 then (if a < 2 then (if a < 1 then 11 else 18) else (if a < 3 then 1 else 14)) else (if a < 6 then (if a < 5 then 1 else 14) else (if a < 7 then 6 else 13))) else (if a < 17 then (if a < 15 then (if a < 13 then 15 else 13) else (if a < 16 then 2 else 8)) else (if a < 19 then (if a < 18 then 10 else 8) else (if a < 20 then 0 else (if a < 21 then 1 else 14))))) else (if a < 35 then (if a < 30 then (if a < 26 then (if a < 23 then 4 else 13) else (if a < 27 then 4 else 13)) else (if a < 32 then (if a < 31 then 9 else 1) else (if a < 33 then 14 else 13))) else (if a < 40 then (if a < 37 then (if a < 36 then 9 else 1) else (if a < 38 then 14 else 13)) else (if a < 42 then (if a < 41 then 9 else 1) else (if a < 43 then 14 else (if a < 45 then 13 else 9)))))) else (if a < 67 then (if a < 56 then (if a < 51 then (if a < 48 then (if a < 47 then 1 else 14) else (if a < 50 then 13 else 9)) else (if a < 53 then (if a < 52 then 1 else 14) else (if a < 55 then 13 else 9))) else (if a < 61 then (if a < 58 then (if a < 57 then 1 else 14) else (if a < 60 then 13 else 9)) else (if a < 63 then (if a < 62 then 1 else 14) else (if a < 65 then 13 else (if a < 66 then 9 else 1))))) else (if a < 82 then (if a < 77 then (if a < 70 then (if a < 68 then 14 else 13) else (if a < 71 then 3 else 13)) else (if a < 79 then (if a < 78 then 7 else 5) else (if a < 80 then 13 else (if a < 81 then 12 else 17)))) else (if a < 101 then (if a < 92 then (if a < 90 then 14 else 13) else (if a < 93 then 16 else 13)) else (if a < 104 then (if a < 103 then 14 else 16) else (if a < 322 then 13 else (if a < 323 then 14 else 13))))))) else 99
def ly_n (a : Nat) : Nat := if a < 331 then (if a < 55 then (if a < 30 then (if a < 7 then (if a < 3 then (if a < 1 then 0 else (if a < 2 then 8 else 0)) else (if a < 5 then (if a < 4 then 6000 else 0) else (if a < 6 then 20000 else 0))) else (if a < 22 then (if a < 15 then (if a < 12 then 2000 else 6000) else (if a < 21 then 0 else 2000)) else (if a < 26 then (if a < 23 then 0 else 500) else (if a < 27 then 0 else 500)))) else (if a < 42 then (if a < 35 then (if a < 32 then 0 else (if a < 33 then 2000 else 200)) else (if a < 38 then (if a < 37 then 0 else 2000) else (if a < 40 then 200 else 0))) else (if a < 48 then (if a < 45 then (if a < 43 then 2000 else 200) else (if a < 47 then 0 else 2000)) else (if a < 52 then (if a < 50 then 200 else 0) else (if a < 53 then 2000 else 200))))) else (if a < 80 then (if a < 67 then (if a < 60 then (if a < 57 then 0 else (if a < 58 then 2000 else 200)) else (if a < 63 then (if a < 62 then 0 else 2000) else (if a < 65 then 200 else 0))) else (if a < 72 then (if a < 70 then (if a < 68 then 2000 else 200) else (if a < 71 then 0 else 40401)) else (if a < 77 then (if a < 73 then 200 else 201) else (if a < 79 then 0 else 200)))) else (if a < 103 then (if a < 90 then (if a < 81 then 0 else (if a < 82 then 8 else 2000)) else (if a < 101 then (if a < 93 then 8 else 202) else (if a < 102 then 6000 else 20000))) else (if a < 312 then (if a < 307 then (if a < 306 then 202 else 201) else (if a < 311 then 401 else 6002)) else (if a < 323 then (if a < 322 then 6000 else 9000) else (if a < 329 then 6000 else 201)))))) else 0
def lf_0 (k : Nat) : Option Nat := (if k < 5 then (if k < 2 then (if k < 1 then (if k = 0 then some 1 else none) else (if k = 1 then some 2 else none)) else (if k < 3 then (if k = 2 then some 4 else none) else (if k < 4 then (if k = 3 then some 70 else none) else (if k = 4 then some 77 else none)))) else (if k < 7 then (if k < 6 then (if k = 5 then some 78 else none) else (if k = 6 then some 6 else none)) else (if k < 8 then (if k = 7 then some 15 else none) else (if k < 9 then (if k = 8 then some 17 else none) else (if k = 9 then some 19 else none)))))
def lf_2 (k : Nat) : Option Nat := (if k = 0 then some 3 else none)
def lf_4 (k : Nat) : Option Nat := (if k = 0 then some 5 else none)
def lf_6 (k : Nat) : Option Nat := (if k < 4 then (if k < 2 then (if k < 1 then (if k = 0 then some 2 else none) else (if k = 1 then some 7 else none)) else (if k < 3 then (if k = 2 then some 8 else none) else (if k = 3 then some 9 else none))) else (if k < 7 then (if k < 5 then (if k = 4 then some 10 else none) else (if k = 5 then some 11 else none)) else (if k < 8 then (if k = 7 then some 12 else none) else (if k < 9 then (if k = 8 then some 13 else none) else (if k = 9 then some 14 else none)))))
def lf_15 (k : Nat) : Option Nat := (if k < 1 then (if k = 0 then some 16 else none) else (if k = 1 then some 6 else none))
def lf_16 (k : Nat) : Option Nat := (if k = 0 then some 2 else none)
def lf_17 (k : Nat) : Option Nat := (if k < 1 then (if k = 0 then some 18 else none) else (if k = 1 then some 6 else none))
def lf_18 (k : Nat) : Option Nat := (if k = 0 then some 2 else none)
def lf_19 (k : Nat) : Option Nat := (if k < 1 then (if k = 0 then some 6 else none) else (if k = 1 then some 20 else none))
def lf_20 (k : Nat) : Option Nat := (if k = 0 then some 21 else none)
def lf_22 (k : Nat) : Option Nat := (if k < 1 then (if k = 0 then some 23 else none) else (if k < 2 then (if k = 1 then some 24 else none) else (if k = 2 then some 25 else none)))
def lf_26 (k : Nat) : Option Nat := (if k < 1 then (if k = 0 then some 27 else none) else (if k < 2 then (if k = 1 then some 28 else none) else (if k = 2 then some 29 else none)))
def lf_30 (k : Nat) : Option Nat := (if k < 1 then (if k = 0 then some 31 else none) else (if k < 2 then (if k = 1 then some 33 else none) else (if k = 2 then some 34 else none)))
def lf_31 (k : Nat) : Option Nat := (if k = 0 then some 32 else none)
def lf_35 (k : Nat) : Option Nat := (if k < 1 then (if k = 0 then some 36 else none) else (if k < 2 then (if k = 1 then some 38 else none) else (if k = 2 then some 39 else none)))
def lf_36 (k : Nat) : Option Nat := (if k = 0 then some 37 else none)
def lf_40 (k : Nat) : Option Nat := (if k < 1 then (if k = 0 then some 41 else none) else (if k < 2 then (if k = 1 then some 43 else none) else (if k = 2 then some 44 else none)))
def lf_41 (k : Nat) : Option Nat := (if k = 0 then some 42 else none)
def lf_45 (k : Nat) : Option Nat := (if k < 1 then (if k = 0 then some 46 else none) else (if k < 2 then (if k = 1 then some 48 else none) else (if k = 2 then some 49 else none)))
def lf_46 (k : Nat) : Option Nat := (if k = 0 then some 47 else none)
def lf_50 (k : Nat) : Option Nat := (if k < 1 then (if k = 0 then some 51 else none) else (if k < 2 then (if k = 1 then some 53 else none) else (if k = 2 then some 54 else none)))
def lf_51 (k : Nat) : Option Nat := (if k = 0 then some 52 else none)
def lf_55 (k : Nat) : Option Nat := (if k < 1 then (if k = 0 then some 56 else none) else (if k < 2 then (if k = 1 then some 58 else none) else (if k = 2 then some 59 else none)))
def lf_56 (k : Nat) : Option Nat := (if k = 0 then some 57 else none)
def lf_60 (k : Nat) : Option Nat := (if k < 1 then (if k = 0 then some 61 else none) else (if k < 2 then (if k = 1 then some 63 else none) else (if k = 2 then some 64 else none)))
def lf_61 (k : Nat) : Option Nat := (if k = 0 then some 62 else none)
def lf_65 (k : Nat) : Option Nat := (if k < 1 then (if k = 0 then some 66 else none) else (if k < 2 then (if k = 1 then some 68 else none) else (if k = 2 then some 69 else none)))
def lf_66 (k : Nat) : Option Nat := (if k = 0 then some 67 else none)
def lf_70 (k : Nat) : Option Nat := (if k < 3 then (if k < 1 then (if k = 0 then some 71 else none) else (if k < 2 then (if k = 1 then some 72 else none) else (if k = 2 then some 73 else none))) else (if k < 4 then (if k = 3 then some 74 else none) else (if k < 5 then (if k = 4 then some 75 else none) else (if k = 5 then some 76 else none))))
def lf_77 (k : Nat) : Option Nat := (if k < 1 then (if k = 0 then some 70 else none) else (if k = 1 then some 4 else none))
def lf_78 (k : Nat) : Option Nat := (if k < 1 then (if k = 0 then some 70 else none) else (if k < 2 then (if k = 1 then some 4 else none) else (if k = 2 then some 79 else none)))
def lf_80 (k : Nat) : Option Nat := (if k < 20 then (if k < 10 then (if k < 4 then (if k < 2 then (if k < 1 then (if k = 0 then some 81 else none) else (if k = 1 then some 90 else none)) else (if k < 3 then (if k = 2 then some 91 else none) else (if k = 3 then some 92 else none))) else (if k < 8 then (if k < 5 then (if k = 4 then some 101 else none) else (if k = 5 then some 102 else none)) else (if k < 9 then (if k = 8 then some 103 else none) else (if k = 9 then some 306 else none)))) else (if k < 15 then (if k < 12 then (if k < 11 then (if k = 10 then some 307 else none) else (if k = 11 then some 308 else none)) else (if k < 13 then (if k = 12 then some 309 else none) else (if k = 13 then some 310 else none))) else (if k < 18 then (if k < 17 then (if k = 15 then some 311 else none) else (if k = 17 then some 312 else none)) else (if k < 19 then (if k = 18 then some 313 else none) else (if k = 19 then some 314 else none))))) else (if k < 41 then (if k < 25 then (if k < 22 then (if k < 21 then (if k = 20 then some 315 else none) else (if k = 21 then some 316 else none)) else (if k < 23 then (if k = 22 then some 317 else none) else (if k = 23 then some 318 else none))) else (if k < 27 then (if k < 26 then (if k = 25 then some 319 else none) else (if k = 26 then some 320 else none)) else (if k < 38 then (if k = 27 then some 321 else none) else (if k = 38 then some 322 else none)))) else (if k < 45 then (if k < 43 then (if k < 42 then (if k = 41 then some 323 else none) else (if k = 42 then some 324 else none)) else (if k < 44 then (if k = 43 then some 325 else none) else (if k = 44 then some 326 else none))) else (if k < 50 then (if k < 46 then (if k = 45 then some 327 else none) else (if k = 46 then some 328 else none)) else (if k < 51 then (if k = 50 then some 329 else none) else (if k = 51 then some 330 else none))))))
def ly_f (a : Nat) : Nat → Option Nat := (if a < 40 then (if a < 19 then (if a < 15 then (if a < 4 then (if a < 2 then (if a = 0 then lf_0 else (fun _ => none)) else (if a = 2 then lf_2 else (fun _ => none))) else (if a < 6 then (if a = 4 then lf_4 else (fun _ => none)) else (if a = 6 then lf_6 else (fun _ => none)))) else (if a < 17 then (if a < 16 then (if a = 15 then lf_15 else (fun _ => none)) else (if a = 16 then lf_16 else (fun _ => none))) else (if a < 18 then (if a = 17 then lf_17 else (fun _ => none)) else (if a = 18 then lf_18 else (fun _ => none))))) else (if a < 30 then (if a < 22 then (if a < 20 then (if a = 19 then lf_19 else (fun _ => none)) else (if a = 20 then lf_20 else (fun _ => none))) else (if a < 26 then (if a = 22 then lf_22 else (fun _ => none)) else (if a = 26 then lf_26 else (fun _ => none)))) else (if a < 35 then (if a < 31 then (if a = 30 then lf_30 else (fun _ => none)) else (if a = 31 then lf_31 else (fun _ => none))) else (if a < 36 then (if a = 35 then lf_35 else (fun _ => none)) else (if a = 36 then lf_36 else (fun _ => none)))))) else (if a < 60 then (if a < 50 then (if a < 45 then (if a < 41 then (if a = 40 then lf_40 else (fun _ => none)) else (if a = 41 then lf_41 else (fun _ => none))) else (if a < 46 then (if a = 45 then lf_45 else (fun _ => none)) else (if a = 46 then lf_46 else (fun _ => none)))) else (if a < 55 then (if a < 51 then (if a = 50 then lf_50 else (fun _ => none)) else (if a = 51 then lf_51 else (fun _ => none))) else (if a < 56 then (if a = 55 then lf_55 else (fun _ => none)) else (if a = 56 then lf_56 else (fun _ => none))))) else (if a < 70 then (if a < 65 then (if a < 61 then (if a = 60 then lf_60 else (fun _ => none)) else (if a = 61 then lf_61 else (fun _ => none))) else (if a < 66 then (if a = 65 then lf_65 else (fun _ => none)) else (if a = 66 then lf_66 else (fun _ => none)))) else (if a < 78 then (if a < 77 then (if a = 70 then lf_70 else (fun _ => none)) else (if a = 77 then lf_77 else (fun _ => none))) else (if a < 80 then (if a = 78 then lf_78 else (fun _ => none)) else (if a = 80 then lf_80 else (fun _ => none)))))))
def ly_d (a k : Nat) : Option Nat := if a = 0 then (if k = 10 then some 0 else if k = 11 then some 1 else none) else if a = 70 then (if k = 7 then some 2 else if k = 8 then some 3 else none) else none
abbrev am_M : Type := (Nat → Nat → Int32) × (Nat → Nat → Int32) × (Nat → Nat)
/-- what a field holds -/
def ly_v (σ : am_M) (a k : Nat) : Value := match ly_f a k with
  | some r => .ref r
  | none => match ly_d a k with
    | some j => .ref (σ.2.2 j)
    | none => .int (σ.1 a k)
/-- the heap -/
def hp (σ : am_M) (a : Nat) : am_E :=
  if ly_c a < 13 then .inr (ly_c a, (List.range (am_nf (ly_c a))).map (ly_v σ a))
  else if ly_c a = 13 then .inl (.int, ly_n a, .inl (σ.2.1 a))
  else if ly_c a = 14 then .inl (.byte, ly_n a, .inl (σ.2.1 a))
  else if ly_c a = 15 then .inl (.char, ly_n a, .inl (σ.2.1 a))
  else if ly_c a = 16 then .inl (.array .int, ly_n a, .inr (fun i => if i < ly_n a then some (a + 1 + i) else none))
  else if ly_c a = 17 then .inl (.array .byte, ly_n a, .inr (fun i => if i < ly_n a then some (a + 1 + i) else none))
  else if ly_c a = 18 then .inl (.object "DiffBench$Text", ly_n a, .inr (fun i => if i < ly_n a then some (30 + 5 * i) else none))
  else am_no
/-- an int of an object, of an array, a whole array, a reference, written -/
def wf (σ : am_M) (a k : Nat) (v : Int32) : am_M := (fun b j => if b = a ∧ j = k then v else σ.1 b j, σ.2.1, σ.2.2)
def wa (σ : am_M) (a : Nat) (f : Nat → Int32) : am_M := (σ.1, fun b => if b = a then f else σ.2.1 b, σ.2.2)
def wr (σ : am_M) (j r : Nat) : am_M := (σ.1, σ.2.1, fun i => if i = j then r else σ.2.2 i)
theorem hp_obj {σ : am_M} {a c : Nat} (h : ly_c a = c) (hc : c < 13) : hp σ a = .inr (c, (List.range (am_nf c)).map (ly_v σ a)) := by
  unfold hp
  rw [h, if_pos hc]
theorem hp_int {σ : am_M} {a : Nat} (h : ly_c a = 13) : hp σ a = .inl (.int, ly_n a, .inl (σ.2.1 a)) := by
  unfold hp
  rw [h]
  rfl
theorem hp_byte {σ : am_M} {a : Nat} (h : ly_c a = 14) : hp σ a = .inl (.byte, ly_n a, .inl (σ.2.1 a)) := by
  unfold hp
  rw [h]
  rfl
theorem hp_char {σ : am_M} {a : Nat} (h : ly_c a = 15) : hp σ a = .inl (.char, ly_n a, .inl (σ.2.1 a)) := by
  unfold hp
  rw [h]
  rfl
theorem hp_ints {σ : am_M} {a : Nat} (h : ly_c a = 16) : hp σ a = .inl (.array .int, ly_n a, .inr (fun i => if i < ly_n a then some (a + 1 + i) else none)) := by
  unfold hp
  rw [h]
  rfl
theorem hp_bytes {σ : am_M} {a : Nat} (h : ly_c a = 17) : hp σ a = .inl (.array .byte, ly_n a, .inr (fun i => if i < ly_n a then some (a + 1 + i) else none)) := by
  unfold hp
  rw [h]
  rfl
theorem hp_texts {σ : am_M} {a : Nat} (h : ly_c a = 18) : hp σ a = .inl (.object "DiffBench$Text", ly_n a, .inr (fun i => if i < ly_n a then some (30 + 5 * i) else none)) := by
  unfold hp
  rw [h]
  rfl
theorem hp_eq {σ τ : am_M} {a : Nat} (h1 : ∀ k, ly_v σ a k = ly_v τ a k) (h2 : σ.2.1 a = τ.2.1 a) : hp σ a = hp τ a := by
  unfold hp
  rw [show ly_v σ a = ly_v τ a from funext h1, h2]
theorem hp_wf {σ : am_M} {a c k : Nat} {v : Int32} (h : ly_c a = c) (hc : c < 13) (hk : k < am_nf c) (hf : ly_f a k = none) (hd : ly_d a k = none) : am_up (hp σ) a (.inr (c, ((List.range (am_nf c)).map (ly_v σ a)).set k (.int v))) = hp (wf σ a k v) := by
  funext b
  unfold am_up
  split
  · rename_i e
    subst e
    rw [hp_obj h hc]
    congr 2
    apply List.ext_getElem?
    intro i
    by_cases hi : i = k
    · subst hi
      rw [List.getElem?_set_self (by simpa using hk)]
      simp [hk, ly_v, hf, hd, wf]
    · rw [List.getElem?_set_ne (fun q => hi q.symm)]
      by_cases hl : i < am_nf c
      · simp [hl, ly_v, wf, hi]
      · simp [hl]
  · rename_i e
    refine hp_eq (fun j => ?_) rfl
    simp [ly_v, wf, e]
theorem hp_wa {σ : am_M} {a : Nat} {f : Nat → Int32} {e : am_E} (he : hp (wa σ a f) a = e) : am_up (hp σ) a e = hp (wa σ a f) := by
  funext b
  unfold am_up
  split
  · rename_i e1
    subst e1
    exact he.symm
  · rename_i e1
    exact hp_eq (fun j => rfl) (by simp [wa, e1])
theorem hp_wr {σ : am_M} {a c k j r : Nat} (h : ly_c a = c) (hc : c < 13) (hk : k < am_nf c) (hf : ly_f a k = none) (hd : ly_d a k = some j) (hu : ∀ b i, ly_d b i = some j → b = a ∧ i = k) : am_up (hp σ) a (.inr (c, ((List.range (am_nf c)).map (ly_v σ a)).set k (.ref r))) = hp (wr σ j r) := by
  have key : ∀ b i, ¬ (b = a ∧ i = k) → ly_v σ b i = ly_v (wr σ j r) b i := by
    intro b i hn
    unfold ly_v
    split
    · rfl
    · split
      · rename_i j2 hj
        have : j2 ≠ j := fun q => hn (hu b i (by rw [hj, q]))
        simp [wr, this]
      · rfl
  funext b
  unfold am_up
  split
  · rename_i e
    subst e
    rw [hp_obj h hc]
    congr 2
    apply List.ext_getElem?
    intro i
    by_cases hi : i = k
    · subst hi
      rw [List.getElem?_set_self (by simpa using hk)]
      simp [hk, ly_v, hf, hd, wr]
    · rw [List.getElem?_set_ne (fun q => hi q.symm)]
      by_cases hl : i < am_nf c
      · simp only [List.getElem?_map, List.getElem?_range hl, Option.map_some]
        rw [key b i (fun q => hi q.2)]
      · simp [hl]
  · rename_i e
    exact hp_eq (fun i => key b i (fun q => e q.1)) rfl
/-! the instructions over the typed heap -/
theorem ty_getf {σ : am_M} {n sl a c k pc : Nat} {ls : am_L} {r : List Value} (h : ly_c a = c) (hc : c < 13) (hk : k < am_nf c) : am_getf c k pc ls (.ref a :: r) (n, sl, hp σ) = am_nx (pc + 3) ls (ly_v σ a k :: r) (n, sl, hp σ) := by
  unfold am_getf
  simp only [hp_obj h hc, List.getElem?_map, List.getElem?_range hk, Option.map_some, ↓reduceIte]
theorem ty_puti {σ : am_M} {ty : FieldType} {n sl a c k pc : Nat} {v : Int32} {ls : am_L} {r : List Value} (h : ly_c a = c) (hc : c < 13) (hk : k < am_nf c) (hf : ly_f a k = none) (hd : ly_d a k = none) (hv : am_fit ty (.int v) = true) : am_putf ty c k pc ls (.int v :: .ref a :: r) (n, sl, hp σ) = am_nx (pc + 3) ls r (n, sl, hp (wf σ a k v)) := by
  unfold am_putf
  simp only [hp_obj h hc, List.length_map, List.length_range, hk, hv, ↓reduceIte]
  rw [hp_wf h hc hk hf hd]
theorem ty_putr {σ : am_M} {ty : FieldType} {n sl a c k j q pc : Nat} {ls : am_L} {r : List Value} (h : ly_c a = c) (hc : c < 13) (hk : k < am_nf c) (hf : ly_f a k = none) (hd : ly_d a k = some j) (hu : ∀ b i, ly_d b i = some j → b = a ∧ i = k) (hv : am_fit ty (.ref q) = true) : am_putf ty c k pc ls (.ref q :: .ref a :: r) (n, sl, hp σ) = am_nx (pc + 3) ls r (n, sl, hp (wr σ j q)) := by
  unfold am_putf
  simp only [hp_obj h hc, List.length_map, List.length_range, hk, hv, ↓reduceIte]
  rw [hp_wr h hc hk hf hd hu]
theorem ty_iald {X : am_X} {σ : am_M} {n sl a pc : Nat} {i : Int32} {ls : am_L} {r : List Value} (h : ly_c a = 13) : am_ald X .int pc ls (.int i :: .ref a :: r) (n, sl, hp σ) = if i < 0 ∨ ly_n a ≤ i.toNatClampNeg then none else am_nx (pc + 1) ls (.int (σ.2.1 a i.toNatClampNeg) :: r) (n, sl, hp σ) := by
  unfold am_ald
  simp only [hp_int h, ↓reduceIte]
theorem ty_bald {X : am_X} {σ : am_M} {n sl a pc : Nat} {i : Int32} {ls : am_L} {r : List Value} (h : ly_c a = 14) : am_ald X .byte pc ls (.int i :: .ref a :: r) (n, sl, hp σ) = if i < 0 ∨ ly_n a ≤ i.toNatClampNeg then none else am_nx (pc + 1) ls (.int (σ.2.1 a i.toNatClampNeg) :: r) (n, sl, hp σ) := by
  unfold am_ald
  simp only [hp_byte h, ↓reduceIte]
theorem ty_cald {X : am_X} {σ : am_M} {n sl a pc : Nat} {i : Int32} {ls : am_L} {r : List Value} (h : ly_c a = 15) : am_ald X .char pc ls (.int i :: .ref a :: r) (n, sl, hp σ) = if i < 0 ∨ ly_n a ≤ i.toNatClampNeg then none else am_nx (pc + 1) ls (.int (σ.2.1 a i.toNatClampNeg) :: r) (n, sl, hp σ) := by
  unfold am_ald
  simp only [hp_char h, ↓reduceIte]
theorem ty_iast {σ : am_M} {n sl a pc : Nat} {i x : Int32} {w : Int32 → Int32} {ls : am_L} {r : List Value} (h : ly_c a = 13) : am_ast .int w pc ls (.int x :: .int i :: .ref a :: r) (n, sl, hp σ) = if i < 0 ∨ ly_n a ≤ i.toNatClampNeg then none else am_nx (pc + 1) ls r (n, sl, hp (wa σ a (upd (σ.2.1 a) i.toNatClampNeg (w x)))) := by
  unfold am_ast
  simp only [hp_int h, ↓reduceIte]
  rw [hp_wa (f := upd (σ.2.1 a) i.toNatClampNeg (w x)) (by rw [hp_int h]; simp [wa])]
theorem ty_bast {σ : am_M} {n sl a pc : Nat} {i x : Int32} {w : Int32 → Int32} {ls : am_L} {r : List Value} (h : ly_c a = 14) : am_ast .byte w pc ls (.int x :: .int i :: .ref a :: r) (n, sl, hp σ) = if i < 0 ∨ ly_n a ≤ i.toNatClampNeg then none else am_nx (pc + 1) ls r (n, sl, hp (wa σ a (upd (σ.2.1 a) i.toNatClampNeg (w x)))) := by
  unfold am_ast
  simp only [hp_byte h, ↓reduceIte]
  rw [hp_wa (f := upd (σ.2.1 a) i.toNatClampNeg (w x)) (by rw [hp_byte h]; simp [wa])]
theorem ty_cast {σ : am_M} {n sl a pc : Nat} {i x : Int32} {w : Int32 → Int32} {ls : am_L} {r : List Value} (h : ly_c a = 15) : am_ast .char w pc ls (.int x :: .int i :: .ref a :: r) (n, sl, hp σ) = if i < 0 ∨ ly_n a ≤ i.toNatClampNeg then none else am_nx (pc + 1) ls r (n, sl, hp (wa σ a (upd (σ.2.1 a) i.toNatClampNeg (w x)))) := by
  unfold am_ast
  simp only [hp_char h, ↓reduceIte]
  rw [hp_wa (f := upd (σ.2.1 a) i.toNatClampNeg (w x)) (by rw [hp_char h]; simp [wa])]
theorem ty_aald {σ : am_M} {n sl a pc : Nat} {i : Int32} {ls : am_L} {r : List Value} (h : ly_c a = 16 ∨ ly_c a = 17) : am_aald pc ls (.int i :: .ref a :: r) (n, sl, hp σ) = if i < 0 ∨ ly_n a ≤ i.toNatClampNeg then none else am_nx (pc + 1) ls (.ref (a + 1 + i.toNatClampNeg) :: r) (n, sl, hp σ) := by
  unfold am_aald
  rcases h with h | h
  · simp only [hp_ints h, am_ref, ↓reduceIte]
    split
    · rfl
    · rename_i hi
      rw [if_pos (Nat.not_le.mp fun q => hi (Or.inr q))]
      rfl
  · simp only [hp_bytes h, am_ref, ↓reduceIte]
    split
    · rfl
    · rename_i hi
      rw [if_pos (Nat.not_le.mp fun q => hi (Or.inr q))]
      rfl
theorem ty_tald {σ : am_M} {n sl a pc : Nat} {i : Int32} {ls : am_L} {r : List Value} (h : ly_c a = 18) : am_aald pc ls (.int i :: .ref a :: r) (n, sl, hp σ) = if i < 0 ∨ ly_n a ≤ i.toNatClampNeg then none else am_nx (pc + 1) ls (.ref (30 + 5 * i.toNatClampNeg) :: r) (n, sl, hp σ) := by
  unfold am_aald
  simp only [hp_texts h, am_ref, ↓reduceIte]
  split
  · rfl
  · rename_i hi
    rw [if_pos (Nat.not_le.mp fun q => hi (Or.inr q))]
    rfl
theorem ty_alen {X : am_X} {σ : am_M} {n sl a pc : Nat} {ls : am_L} {r : List Value} (h : ly_c a = 13 ∨ ly_c a = 14 ∨ ly_c a = 15) : am_alen X pc ls (.ref a :: r) (n, sl, hp σ) = am_nx (pc + 1) ls (.int (nI (ly_n a)) :: r) (n, sl, hp σ) := by
  unfold am_alen
  rcases h with h | h | h
  · simp only [hp_int h]; rfl
  · simp only [hp_byte h]; rfl
  · simp only [hp_char h]; rfl
theorem ty_copy {σ : am_M} {n sl a b pc : Nat} {sp dp k : Int32} {ls : am_L} {r : List Value} (h : (ly_c a = 13 ∧ ly_c b = 13) ∨ (ly_c a = 14 ∧ ly_c b = 14)) (hr : r.length ≤ 8) : am_copy pc ls (.int k :: .int dp :: .ref b :: .int sp :: .ref a :: r) (n, sl, hp σ) = if sp < 0 ∨ dp < 0 ∨ k < 0 ∨ ly_n a < sp.toNatClampNeg + k.toNatClampNeg ∨ ly_n b < dp.toNatClampNeg + k.toNatClampNeg then none else am_nx (pc + 3) ls r (n, sl, hp (wa σ b (va_cpy (σ.2.1 a) (σ.2.1 b) sp.toNatClampNeg dp.toNatClampNeg k.toNatClampNeg))) := by
  unfold am_copy
  rcases h with ⟨h1, h2⟩ | ⟨h1, h2⟩
  · simp only [hp_int h1, hp_int h2, am_ref, hr, and_self, ↓reduceIte]
    rw [hp_wa (f := va_cpy (σ.2.1 a) (σ.2.1 b) sp.toNatClampNeg dp.toNatClampNeg k.toNatClampNeg) (by rw [hp_int h2]; simp [wa])]
  · simp only [hp_byte h1, hp_byte h2, am_ref, hr, and_self, ↓reduceIte]
    rw [hp_wa (f := va_cpy (σ.2.1 a) (σ.2.1 b) sp.toNatClampNeg dp.toNatClampNeg k.toNatClampNeg) (by rw [hp_byte h2]; simp [wa])]
/-- a call of an object's method, and of a static one -/
theorem ty_call {σ : am_M} {n sl a c k na pc : Nat} {st as : List Value} (h : ly_c a = c) (hc : c < 13) (hs : (st.take na).reverse = .ref a :: as) (hn : na ≤ st.length ∧ (st.drop na).length ≤ 8) : am_call (some c) k na pc st (n, sl, hp σ) = some (.inr (.inr (k, .ref a :: as, pc + 3, st.drop na))) := by
  unfold am_call
  rw [if_pos hn, hs]
  dsimp only
  simp only [hp_obj h hc, ↓reduceIte]
