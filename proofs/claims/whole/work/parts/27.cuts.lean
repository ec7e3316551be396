/-! where lines end -/
def ct (f : Nat → Int32) (n : Nat) : Nat → List Nat
  | 0 => []
  | x + 1 => ct f n x ++ (if f x = 10 ∨ x + 1 = n then [x + 1] else [])
/-- how many lines; where line k begins (k up to their number) -/
def nl (f : Nat → Int32) (n : Nat) : Nat := (ct f n n).length
def sta (f : Nat → Int32) (n k : Nat) : Nat := (0 :: ct f n n).getD k 0
theorem ct_congr {f g : Nat → Int32} {n : Nat} : ∀ x, (∀ i, i < x → f i = g i) → ct f n x = ct g n x
  | 0, _ => rfl
  | x + 1, h => by
    unfold ct
    rw [ct_congr x (fun i hi => h i (by omega)), h x (by omega)]
theorem ct_le {f : Nat → Int32} {n : Nat} : ∀ x, ∀ e ∈ ct f n x, 1 ≤ e ∧ e ≤ x
  | 0, e, h => by cases h
  | x + 1, e, h => by
    unfold ct at h
    rcases List.mem_append.mp h with h | h
    · have := ct_le x e h
      omega
    · split at h
      · rcases List.mem_cons.mp h with rfl | h
        · omega
        · cases h
      · cases h
/-- the last end that has come, 0 at first -/
def lst (l : List Nat) : Nat := l.getLast?.getD 0
theorem lst_app (l : List Nat) (e : Nat) : lst (l ++ [e]) = e := by simp [lst]
theorem ct_lst {f : Nat → Int32} {n : Nat} (x : Nat) : lst (ct f n x) ≤ x := by
  unfold lst
  cases h : (ct f n x).getLast? with
  | none => simp
  | some e =>
    have := ct_le x e (List.mem_of_getLast? h)
    simp
    omega
theorem lst_getD (l : List Nat) : (0 :: l).getD l.length 0 = lst l := by
  rw [List.getD_eq_getElem?_getD]
  cases l with
  | nil => rfl
  | cons a l =>
    unfold lst
    rw [List.getLast?_eq_getElem?]
    simp
/-- the ends rise -/
theorem ct_rise {f : Nat → Int32} {n : Nat} : ∀ x k, k < (ct f n x).length → (0 :: ct f n x).getD k 0 < (0 :: ct f n x).getD (k + 1) 0
  | 0, k, h => by simp [ct] at h
  | x + 1, k, h => by
    have hl := ct_lst (f := f) (n := n) x
    unfold ct at h ⊢
    by_cases hc : f x = 10 ∨ x + 1 = n
    · rw [if_pos hc] at h ⊢
      rw [List.length_append, List.length_cons, List.length_nil] at h
      rw [← List.cons_append, List.getD_eq_getElem?_getD, List.getD_eq_getElem?_getD]
      rcases Nat.lt_or_ge k (ct f n x).length with q | q
      · have ih := ct_rise (f := f) (n := n) x k q
        rw [List.getD_eq_getElem?_getD, List.getD_eq_getElem?_getD] at ih
        rw [List.getElem?_append_left (by simp; omega), List.getElem?_append_left (by simp; omega)]
        exact ih
      · obtain rfl : k = (ct f n x).length := by omega
        have e1 : (0 :: ct f n x)[(ct f n x).length]?.getD 0 = lst (ct f n x) := by
          rw [← List.getD_eq_getElem?_getD]
          exact lst_getD _
        rw [List.getElem?_append_left (by simp), e1, List.getElem?_append_right (by simp)]
        simp
        omega
    · rw [if_neg hc] at h ⊢
      rw [List.append_nil] at h ⊢
      exact ct_rise x k h
theorem ct_grow {f : Nat → Int32} {n : Nat} : ∀ x d k, k ≤ (ct f n x).length → (0 :: ct f n (x + d)).getD k 0 = (0 :: ct f n x).getD k 0 ∧ (ct f n x).length ≤ (ct f n (x + d)).length
  | x, 0, k, h => ⟨rfl, Nat.le_refl _⟩
  | x, d + 1, k, h => by
    obtain ⟨i1, i2⟩ := ct_grow x d k h
    have e : ct f n (x + (d + 1)) = ct f n (x + d) ++ (if f (x + d) = 10 ∨ x + d + 1 = n then [x + d + 1] else []) := rfl
    rw [e]
    refine ⟨?_, by rw [List.length_append]; omega⟩
    rw [← i1, ← List.cons_append, List.getD_eq_getElem?_getD, List.getD_eq_getElem?_getD, List.getElem?_append_left (by simp; omega)]
theorem nl_0 {f : Nat → Int32} : nl f 0 = 0 := rfl
theorem sta_0 {f : Nat → Int32} {n : Nat} : sta f n 0 = 0 := rfl
theorem sta_rise {f : Nat → Int32} {n k : Nat} (h : k < nl f n) : sta f n k < sta f n (k + 1) := ct_rise n k h
theorem ct_end {f : Nat → Int32} {n : Nat} (h : 0 < n) : lst (ct f n n) = n := by
  obtain ⟨m, rfl⟩ : ∃ m, n = m + 1 := ⟨n - 1, by omega⟩
  unfold ct
  rw [if_pos (Or.inr rfl), lst_app]
theorem sta_end {f : Nat → Int32} {n : Nat} : sta f n (nl f n) = n := by
  unfold sta nl
  rw [lst_getD]
  rcases Nat.eq_zero_or_pos n with rfl | h
  · rfl
  · exact ct_end h
theorem sta_le {f : Nat → Int32} {n : Nat} : ∀ d k, k + d = nl f n → sta f n k + d ≤ n
  | 0, k, h => by
    have : k = nl f n := by omega
    rw [this, sta_end]
    exact Nat.le_refl _
  | d + 1, k, h => by
    have h1 := sta_le (f := f) (n := n) d (k + 1) (by omega)
    have h2 := sta_rise (f := f) (n := n) (k := k) (by omega)
    omega
theorem sta_n {f : Nat → Int32} {n k : Nat} (h : k ≤ nl f n) : sta f n k ≤ n := by
  have := sta_le (f := f) (n := n) (nl f n - k) k (by omega)
  omega
theorem nl_pos {f : Nat → Int32} {n : Nat} (h : 0 < n) : 0 < nl f n := by
  rcases Nat.eq_zero_or_pos (nl f n) with q | q
  · have := sta_end (f := f) (n := n)
    rw [q, sta_0] at this
    omega
  · exact q
/-- before the end there is one more to come -/
theorem ct_more {f : Nat → Int32} {n x : Nat} (h : x < n) : (ct f n x).length + 1 ≤ nl f n := by
  obtain ⟨m, rfl⟩ : ∃ m, n = m + 1 := ⟨n - 1, by omega⟩
  have h1 := (ct_grow (f := f) (n := m + 1) x (m - x) 0 (Nat.zero_le _)).2
  rw [show x + (m - x) = m by omega] at h1
  unfold nl
  have e : ct f (m + 1) (m + 1) = ct f (m + 1) m ++ [m + 1] := by
    rw [ct, if_pos (Or.inr rfl)]
  rw [e, List.length_append, List.length_cons, List.length_nil]
  omega
theorem sta_ct {f : Nat → Int32} {n x k : Nat} (hx : x ≤ n) (h : k ≤ (ct f n x).length) : (0 :: ct f n x).getD k 0 = sta f n k := by
  have := (ct_grow (f := f) (n := n) x (n - x) k h).1
  rw [show x + (n - x) = n by omega] at this
  exact this.symm
theorem nl_congr {f g : Nat → Int32} {n : Nat} (h : ∀ i, i < n → f i = g i) : nl f n = nl g n := by
  unfold nl
  rw [ct_congr n h]
theorem sta_congr {f g : Nat → Int32} {n : Nat} (h : ∀ i, i < n → f i = g i) (k : Nat) : sta f n k = sta g n k := by
  unfold sta
  rw [ct_congr n h]
/-- a line that isn't the last ends with a 10 -/
theorem ct_ten {f : Nat → Int32} {n : Nat} : ∀ x, ∀ e ∈ ct f n x, f (e - 1) = 10 ∨ e = n
  | 0, e, h => by cases h
  | x + 1, e, h => by
    unfold ct at h
    rcases List.mem_append.mp h with h | h
    · exact ct_ten x e h
    · split at h
      · rename_i hc
        rcases List.mem_cons.mp h with rfl | h
        · exact hc
        · cases h
      · cases h
theorem sta_ten {f : Nat → Int32} {n k : Nat} (h : k + 1 < nl f n) : f (sta f n (k + 1) - 1) = 10 := by
  have hm : sta f n (k + 1) ∈ ct f n n := by
    unfold sta
    rw [List.getD_cons_succ, List.getD_eq_getElem?_getD]
    have hk : k < (ct f n n).length := by
      have : nl f n = (ct f n n).length := rfl
      omega
    rw [List.getElem?_eq_getElem hk]
    exact List.getElem_mem hk
  rcases ct_ten n _ hm with q | q
  · exact q
  · have h1 := sta_rise (f := f) (n := n) (k := k + 1) h
    have h2 := sta_n (f := f) (n := n) (k := k + 1 + 1) h
    omega
