/-! comparisons of small numbers, decided -/
def mI : Int32 := -1
theorem mI_i : (-1 : Int32) = mI := id rfl
theorem li_0 : (0 : Int32) = nI 0 := id rfl
theorem li_1 : (1 : Int32) = nI 1 := id rfl
theorem li_2 : (2 : Int32) = nI 2 := id rfl
theorem li_3 : (3 : Int32) = nI 3 := id rfl
theorem li_4 : (4 : Int32) = nI 4 := id rfl
theorem li_5 : (5 : Int32) = nI 5 := id rfl
theorem li_6 : (6 : Int32) = nI 6 := id rfl
theorem li_7 : (7 : Int32) = nI 7 := id rfl
theorem li_8 : (8 : Int32) = nI 8 := id rfl
theorem li_9 : (9 : Int32) = nI 9 := id rfl
theorem li_10 : (10 : Int32) = nI 10 := id rfl
theorem li_16 : (16 : Int32) = nI 16 := id rfl
theorem li_20 : (20 : Int32) = nI 20 := id rfl
theorem li_24 : (24 : Int32) = nI 24 := id rfl
theorem li_31 : (31 : Int32) = nI 31 := id rfl
theorem li_32 : (32 : Int32) = nI 32 := id rfl
theorem li_43 : (43 : Int32) = nI 43 := id rfl
theorem li_44 : (44 : Int32) = nI 44 := id rfl
theorem li_45 : (45 : Int32) = nI 45 := id rfl
theorem li_46 : (46 : Int32) = nI 46 := id rfl
theorem li_48 : (48 : Int32) = nI 48 := id rfl
theorem li_57 : (57 : Int32) = nI 57 := id rfl
theorem li_62 : (62 : Int32) = nI 62 := id rfl
theorem li_64 : (64 : Int32) = nI 64 := id rfl
theorem li_97 : (97 : Int32) = nI 97 := id rfl
theorem li_99 : (99 : Int32) = nI 99 := id rfl
theorem li_100 : (100 : Int32) = nI 100 := id rfl
theorem li_200 : (200 : Int32) = nI 200 := id rfl
theorem li_201 : (201 : Int32) = nI 201 := id rfl
theorem li_202 : (202 : Int32) = nI 202 := id rfl
theorem li_255 : (255 : Int32) = nI 255 := id rfl
theorem li_401 : (401 : Int32) = nI 401 := id rfl
theorem li_500 : (500 : Int32) = nI 500 := id rfl
theorem li_2000 : (2000 : Int32) = nI 2000 := id rfl
theorem li_5980 : (5980 : Int32) = nI 5980 := id rfl
theorem li_6000 : (6000 : Int32) = nI 6000 := id rfl
theorem li_6002 : (6002 : Int32) = nI 6002 := id rfl
theorem li_9000 : (9000 : Int32) = nI 9000 := id rfl
theorem li_10000 : (10000 : Int32) = nI 10000 := id rfl
theorem li_20000 : (20000 : Int32) = nI 20000 := id rfl
theorem li_40401 : (40401 : Int32) = nI 40401 := id rfl
theorem li_100000 : (100000 : Int32) = nI 100000 := id rfl
theorem li_1000000 : (1000000 : Int32) = nI 1000000 := id rfl
theorem mI_toInt : mI.toInt = -1 := by decide
theorem mI_eq {a : Nat} (h : a < 2 ^ 31) : (nI a = mI) = False := eq_false fun e => by
  have := congrArg Int32.toInt e
  rw [nI_toInt h, mI_toInt] at this
  omega
theorem mI_eq2 {a : Nat} (h : a < 2 ^ 31) : (mI = nI a) = False := eq_false fun e => by
  have := congrArg Int32.toInt e
  rw [nI_toInt h, mI_toInt] at this
  omega
theorem mI_lt {a : Nat} (h : a < 2 ^ 31) : (mI < nI a) = True := eq_true (by
  rw [Int32.lt_iff_toInt_lt, nI_toInt h, mI_toInt]
  omega)
theorem mI_le {a : Nat} (h : a < 2 ^ 31) : (mI ≤ nI a) = True := eq_true (by
  rw [Int32.le_iff_toInt_le, nI_toInt h, mI_toInt]
  omega)
theorem mI_gt {a : Nat} (h : a < 2 ^ 31) : (nI a < mI) = False := eq_false (by
  rw [Int32.lt_iff_toInt_lt, nI_toInt h, mI_toInt]
  omega)
theorem mI_ge {a : Nat} (h : a < 2 ^ 31) : (nI a ≤ mI) = False := eq_false (by
  rw [Int32.le_iff_toInt_le, nI_toInt h, mI_toInt]
  omega)
theorem nI_m1 {a : Nat} (h : 1 ≤ a) : nI a + mI = nI (a - 1) := by
  obtain ⟨k, rfl⟩ : ∃ k, a = k + 1 := ⟨a - 1, by omega⟩
  exact pk_m1 k
theorem bq0 {P : Prop} {d : Decidable P} : ((if P then nI 1 else nI 0) = nI 0) = ¬ P := by
  by_cases h : P
  · rw [if_pos h]; exact propext ⟨fun q => absurd q (by decide), fun q => absurd h q⟩
  · rw [if_neg h]; exact propext ⟨fun _ => h, fun _ => rfl⟩
theorem bq1 {P : Prop} {d : Decidable P} : ((if P then nI 0 else nI 1) = nI 0) = P := by
  by_cases h : P
  · rw [if_pos h]; exact propext ⟨fun _ => h, fun _ => rfl⟩
  · rw [if_neg h]; exact propext ⟨fun q => absurd q (by decide), fun q => absurd q h⟩
theorem i_if {P : Prop} {d : Decidable P} {a b : Int32} : (if P then Value.int a else Value.int b) = Value.int (if P then a else b) := by split <;> rfl
theorem ty_q0 {σ : am_M} {n sl a c k pc : Nat} {ls : am_L} {r : List Value} (h : ly_i a c k) (hc : c < 13) (hk : k < am_nf c) : am_putf .boolean c k pc ls (.int (nI 0) :: .ref a :: r) (n, sl, hp σ) = am_nx (pc + 3) ls r (n, sl, hp (wf σ a k (nI 0))) := ty_put h hc hk rfl
theorem ty_q1 {σ : am_M} {n sl a c k pc : Nat} {ls : am_L} {r : List Value} (h : ly_i a c k) (hc : c < 13) (hk : k < am_nf c) : am_putf .boolean c k pc ls (.int (nI 1) :: .ref a :: r) (n, sl, hp σ) = am_nx (pc + 3) ls r (n, sl, hp (wf σ a k (nI 1))) := ty_put h hc hk rfl
theorem ty_q2 {σ : am_M} {n sl a c k pc : Nat} {P : Prop} {d : Decidable P} {ls : am_L} {r : List Value} (h : ly_i a c k) (hc : c < 13) (hk : k < am_nf c) : am_putf .boolean c k pc ls (.int (if P then nI 1 else nI 0) :: .ref a :: r) (n, sl, hp σ) = am_nx (pc + 3) ls r (n, sl, hp (wf σ a k (if P then nI 1 else nI 0))) := ty_put h hc hk (by split <;> rfl)
/-! lists of bytes: their lines -/
def gl (l : List Int32) (i : Nat) : Int32 := l.getD i 0
def lnum (l : List Int32) : Nat := nl (gl l) l.length
def lsta (l : List Int32) (k : Nat) : Nat := sta (gl l) l.length k
def line (l : List Int32) (k : Nat) : List Int32 := slc (gl l) (lsta l k) (lsta l (k + 1) - lsta l k)
def isb (l : List Int32) : Prop := ∀ i, i < l.length → b8 (gl l i) = gl l i
theorem lsta_rise {l : List Int32} {k : Nat} (h : k < lnum l) : lsta l k < lsta l (k + 1) := sta_rise h
theorem lsta_n {l : List Int32} {k : Nat} (h : k ≤ lnum l) : lsta l k ≤ l.length := sta_n h
theorem lsta_0 {l : List Int32} : lsta l 0 = 0 := rfl
theorem lsta_end {l : List Int32} : lsta l (lnum l) = l.length := sta_end
theorem lsta_ten {l : List Int32} {k : Nat} (h : k + 1 < lnum l) : gl l (lsta l (k + 1) - 1) = 10 := sta_ten h
/-- the row of bytes at a holds l -/
def Bt (σ : am_M) (a : Nat) (l : List Int32) : Prop := σ.1 a 1 = nI l.length ∧ l.length ≤ ly_n (a + 1) ∧ (∀ i, i < l.length → σ.2.1 (a + 1) i = gl l i) ∧ isb l
/-- the text at t holds l -/
def Tx (σ : am_M) (t : Nat) (l : List Int32) : Prop := σ.1 (t + 1) 1 = nI l.length ∧ l.length ≤ 2000 ∧ (∀ i, i < l.length → σ.2.1 (t + 2) i = gl l i) ∧ isb l ∧ σ.1 t 3 = nI (lnum l) ∧ lnum l ≤ 200 ∧ (∀ k, k < lnum l → σ.2.1 (t + 3) k = nI (lsta l k)) ∧ (∀ k, k < lnum l → σ.2.1 (t + 4) k = hs (gl l) (lsta l k) (lsta l (k + 1) - lsta l k))
theorem gl_app1 {l m : List Int32} {i : Nat} (h : i < l.length) : gl (l ++ m) i = gl l i := by
  unfold gl
  rw [List.getD_eq_getElem?_getD, List.getD_eq_getElem?_getD, List.getElem?_append_left h]
theorem gl_app2 {l m : List Int32} {i : Nat} (h : l.length ≤ i) : gl (l ++ m) i = gl m (i - l.length) := by
  unfold gl
  rw [List.getD_eq_getElem?_getD, List.getD_eq_getElem?_getD, List.getElem?_append_right h]
theorem isb_app {l m : List Int32} (h1 : isb l) (h2 : isb m) : isb (l ++ m) := by
  intro i hi
  rw [List.length_append] at hi
  rcases Nat.lt_or_ge i l.length with q | q
  · rw [gl_app1 q]; exact h1 i q
  · rw [gl_app2 q]; exact h2 _ (by omega)
theorem isb_nil : isb [] := fun i hi => absurd hi (Nat.not_lt_zero i)
theorem isb_sl {f : Nat → Int32} {n i k : Nat} (h : is_b f n) (hk : i + k ≤ n) : isb (slc f i k) := by
  intro j hj
  rw [slc_len] at hj
  unfold gl
  rw [slc_get hj]
  exact h _ (by omega)
theorem isb_txt (j : Nat) : isb (am_txt j) := fun i _ => txt_b8 j i
theorem isb_1 {v : Int32} (h : b8 v = v) : isb [v] := by
  intro i hi
  obtain rfl : i = 0 := by simpa using hi
  exact h
theorem isb_digs {v : Nat} : ∀ k, isb (digs v k)
  | 0 => isb_1 (b8_d v)
  | k + 1 => by
    unfold digs
    refine isb_app ?_ (isb_digs k)
    split
    · exact isb_1 (b8_d _)
    · exact isb_nil
theorem Bt_app {σ : am_M} {a : Nat} {l L : List Int32} (h : Bt σ a l) (hL : isb L) (hle : l.length + L.length ≤ ly_n (a + 1)) : Bt (app σ a l.length L) a (l ++ L) := by
  obtain ⟨h1, h2, h3, h4⟩ := h
  refine ⟨by rw [app_len, List.length_append], by rw [List.length_append]; exact hle, fun i hi => ?_, isb_app h4 hL⟩
  rw [app_row]
  unfold apw
  rw [List.length_append] at hi
  by_cases q : l.length ≤ i
  · rw [if_pos ⟨q, hi⟩, gl_app2 q]; rfl
  · rw [if_neg (fun z => q z.1), gl_app1 (by omega), h3 i (by omega)]
theorem Bt_of {σ τ : am_M} {a : Nat} {l : List Int32} (h : Bt σ a l) (h1 : τ.1 a 1 = σ.1 a 1) (h2 : τ.2.1 (a + 1) = σ.2.1 (a + 1)) : Bt τ a l := by
  obtain ⟨g1, g2, g3, g4⟩ := h
  exact ⟨by rw [h1, g1], g2, by rw [h2]; exact g3, g4⟩
theorem Tx_of {σ τ : am_M} {t : Nat} {l : List Int32} (h : Tx σ t l) (h1 : τ.1 (t + 1) 1 = σ.1 (t + 1) 1) (h2 : τ.1 t 3 = σ.1 t 3) (h3 : τ.2.1 (t + 2) = σ.2.1 (t + 2)) (h4 : τ.2.1 (t + 3) = σ.2.1 (t + 3)) (h5 : τ.2.1 (t + 4) = σ.2.1 (t + 4)) : Tx τ t l := by
  obtain ⟨g1, g2, g3, g4, g5, g6, g7, g8⟩ := h
  exact ⟨by rw [h1, g1], g2, by rw [h3]; exact g3, g4, by rw [h2, g5], g6, by rw [h4]; exact g7, by rw [h5]; exact g8⟩
theorem hs_congr {f g : Nat → Int32} {n : Nat} (h : ∀ i, i < n → f i = g i) {i : Nat} : ∀ k, i + k ≤ n → hs f i k = hs g i k
  | 0, _ => rfl
  | k + 1, hk => by
    unfold hs
    rw [hs_congr h k (by omega), h (i + k) (by omega)]
theorem slc_congr {f g : Nat → Int32} {n i k : Nat} (h : ∀ i, i < n → f i = g i) (hk : i + k ≤ n) : slc f i k = slc g i k := slc_ext fun x hx => h _ (by omega)
section TX
variable {X : am_X} {σ : am_M} {t : Nat} {l : List Int32} {Q : Option Value → am_H → Prop}
theorem Tx_B (h : Tx σ t l) (hT : is_T t) : Bt σ (t + 1) l := ⟨h.1, by have := hT.2.2.2.1.1; show l.length ≤ ly_n (t + 2); have := h.2.1; omega, h.2.2.1, h.2.2.2.1⟩
theorem Tx_nl (h : Tx σ t l) : nl (σ.2.1 (t + 2)) l.length = lnum l := nl_congr h.2.2.1
theorem Tx_st (h : Tx σ t l) (k : Nat) : sta (σ.2.1 (t + 2)) l.length k = lsta l k := sta_congr h.2.2.1 k
theorem Tx_ok (h : Tx σ t l) : tOK σ t l.length := by
  have e1 := Tx_nl h
  have e2 := Tx_st h
  obtain ⟨g1, g2, g3, g4, g5, g6, g7, g8⟩ := h
  refine ⟨g1, g2, fun i hi => by rw [g3 i hi]; exact g4 i hi, by rw [e1]; exact g5, by rw [e1]; exact g6, fun k hk => ?_, fun k hk => ?_⟩
  · rw [e1] at hk; rw [e2, g7 k hk]
  · rw [e1] at hk; rw [e2, e2, g8 k hk]
    have r1 := lsta_rise hk
    have r2 := lsta_n (l := l) (k := k + 1) hk
    exact (hs_congr g3 _ (by omega)).symm
theorem Tx_ln (h : Tx σ t l) {k : Nat} (hk : k < lnum l) : ln σ t l.length k = line l k := by
  unfold ln line
  rw [Tx_st h, Tx_st h]
  have r1 := lsta_rise hk
  have r2 := lsta_n (l := l) (k := k + 1) hk
  exact slc_congr h.2.2.1 (by omega)
theorem sx_Text_startOf {i : Nat} (hT : is_T t) (h : Tx σ t l) (hi : i ≤ lnum l) : am_Go X 88 0 [some (.ref t), some (.int (nI i))] [] (hh σ) Q = Q (some (.int (nI (lsta l i)))) (hh σ) := by
  rw [sp_Text_startOf hT (Tx_ok h) (by rw [Tx_nl h]; exact hi), Tx_st h]
/-- whether the text's last line has no 10 -/
abbrev eop (l : List Int32) : Prop := 0 < l.length ∧ gl l (l.length - 1) ≠ 10
theorem sx_Text_endsOpen (hT : is_T t) (h : Tx σ t l) : am_Go X 89 0 [some (.ref t)] [] (hh σ) Q = Q (some (.int (if eop l then nI 1 else nI 0))) (hh σ) := by
  rw [sp_Text_endsOpen hT (Tx_ok h)]
  by_cases q : 0 < l.length
  · rw [h.2.2.1 _ (by omega)]; rfl
  · rw [if_neg (fun z => q z.1), if_neg (fun z => q z.1)]; rfl
/-- lines i and j are alike -/
abbrev alk (l m : List Int32) (i j : Nat) : Prop := i < lnum l ∧ j < lnum m ∧ line l i = line m j
theorem sx_Text_isAlike {u i j : Nat} {m : List Int32} (hT : is_T t) (h : Tx σ t l) (hU : is_T u) (hu : Tx σ u m) (hi : i < 2 ^ 30) (hj : j < 2 ^ 30) : am_Go X 91 0 [some (.ref t), some (.int (nI i)), some (.ref u), some (.int (nI j))] [] (hh σ) Q = Q (some (.int (if alk l m i j then nI 1 else nI 0))) (hh σ) := by
  rw [sp_Text_isAlike hT (Tx_ok h) hU (Tx_ok hu) hi hj]
  refine congrArg (fun v => Q (some (.int v)) (hh σ)) ?_
  rw [Tx_nl h, Tx_nl hu]
  by_cases q1 : i < lnum l
  · by_cases q2 : j < lnum m
    · rw [Tx_ln h q1, Tx_ln hu q2]; rfl
    · rw [if_neg (fun z => q2 z.2.1), if_neg (fun z => q2 z.2.1)]; rfl
  · rw [if_neg (fun z => q1 z.1), if_neg (fun z => q1 z.1)]; rfl
end TX
