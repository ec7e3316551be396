/-! places of the typed heap, by name (for the walks) -/
def ly_i (a c k : Nat) : Prop := ly_c a = c ∧ ly_f a k = none ∧ ly_d a k = none
theorem ty_put {σ : am_M} {ty : FieldType} {n sl a c k pc : Nat} {v : Int32} {ls : am_L} {r : List Value} (h : ly_i a c k) (hc : c < 13) (hk : k < am_nf c) (hv : am_fit ty (.int v) = true) : am_putf ty c k pc ls (.int v :: .ref a :: r) (n, sl, hp σ) = am_nx (pc + 3) ls r (n, sl, hp (wf σ a k v)) := ty_puti h.1 hc hk h.2.1 h.2.2 hv
theorem ly_vi {σ : am_M} {a c k : Nat} (h : ly_i a c k) : ly_v σ a k = .int (σ.1 a k) := by
  unfold ly_v
  rw [h.2.1, h.2.2]
theorem lc_0 : ly_c 0 = 11 := rfl
theorem lv_0_0 {σ : am_M} : ly_v σ 0 0 = .ref 1 := rfl
theorem lv_0_1 {σ : am_M} : ly_v σ 0 1 = .ref 2 := rfl
theorem lv_0_2 {σ : am_M} : ly_v σ 0 2 = .ref 4 := rfl
theorem lv_0_3 {σ : am_M} : ly_v σ 0 3 = .ref 70 := rfl
theorem lv_0_4 {σ : am_M} : ly_v σ 0 4 = .ref 77 := rfl
theorem lv_0_5 {σ : am_M} : ly_v σ 0 5 = .ref 78 := rfl
theorem lv_0_6 {σ : am_M} : ly_v σ 0 6 = .ref 6 := rfl
theorem lv_0_7 {σ : am_M} : ly_v σ 0 7 = .ref 15 := rfl
theorem lv_0_8 {σ : am_M} : ly_v σ 0 8 = .ref 17 := rfl
theorem lv_0_9 {σ : am_M} : ly_v σ 0 9 = .ref 19 := rfl
theorem lv_0_10 {σ : am_M} : ly_v σ 0 10 = .ref (σ.2.2 0) := rfl
theorem lv_0_11 {σ : am_M} : ly_v σ 0 11 = .ref (σ.2.2 1) := rfl
theorem lv_0_12 {σ : am_M} : ly_v σ 0 12 = .int (σ.1 0 12) := rfl
theorem li_0_12 : ly_i 0 11 12 := ⟨rfl, rfl, rfl⟩
theorem lv_0_13 {σ : am_M} : ly_v σ 0 13 = .int (σ.1 0 13) := rfl
theorem li_0_13 : ly_i 0 11 13 := ⟨rfl, rfl, rfl⟩
theorem lc_1 : ly_c 1 = 18 := rfl
theorem ln_1 : ly_n 1 = 8 := rfl
theorem lc_2 : ly_c 2 = 1 := rfl
theorem lv_2_0 {σ : am_M} : ly_v σ 2 0 = .ref 3 := rfl
theorem lv_2_1 {σ : am_M} : ly_v σ 2 1 = .int (σ.1 2 1) := rfl
theorem li_2_1 : ly_i 2 1 1 := ⟨rfl, rfl, rfl⟩
theorem lv_2_2 {σ : am_M} : ly_v σ 2 2 = .int (σ.1 2 2) := rfl
theorem li_2_2 : ly_i 2 1 2 := ⟨rfl, rfl, rfl⟩
theorem lv_2_3 {σ : am_M} : ly_v σ 2 3 = .int (σ.1 2 3) := rfl
theorem li_2_3 : ly_i 2 1 3 := ⟨rfl, rfl, rfl⟩
theorem lc_3 : ly_c 3 = 14 := rfl
theorem ln_3 : ly_n 3 = 6000 := rfl
theorem lc_4 : ly_c 4 = 1 := rfl
theorem lv_4_0 {σ : am_M} : ly_v σ 4 0 = .ref 5 := rfl
theorem lv_4_1 {σ : am_M} : ly_v σ 4 1 = .int (σ.1 4 1) := rfl
theorem li_4_1 : ly_i 4 1 1 := ⟨rfl, rfl, rfl⟩
theorem lv_4_2 {σ : am_M} : ly_v σ 4 2 = .int (σ.1 4 2) := rfl
theorem li_4_2 : ly_i 4 1 2 := ⟨rfl, rfl, rfl⟩
theorem lv_4_3 {σ : am_M} : ly_v σ 4 3 = .int (σ.1 4 3) := rfl
theorem li_4_3 : ly_i 4 1 3 := ⟨rfl, rfl, rfl⟩
theorem lc_5 : ly_c 5 = 14 := rfl
theorem ln_5 : ly_n 5 = 20000 := rfl
theorem lc_6 : ly_c 6 = 6 := rfl
theorem lv_6_0 {σ : am_M} : ly_v σ 6 0 = .ref 2 := rfl
theorem lv_6_1 {σ : am_M} : ly_v σ 6 1 = .ref 7 := rfl
theorem lv_6_2 {σ : am_M} : ly_v σ 6 2 = .ref 8 := rfl
theorem lv_6_3 {σ : am_M} : ly_v σ 6 3 = .ref 9 := rfl
theorem lv_6_4 {σ : am_M} : ly_v σ 6 4 = .ref 10 := rfl
theorem lv_6_5 {σ : am_M} : ly_v σ 6 5 = .ref 11 := rfl
theorem lv_6_6 {σ : am_M} : ly_v σ 6 6 = .int (σ.1 6 6) := rfl
theorem li_6_6 : ly_i 6 6 6 := ⟨rfl, rfl, rfl⟩
theorem lv_6_7 {σ : am_M} : ly_v σ 6 7 = .ref 12 := rfl
theorem lv_6_8 {σ : am_M} : ly_v σ 6 8 = .ref 13 := rfl
theorem lv_6_9 {σ : am_M} : ly_v σ 6 9 = .ref 14 := rfl
theorem lv_6_10 {σ : am_M} : ly_v σ 6 10 = .int (σ.1 6 10) := rfl
theorem li_6_10 : ly_i 6 6 10 := ⟨rfl, rfl, rfl⟩
theorem lv_6_11 {σ : am_M} : ly_v σ 6 11 = .int (σ.1 6 11) := rfl
theorem li_6_11 : ly_i 6 6 11 := ⟨rfl, rfl, rfl⟩
theorem lv_6_12 {σ : am_M} : ly_v σ 6 12 = .int (σ.1 6 12) := rfl
theorem li_6_12 : ly_i 6 6 12 := ⟨rfl, rfl, rfl⟩
theorem lv_6_13 {σ : am_M} : ly_v σ 6 13 = .int (σ.1 6 13) := rfl
theorem li_6_13 : ly_i 6 6 13 := ⟨rfl, rfl, rfl⟩
theorem lv_6_14 {σ : am_M} : ly_v σ 6 14 = .int (σ.1 6 14) := rfl
theorem li_6_14 : ly_i 6 6 14 := ⟨rfl, rfl, rfl⟩
theorem lc_7 : ly_c 7 = 13 := rfl
theorem ln_7 : ly_n 7 = 2000 := rfl
theorem lc_8 : ly_c 8 = 13 := rfl
theorem ln_8 : ly_n 8 = 2000 := rfl
theorem lc_9 : ly_c 9 = 13 := rfl
theorem ln_9 : ly_n 9 = 2000 := rfl
theorem lc_10 : ly_c 10 = 13 := rfl
theorem ln_10 : ly_n 10 = 2000 := rfl
theorem lc_11 : ly_c 11 = 13 := rfl
theorem ln_11 : ly_n 11 = 2000 := rfl
theorem lc_12 : ly_c 12 = 15 := rfl
theorem ln_12 : ly_n 12 = 6000 := rfl
theorem lc_13 : ly_c 13 = 13 := rfl
theorem ln_13 : ly_n 13 = 6000 := rfl
theorem lc_14 : ly_c 14 = 13 := rfl
theorem ln_14 : ly_n 14 = 6000 := rfl
theorem lc_15 : ly_c 15 = 2 := rfl
theorem lv_15_0 {σ : am_M} : ly_v σ 15 0 = .ref 16 := rfl
theorem lv_15_1 {σ : am_M} : ly_v σ 15 1 = .ref 6 := rfl
theorem lv_15_2 {σ : am_M} : ly_v σ 15 2 = .int (σ.1 15 2) := rfl
theorem li_15_2 : ly_i 15 2 2 := ⟨rfl, rfl, rfl⟩
theorem lv_15_3 {σ : am_M} : ly_v σ 15 3 = .int (σ.1 15 3) := rfl
theorem li_15_3 : ly_i 15 2 3 := ⟨rfl, rfl, rfl⟩
theorem lv_15_4 {σ : am_M} : ly_v σ 15 4 = .int (σ.1 15 4) := rfl
theorem li_15_4 : ly_i 15 2 4 := ⟨rfl, rfl, rfl⟩
theorem lc_16 : ly_c 16 = 8 := rfl
theorem lv_16_0 {σ : am_M} : ly_v σ 16 0 = .ref 2 := rfl
theorem lv_16_1 {σ : am_M} : ly_v σ 16 1 = .int (σ.1 16 1) := rfl
theorem li_16_1 : ly_i 16 8 1 := ⟨rfl, rfl, rfl⟩
theorem lv_16_2 {σ : am_M} : ly_v σ 16 2 = .int (σ.1 16 2) := rfl
theorem li_16_2 : ly_i 16 8 2 := ⟨rfl, rfl, rfl⟩
theorem lv_16_3 {σ : am_M} : ly_v σ 16 3 = .int (σ.1 16 3) := rfl
theorem li_16_3 : ly_i 16 8 3 := ⟨rfl, rfl, rfl⟩
theorem lc_17 : ly_c 17 = 10 := rfl
theorem lv_17_0 {σ : am_M} : ly_v σ 17 0 = .ref 18 := rfl
theorem lv_17_1 {σ : am_M} : ly_v σ 17 1 = .ref 6 := rfl
theorem lv_17_2 {σ : am_M} : ly_v σ 17 2 = .int (σ.1 17 2) := rfl
theorem li_17_2 : ly_i 17 10 2 := ⟨rfl, rfl, rfl⟩
theorem lv_17_3 {σ : am_M} : ly_v σ 17 3 = .int (σ.1 17 3) := rfl
theorem li_17_3 : ly_i 17 10 3 := ⟨rfl, rfl, rfl⟩
theorem lv_17_4 {σ : am_M} : ly_v σ 17 4 = .int (σ.1 17 4) := rfl
theorem li_17_4 : ly_i 17 10 4 := ⟨rfl, rfl, rfl⟩
theorem lc_18 : ly_c 18 = 8 := rfl
theorem lv_18_0 {σ : am_M} : ly_v σ 18 0 = .ref 2 := rfl
theorem lv_18_1 {σ : am_M} : ly_v σ 18 1 = .int (σ.1 18 1) := rfl
theorem li_18_1 : ly_i 18 8 1 := ⟨rfl, rfl, rfl⟩
theorem lv_18_2 {σ : am_M} : ly_v σ 18 2 = .int (σ.1 18 2) := rfl
theorem li_18_2 : ly_i 18 8 2 := ⟨rfl, rfl, rfl⟩
theorem lv_18_3 {σ : am_M} : ly_v σ 18 3 = .int (σ.1 18 3) := rfl
theorem li_18_3 : ly_i 18 8 3 := ⟨rfl, rfl, rfl⟩
theorem lc_19 : ly_c 19 = 0 := rfl
theorem lv_19_0 {σ : am_M} : ly_v σ 19 0 = .ref 6 := rfl
theorem lv_19_1 {σ : am_M} : ly_v σ 19 1 = .ref 20 := rfl
theorem lv_19_2 {σ : am_M} : ly_v σ 19 2 = .int (σ.1 19 2) := rfl
theorem li_19_2 : ly_i 19 0 2 := ⟨rfl, rfl, rfl⟩
theorem lv_19_3 {σ : am_M} : ly_v σ 19 3 = .int (σ.1 19 3) := rfl
theorem li_19_3 : ly_i 19 0 3 := ⟨rfl, rfl, rfl⟩
theorem lv_19_4 {σ : am_M} : ly_v σ 19 4 = .int (σ.1 19 4) := rfl
theorem li_19_4 : ly_i 19 0 4 := ⟨rfl, rfl, rfl⟩
theorem lv_19_5 {σ : am_M} : ly_v σ 19 5 = .int (σ.1 19 5) := rfl
theorem li_19_5 : ly_i 19 0 5 := ⟨rfl, rfl, rfl⟩
theorem lc_20 : ly_c 20 = 1 := rfl
theorem lv_20_0 {σ : am_M} : ly_v σ 20 0 = .ref 21 := rfl
theorem lv_20_1 {σ : am_M} : ly_v σ 20 1 = .int (σ.1 20 1) := rfl
theorem li_20_1 : ly_i 20 1 1 := ⟨rfl, rfl, rfl⟩
theorem lv_20_2 {σ : am_M} : ly_v σ 20 2 = .int (σ.1 20 2) := rfl
theorem li_20_2 : ly_i 20 1 2 := ⟨rfl, rfl, rfl⟩
theorem lv_20_3 {σ : am_M} : ly_v σ 20 3 = .int (σ.1 20 3) := rfl
theorem li_20_3 : ly_i 20 1 3 := ⟨rfl, rfl, rfl⟩
theorem lc_21 : ly_c 21 = 14 := rfl
theorem ln_21 : ly_n 21 = 2000 := rfl
theorem lc_22 : ly_c 22 = 4 := rfl
theorem lv_22_0 {σ : am_M} : ly_v σ 22 0 = .ref 23 := rfl
theorem lv_22_1 {σ : am_M} : ly_v σ 22 1 = .ref 24 := rfl
theorem lv_22_2 {σ : am_M} : ly_v σ 22 2 = .ref 25 := rfl
theorem lv_22_3 {σ : am_M} : ly_v σ 22 3 = .int (σ.1 22 3) := rfl
theorem li_22_3 : ly_i 22 4 3 := ⟨rfl, rfl, rfl⟩
theorem lc_23 : ly_c 23 = 13 := rfl
theorem ln_23 : ly_n 23 = 500 := rfl
theorem lc_24 : ly_c 24 = 13 := rfl
theorem ln_24 : ly_n 24 = 500 := rfl
theorem lc_25 : ly_c 25 = 13 := rfl
theorem ln_25 : ly_n 25 = 500 := rfl
theorem lc_26 : ly_c 26 = 4 := rfl
theorem lv_26_0 {σ : am_M} : ly_v σ 26 0 = .ref 27 := rfl
theorem lv_26_1 {σ : am_M} : ly_v σ 26 1 = .ref 28 := rfl
theorem lv_26_2 {σ : am_M} : ly_v σ 26 2 = .ref 29 := rfl
theorem lv_26_3 {σ : am_M} : ly_v σ 26 3 = .int (σ.1 26 3) := rfl
theorem li_26_3 : ly_i 26 4 3 := ⟨rfl, rfl, rfl⟩
theorem lc_27 : ly_c 27 = 13 := rfl
theorem ln_27 : ly_n 27 = 500 := rfl
theorem lc_28 : ly_c 28 = 13 := rfl
theorem ln_28 : ly_n 28 = 500 := rfl
theorem lc_29 : ly_c 29 = 13 := rfl
theorem ln_29 : ly_n 29 = 500 := rfl
theorem lc_30 : ly_c 30 = 9 := rfl
theorem lv_30_0 {σ : am_M} : ly_v σ 30 0 = .ref 31 := rfl
theorem lv_30_1 {σ : am_M} : ly_v σ 30 1 = .ref 33 := rfl
theorem lv_30_2 {σ : am_M} : ly_v σ 30 2 = .ref 34 := rfl
theorem lv_30_3 {σ : am_M} : ly_v σ 30 3 = .int (σ.1 30 3) := rfl
theorem li_30_3 : ly_i 30 9 3 := ⟨rfl, rfl, rfl⟩
theorem lv_30_4 {σ : am_M} : ly_v σ 30 4 = .int (σ.1 30 4) := rfl
theorem li_30_4 : ly_i 30 9 4 := ⟨rfl, rfl, rfl⟩
theorem lc_31 : ly_c 31 = 1 := rfl
theorem lv_31_0 {σ : am_M} : ly_v σ 31 0 = .ref 32 := rfl
theorem lv_31_1 {σ : am_M} : ly_v σ 31 1 = .int (σ.1 31 1) := rfl
theorem li_31_1 : ly_i 31 1 1 := ⟨rfl, rfl, rfl⟩
theorem lv_31_2 {σ : am_M} : ly_v σ 31 2 = .int (σ.1 31 2) := rfl
theorem li_31_2 : ly_i 31 1 2 := ⟨rfl, rfl, rfl⟩
theorem lv_31_3 {σ : am_M} : ly_v σ 31 3 = .int (σ.1 31 3) := rfl
theorem li_31_3 : ly_i 31 1 3 := ⟨rfl, rfl, rfl⟩
theorem lc_32 : ly_c 32 = 14 := rfl
theorem ln_32 : ly_n 32 = 2000 := rfl
theorem lc_33 : ly_c 33 = 13 := rfl
theorem ln_33 : ly_n 33 = 200 := rfl
theorem lc_34 : ly_c 34 = 13 := rfl
theorem ln_34 : ly_n 34 = 200 := rfl
theorem lc_35 : ly_c 35 = 9 := rfl
theorem lv_35_0 {σ : am_M} : ly_v σ 35 0 = .ref 36 := rfl
theorem lv_35_1 {σ : am_M} : ly_v σ 35 1 = .ref 38 := rfl
theorem lv_35_2 {σ : am_M} : ly_v σ 35 2 = .ref 39 := rfl
theorem lv_35_3 {σ : am_M} : ly_v σ 35 3 = .int (σ.1 35 3) := rfl
theorem li_35_3 : ly_i 35 9 3 := ⟨rfl, rfl, rfl⟩
theorem lv_35_4 {σ : am_M} : ly_v σ 35 4 = .int (σ.1 35 4) := rfl
theorem li_35_4 : ly_i 35 9 4 := ⟨rfl, rfl, rfl⟩
theorem lc_36 : ly_c 36 = 1 := rfl
theorem lv_36_0 {σ : am_M} : ly_v σ 36 0 = .ref 37 := rfl
theorem lv_36_1 {σ : am_M} : ly_v σ 36 1 = .int (σ.1 36 1) := rfl
theorem li_36_1 : ly_i 36 1 1 := ⟨rfl, rfl, rfl⟩
theorem lv_36_2 {σ : am_M} : ly_v σ 36 2 = .int (σ.1 36 2) := rfl
theorem li_36_2 : ly_i 36 1 2 := ⟨rfl, rfl, rfl⟩
theorem lv_36_3 {σ : am_M} : ly_v σ 36 3 = .int (σ.1 36 3) := rfl
theorem li_36_3 : ly_i 36 1 3 := ⟨rfl, rfl, rfl⟩
theorem lc_37 : ly_c 37 = 14 := rfl
theorem ln_37 : ly_n 37 = 2000 := rfl
theorem lc_38 : ly_c 38 = 13 := rfl
theorem ln_38 : ly_n 38 = 200 := rfl
theorem lc_39 : ly_c 39 = 13 := rfl
theorem ln_39 : ly_n 39 = 200 := rfl
theorem lc_40 : ly_c 40 = 9 := rfl
theorem lv_40_0 {σ : am_M} : ly_v σ 40 0 = .ref 41 := rfl
theorem lv_40_1 {σ : am_M} : ly_v σ 40 1 = .ref 43 := rfl
theorem lv_40_2 {σ : am_M} : ly_v σ 40 2 = .ref 44 := rfl
theorem lv_40_3 {σ : am_M} : ly_v σ 40 3 = .int (σ.1 40 3) := rfl
theorem li_40_3 : ly_i 40 9 3 := ⟨rfl, rfl, rfl⟩
theorem lv_40_4 {σ : am_M} : ly_v σ 40 4 = .int (σ.1 40 4) := rfl
theorem li_40_4 : ly_i 40 9 4 := ⟨rfl, rfl, rfl⟩
theorem lc_41 : ly_c 41 = 1 := rfl
theorem lv_41_0 {σ : am_M} : ly_v σ 41 0 = .ref 42 := rfl
theorem lv_41_1 {σ : am_M} : ly_v σ 41 1 = .int (σ.1 41 1) := rfl
theorem li_41_1 : ly_i 41 1 1 := ⟨rfl, rfl, rfl⟩
theorem lv_41_2 {σ : am_M} : ly_v σ 41 2 = .int (σ.1 41 2) := rfl
theorem li_41_2 : ly_i 41 1 2 := ⟨rfl, rfl, rfl⟩
theorem lv_41_3 {σ : am_M} : ly_v σ 41 3 = .int (σ.1 41 3) := rfl
theorem li_41_3 : ly_i 41 1 3 := ⟨rfl, rfl, rfl⟩
theorem lc_42 : ly_c 42 = 14 := rfl
theorem ln_42 : ly_n 42 = 2000 := rfl
theorem lc_43 : ly_c 43 = 13 := rfl
theorem ln_43 : ly_n 43 = 200 := rfl
theorem lc_44 : ly_c 44 = 13 := rfl
theorem ln_44 : ly_n 44 = 200 := rfl
theorem lc_45 : ly_c 45 = 9 := rfl
theorem lv_45_0 {σ : am_M} : ly_v σ 45 0 = .ref 46 := rfl
theorem lv_45_1 {σ : am_M} : ly_v σ 45 1 = .ref 48 := rfl
theorem lv_45_2 {σ : am_M} : ly_v σ 45 2 = .ref 49 := rfl
theorem lv_45_3 {σ : am_M} : ly_v σ 45 3 = .int (σ.1 45 3) := rfl
theorem li_45_3 : ly_i 45 9 3 := ⟨rfl, rfl, rfl⟩
theorem lv_45_4 {σ : am_M} : ly_v σ 45 4 = .int (σ.1 45 4) := rfl
theorem li_45_4 : ly_i 45 9 4 := ⟨rfl, rfl, rfl⟩
theorem lc_46 : ly_c 46 = 1 := rfl
theorem lv_46_0 {σ : am_M} : ly_v σ 46 0 = .ref 47 := rfl
theorem lv_46_1 {σ : am_M} : ly_v σ 46 1 = .int (σ.1 46 1) := rfl
theorem li_46_1 : ly_i 46 1 1 := ⟨rfl, rfl, rfl⟩
theorem lv_46_2 {σ : am_M} : ly_v σ 46 2 = .int (σ.1 46 2) := rfl
theorem li_46_2 : ly_i 46 1 2 := ⟨rfl, rfl, rfl⟩
theorem lv_46_3 {σ : am_M} : ly_v σ 46 3 = .int (σ.1 46 3) := rfl
theorem li_46_3 : ly_i 46 1 3 := ⟨rfl, rfl, rfl⟩
theorem lc_47 : ly_c 47 = 14 := rfl
theorem ln_47 : ly_n 47 = 2000 := rfl
theorem lc_48 : ly_c 48 = 13 := rfl
theorem ln_48 : ly_n 48 = 200 := rfl
theorem lc_49 : ly_c 49 = 13 := rfl
theorem ln_49 : ly_n 49 = 200 := rfl
theorem lc_50 : ly_c 50 = 9 := rfl
theorem lv_50_0 {σ : am_M} : ly_v σ 50 0 = .ref 51 := rfl
theorem lv_50_1 {σ : am_M} : ly_v σ 50 1 = .ref 53 := rfl
theorem lv_50_2 {σ : am_M} : ly_v σ 50 2 = .ref 54 := rfl
theorem lv_50_3 {σ : am_M} : ly_v σ 50 3 = .int (σ.1 50 3) := rfl
theorem li_50_3 : ly_i 50 9 3 := ⟨rfl, rfl, rfl⟩
theorem lv_50_4 {σ : am_M} : ly_v σ 50 4 = .int (σ.1 50 4) := rfl
theorem li_50_4 : ly_i 50 9 4 := ⟨rfl, rfl, rfl⟩
theorem lc_51 : ly_c 51 = 1 := rfl
theorem lv_51_0 {σ : am_M} : ly_v σ 51 0 = .ref 52 := rfl
theorem lv_51_1 {σ : am_M} : ly_v σ 51 1 = .int (σ.1 51 1) := rfl
theorem li_51_1 : ly_i 51 1 1 := ⟨rfl, rfl, rfl⟩
theorem lv_51_2 {σ : am_M} : ly_v σ 51 2 = .int (σ.1 51 2) := rfl
theorem li_51_2 : ly_i 51 1 2 := ⟨rfl, rfl, rfl⟩
theorem lv_51_3 {σ : am_M} : ly_v σ 51 3 = .int (σ.1 51 3) := rfl
theorem li_51_3 : ly_i 51 1 3 := ⟨rfl, rfl, rfl⟩
theorem lc_52 : ly_c 52 = 14 := rfl
theorem ln_52 : ly_n 52 = 2000 := rfl
theorem lc_53 : ly_c 53 = 13 := rfl
theorem ln_53 : ly_n 53 = 200 := rfl
theorem lc_54 : ly_c 54 = 13 := rfl
theorem ln_54 : ly_n 54 = 200 := rfl
theorem lc_55 : ly_c 55 = 9 := rfl
theorem lv_55_0 {σ : am_M} : ly_v σ 55 0 = .ref 56 := rfl
theorem lv_55_1 {σ : am_M} : ly_v σ 55 1 = .ref 58 := rfl
theorem lv_55_2 {σ : am_M} : ly_v σ 55 2 = .ref 59 := rfl
theorem lv_55_3 {σ : am_M} : ly_v σ 55 3 = .int (σ.1 55 3) := rfl
theorem li_55_3 : ly_i 55 9 3 := ⟨rfl, rfl, rfl⟩
theorem lv_55_4 {σ : am_M} : ly_v σ 55 4 = .int (σ.1 55 4) := rfl
theorem li_55_4 : ly_i 55 9 4 := ⟨rfl, rfl, rfl⟩
theorem lc_56 : ly_c 56 = 1 := rfl
theorem lv_56_0 {σ : am_M} : ly_v σ 56 0 = .ref 57 := rfl
theorem lv_56_1 {σ : am_M} : ly_v σ 56 1 = .int (σ.1 56 1) := rfl
theorem li_56_1 : ly_i 56 1 1 := ⟨rfl, rfl, rfl⟩
theorem lv_56_2 {σ : am_M} : ly_v σ 56 2 = .int (σ.1 56 2) := rfl
theorem li_56_2 : ly_i 56 1 2 := ⟨rfl, rfl, rfl⟩
theorem lv_56_3 {σ : am_M} : ly_v σ 56 3 = .int (σ.1 56 3) := rfl
theorem li_56_3 : ly_i 56 1 3 := ⟨rfl, rfl, rfl⟩
theorem lc_57 : ly_c 57 = 14 := rfl
theorem ln_57 : ly_n 57 = 2000 := rfl
theorem lc_58 : ly_c 58 = 13 := rfl
theorem ln_58 : ly_n 58 = 200 := rfl
theorem lc_59 : ly_c 59 = 13 := rfl
theorem ln_59 : ly_n 59 = 200 := rfl
theorem lc_60 : ly_c 60 = 9 := rfl
theorem lv_60_0 {σ : am_M} : ly_v σ 60 0 = .ref 61 := rfl
theorem lv_60_1 {σ : am_M} : ly_v σ 60 1 = .ref 63 := rfl
theorem lv_60_2 {σ : am_M} : ly_v σ 60 2 = .ref 64 := rfl
theorem lv_60_3 {σ : am_M} : ly_v σ 60 3 = .int (σ.1 60 3) := rfl
theorem li_60_3 : ly_i 60 9 3 := ⟨rfl, rfl, rfl⟩
theorem lv_60_4 {σ : am_M} : ly_v σ 60 4 = .int (σ.1 60 4) := rfl
theorem li_60_4 : ly_i 60 9 4 := ⟨rfl, rfl, rfl⟩
theorem lc_61 : ly_c 61 = 1 := rfl
theorem lv_61_0 {σ : am_M} : ly_v σ 61 0 = .ref 62 := rfl
theorem lv_61_1 {σ : am_M} : ly_v σ 61 1 = .int (σ.1 61 1) := rfl
theorem li_61_1 : ly_i 61 1 1 := ⟨rfl, rfl, rfl⟩
theorem lv_61_2 {σ : am_M} : ly_v σ 61 2 = .int (σ.1 61 2) := rfl
theorem li_61_2 : ly_i 61 1 2 := ⟨rfl, rfl, rfl⟩
theorem lv_61_3 {σ : am_M} : ly_v σ 61 3 = .int (σ.1 61 3) := rfl
theorem li_61_3 : ly_i 61 1 3 := ⟨rfl, rfl, rfl⟩
theorem lc_62 : ly_c 62 = 14 := rfl
theorem ln_62 : ly_n 62 = 2000 := rfl
theorem lc_63 : ly_c 63 = 13 := rfl
theorem ln_63 : ly_n 63 = 200 := rfl
theorem lc_64 : ly_c 64 = 13 := rfl
theorem ln_64 : ly_n 64 = 200 := rfl
theorem lc_65 : ly_c 65 = 9 := rfl
theorem lv_65_0 {σ : am_M} : ly_v σ 65 0 = .ref 66 := rfl
theorem lv_65_1 {σ : am_M} : ly_v σ 65 1 = .ref 68 := rfl
theorem lv_65_2 {σ : am_M} : ly_v σ 65 2 = .ref 69 := rfl
theorem lv_65_3 {σ : am_M} : ly_v σ 65 3 = .int (σ.1 65 3) := rfl
theorem li_65_3 : ly_i 65 9 3 := ⟨rfl, rfl, rfl⟩
theorem lv_65_4 {σ : am_M} : ly_v σ 65 4 = .int (σ.1 65 4) := rfl
theorem li_65_4 : ly_i 65 9 4 := ⟨rfl, rfl, rfl⟩
theorem lc_66 : ly_c 66 = 1 := rfl
theorem lv_66_0 {σ : am_M} : ly_v σ 66 0 = .ref 67 := rfl
theorem lv_66_1 {σ : am_M} : ly_v σ 66 1 = .int (σ.1 66 1) := rfl
theorem li_66_1 : ly_i 66 1 1 := ⟨rfl, rfl, rfl⟩
theorem lv_66_2 {σ : am_M} : ly_v σ 66 2 = .int (σ.1 66 2) := rfl
theorem li_66_2 : ly_i 66 1 2 := ⟨rfl, rfl, rfl⟩
theorem lv_66_3 {σ : am_M} : ly_v σ 66 3 = .int (σ.1 66 3) := rfl
theorem li_66_3 : ly_i 66 1 3 := ⟨rfl, rfl, rfl⟩
theorem lc_67 : ly_c 67 = 14 := rfl
theorem ln_67 : ly_n 67 = 2000 := rfl
theorem lc_68 : ly_c 68 = 13 := rfl
theorem ln_68 : ly_n 68 = 200 := rfl
theorem lc_69 : ly_c 69 = 13 := rfl
theorem ln_69 : ly_n 69 = 200 := rfl
theorem lc_70 : ly_c 70 = 3 := rfl
theorem lv_70_0 {σ : am_M} : ly_v σ 70 0 = .ref 71 := rfl
theorem lv_70_1 {σ : am_M} : ly_v σ 70 1 = .ref 72 := rfl
theorem lv_70_2 {σ : am_M} : ly_v σ 70 2 = .ref 73 := rfl
theorem lv_70_3 {σ : am_M} : ly_v σ 70 3 = .ref 74 := rfl
theorem lv_70_4 {σ : am_M} : ly_v σ 70 4 = .ref 75 := rfl
theorem lv_70_5 {σ : am_M} : ly_v σ 70 5 = .ref 76 := rfl
theorem lv_70_6 {σ : am_M} : ly_v σ 70 6 = .int (σ.1 70 6) := rfl
theorem li_70_6 : ly_i 70 3 6 := ⟨rfl, rfl, rfl⟩
theorem lv_70_7 {σ : am_M} : ly_v σ 70 7 = .ref (σ.2.2 2) := rfl
theorem lv_70_8 {σ : am_M} : ly_v σ 70 8 = .ref (σ.2.2 3) := rfl
theorem lv_70_9 {σ : am_M} : ly_v σ 70 9 = .int (σ.1 70 9) := rfl
theorem li_70_9 : ly_i 70 3 9 := ⟨rfl, rfl, rfl⟩
theorem lv_70_10 {σ : am_M} : ly_v σ 70 10 = .int (σ.1 70 10) := rfl
theorem li_70_10 : ly_i 70 3 10 := ⟨rfl, rfl, rfl⟩
theorem lc_71 : ly_c 71 = 13 := rfl
theorem ln_71 : ly_n 71 = 40401 := rfl
theorem lc_72 : ly_c 72 = 13 := rfl
theorem ln_72 : ly_n 72 = 200 := rfl
theorem lc_73 : ly_c 73 = 13 := rfl
theorem ln_73 : ly_n 73 = 201 := rfl
theorem lc_74 : ly_c 74 = 13 := rfl
theorem ln_74 : ly_n 74 = 201 := rfl
theorem lc_75 : ly_c 75 = 13 := rfl
theorem ln_75 : ly_n 75 = 201 := rfl
theorem lc_76 : ly_c 76 = 13 := rfl
theorem ln_76 : ly_n 76 = 201 := rfl
theorem lc_77 : ly_c 77 = 7 := rfl
theorem lv_77_0 {σ : am_M} : ly_v σ 77 0 = .ref 70 := rfl
theorem lv_77_1 {σ : am_M} : ly_v σ 77 1 = .ref 4 := rfl
theorem lc_78 : ly_c 78 = 5 := rfl
theorem lv_78_0 {σ : am_M} : ly_v σ 78 0 = .ref 70 := rfl
theorem lv_78_1 {σ : am_M} : ly_v σ 78 1 = .ref 4 := rfl
theorem lv_78_2 {σ : am_M} : ly_v σ 78 2 = .ref 79 := rfl
theorem lv_78_3 {σ : am_M} : ly_v σ 78 3 = .int (σ.1 78 3) := rfl
theorem li_78_3 : ly_i 78 5 3 := ⟨rfl, rfl, rfl⟩
theorem lv_78_4 {σ : am_M} : ly_v σ 78 4 = .int (σ.1 78 4) := rfl
theorem li_78_4 : ly_i 78 5 4 := ⟨rfl, rfl, rfl⟩
theorem lv_78_5 {σ : am_M} : ly_v σ 78 5 = .int (σ.1 78 5) := rfl
theorem li_78_5 : ly_i 78 5 5 := ⟨rfl, rfl, rfl⟩
theorem lv_78_6 {σ : am_M} : ly_v σ 78 6 = .int (σ.1 78 6) := rfl
theorem li_78_6 : ly_i 78 5 6 := ⟨rfl, rfl, rfl⟩
theorem lc_79 : ly_c 79 = 13 := rfl
theorem ln_79 : ly_n 79 = 200 := rfl
theorem lc_80 : ly_c 80 = 12 := rfl
theorem lv_80_0 {σ : am_M} : ly_v σ 80 0 = .ref 81 := rfl
theorem lv_80_1 {σ : am_M} : ly_v σ 80 1 = .ref 90 := rfl
theorem lv_80_2 {σ : am_M} : ly_v σ 80 2 = .ref 91 := rfl
theorem lv_80_3 {σ : am_M} : ly_v σ 80 3 = .ref 92 := rfl
theorem lv_80_4 {σ : am_M} : ly_v σ 80 4 = .ref 101 := rfl
theorem lv_80_5 {σ : am_M} : ly_v σ 80 5 = .ref 102 := rfl
theorem lv_80_6 {σ : am_M} : ly_v σ 80 6 = .int (σ.1 80 6) := rfl
theorem li_80_6 : ly_i 80 12 6 := ⟨rfl, rfl, rfl⟩
theorem lv_80_7 {σ : am_M} : ly_v σ 80 7 = .int (σ.1 80 7) := rfl
theorem li_80_7 : ly_i 80 12 7 := ⟨rfl, rfl, rfl⟩
theorem lv_80_8 {σ : am_M} : ly_v σ 80 8 = .ref 103 := rfl
theorem lv_80_9 {σ : am_M} : ly_v σ 80 9 = .ref 306 := rfl
theorem lv_80_10 {σ : am_M} : ly_v σ 80 10 = .ref 307 := rfl
theorem lv_80_11 {σ : am_M} : ly_v σ 80 11 = .ref 308 := rfl
theorem lv_80_12 {σ : am_M} : ly_v σ 80 12 = .ref 309 := rfl
theorem lv_80_13 {σ : am_M} : ly_v σ 80 13 = .ref 310 := rfl
theorem lv_80_14 {σ : am_M} : ly_v σ 80 14 = .int (σ.1 80 14) := rfl
theorem li_80_14 : ly_i 80 12 14 := ⟨rfl, rfl, rfl⟩
theorem lv_80_15 {σ : am_M} : ly_v σ 80 15 = .ref 311 := rfl
theorem lv_80_16 {σ : am_M} : ly_v σ 80 16 = .int (σ.1 80 16) := rfl
theorem li_80_16 : ly_i 80 12 16 := ⟨rfl, rfl, rfl⟩
theorem lv_80_17 {σ : am_M} : ly_v σ 80 17 = .ref 312 := rfl
theorem lv_80_18 {σ : am_M} : ly_v σ 80 18 = .ref 313 := rfl
theorem lv_80_19 {σ : am_M} : ly_v σ 80 19 = .ref 314 := rfl
theorem lv_80_20 {σ : am_M} : ly_v σ 80 20 = .ref 315 := rfl
theorem lv_80_21 {σ : am_M} : ly_v σ 80 21 = .ref 316 := rfl
theorem lv_80_22 {σ : am_M} : ly_v σ 80 22 = .ref 317 := rfl
theorem lv_80_23 {σ : am_M} : ly_v σ 80 23 = .ref 318 := rfl
theorem lv_80_24 {σ : am_M} : ly_v σ 80 24 = .int (σ.1 80 24) := rfl
theorem li_80_24 : ly_i 80 12 24 := ⟨rfl, rfl, rfl⟩
theorem lv_80_25 {σ : am_M} : ly_v σ 80 25 = .ref 319 := rfl
theorem lv_80_26 {σ : am_M} : ly_v σ 80 26 = .ref 320 := rfl
theorem lv_80_27 {σ : am_M} : ly_v σ 80 27 = .ref 321 := rfl
theorem lv_80_28 {σ : am_M} : ly_v σ 80 28 = .int (σ.1 80 28) := rfl
theorem li_80_28 : ly_i 80 12 28 := ⟨rfl, rfl, rfl⟩
theorem lv_80_29 {σ : am_M} : ly_v σ 80 29 = .int (σ.1 80 29) := rfl
theorem li_80_29 : ly_i 80 12 29 := ⟨rfl, rfl, rfl⟩
theorem lv_80_30 {σ : am_M} : ly_v σ 80 30 = .int (σ.1 80 30) := rfl
theorem li_80_30 : ly_i 80 12 30 := ⟨rfl, rfl, rfl⟩
theorem lv_80_31 {σ : am_M} : ly_v σ 80 31 = .int (σ.1 80 31) := rfl
theorem li_80_31 : ly_i 80 12 31 := ⟨rfl, rfl, rfl⟩
theorem lv_80_32 {σ : am_M} : ly_v σ 80 32 = .int (σ.1 80 32) := rfl
theorem li_80_32 : ly_i 80 12 32 := ⟨rfl, rfl, rfl⟩
theorem lv_80_33 {σ : am_M} : ly_v σ 80 33 = .int (σ.1 80 33) := rfl
theorem li_80_33 : ly_i 80 12 33 := ⟨rfl, rfl, rfl⟩
theorem lv_80_34 {σ : am_M} : ly_v σ 80 34 = .int (σ.1 80 34) := rfl
theorem li_80_34 : ly_i 80 12 34 := ⟨rfl, rfl, rfl⟩
theorem lv_80_35 {σ : am_M} : ly_v σ 80 35 = .int (σ.1 80 35) := rfl
theorem li_80_35 : ly_i 80 12 35 := ⟨rfl, rfl, rfl⟩
theorem lv_80_36 {σ : am_M} : ly_v σ 80 36 = .int (σ.1 80 36) := rfl
theorem li_80_36 : ly_i 80 12 36 := ⟨rfl, rfl, rfl⟩
theorem lv_80_37 {σ : am_M} : ly_v σ 80 37 = .int (σ.1 80 37) := rfl
theorem li_80_37 : ly_i 80 12 37 := ⟨rfl, rfl, rfl⟩
theorem lv_80_38 {σ : am_M} : ly_v σ 80 38 = .ref 322 := rfl
theorem lv_80_39 {σ : am_M} : ly_v σ 80 39 = .int (σ.1 80 39) := rfl
theorem li_80_39 : ly_i 80 12 39 := ⟨rfl, rfl, rfl⟩
theorem lv_80_40 {σ : am_M} : ly_v σ 80 40 = .int (σ.1 80 40) := rfl
theorem li_80_40 : ly_i 80 12 40 := ⟨rfl, rfl, rfl⟩
theorem lv_80_41 {σ : am_M} : ly_v σ 80 41 = .ref 323 := rfl
theorem lv_80_42 {σ : am_M} : ly_v σ 80 42 = .ref 324 := rfl
theorem lv_80_43 {σ : am_M} : ly_v σ 80 43 = .ref 325 := rfl
theorem lv_80_44 {σ : am_M} : ly_v σ 80 44 = .ref 326 := rfl
theorem lv_80_45 {σ : am_M} : ly_v σ 80 45 = .ref 327 := rfl
theorem lv_80_46 {σ : am_M} : ly_v σ 80 46 = .ref 328 := rfl
theorem lv_80_47 {σ : am_M} : ly_v σ 80 47 = .int (σ.1 80 47) := rfl
theorem li_80_47 : ly_i 80 12 47 := ⟨rfl, rfl, rfl⟩
theorem lv_80_48 {σ : am_M} : ly_v σ 80 48 = .int (σ.1 80 48) := rfl
theorem li_80_48 : ly_i 80 12 48 := ⟨rfl, rfl, rfl⟩
theorem lv_80_49 {σ : am_M} : ly_v σ 80 49 = .int (σ.1 80 49) := rfl
theorem li_80_49 : ly_i 80 12 49 := ⟨rfl, rfl, rfl⟩
theorem lv_80_50 {σ : am_M} : ly_v σ 80 50 = .ref 329 := rfl
theorem lv_80_51 {σ : am_M} : ly_v σ 80 51 = .ref 330 := rfl
theorem lc_81 : ly_c 81 = 17 := rfl
theorem ln_81 : ly_n 81 = 8 := rfl
theorem lc_82 : ly_c 82 = 14 := rfl
theorem ln_82 : ly_n 82 = 2000 := rfl
theorem lc_83 : ly_c 83 = 14 := rfl
theorem ln_83 : ly_n 83 = 2000 := rfl
theorem lc_84 : ly_c 84 = 14 := rfl
theorem ln_84 : ly_n 84 = 2000 := rfl
theorem lc_85 : ly_c 85 = 14 := rfl
theorem ln_85 : ly_n 85 = 2000 := rfl
theorem lc_86 : ly_c 86 = 14 := rfl
theorem ln_86 : ly_n 86 = 2000 := rfl
theorem lc_87 : ly_c 87 = 14 := rfl
theorem ln_87 : ly_n 87 = 2000 := rfl
theorem lc_88 : ly_c 88 = 14 := rfl
theorem ln_88 : ly_n 88 = 2000 := rfl
theorem lc_89 : ly_c 89 = 14 := rfl
theorem ln_89 : ly_n 89 = 2000 := rfl
theorem lc_90 : ly_c 90 = 13 := rfl
theorem ln_90 : ly_n 90 = 8 := rfl
theorem lc_91 : ly_c 91 = 13 := rfl
theorem ln_91 : ly_n 91 = 8 := rfl
theorem lc_92 : ly_c 92 = 16 := rfl
theorem ln_92 : ly_n 92 = 8 := rfl
theorem lc_93 : ly_c 93 = 13 := rfl
theorem ln_93 : ly_n 93 = 202 := rfl
theorem lc_94 : ly_c 94 = 13 := rfl
theorem ln_94 : ly_n 94 = 202 := rfl
theorem lc_95 : ly_c 95 = 13 := rfl
theorem ln_95 : ly_n 95 = 202 := rfl
theorem lc_96 : ly_c 96 = 13 := rfl
theorem ln_96 : ly_n 96 = 202 := rfl
theorem lc_97 : ly_c 97 = 13 := rfl
theorem ln_97 : ly_n 97 = 202 := rfl
theorem lc_98 : ly_c 98 = 13 := rfl
theorem ln_98 : ly_n 98 = 202 := rfl
theorem lc_99 : ly_c 99 = 13 := rfl
theorem ln_99 : ly_n 99 = 202 := rfl
theorem lc_100 : ly_c 100 = 13 := rfl
theorem ln_100 : ly_n 100 = 202 := rfl
theorem lc_101 : ly_c 101 = 14 := rfl
theorem ln_101 : ly_n 101 = 6000 := rfl
theorem lc_102 : ly_c 102 = 14 := rfl
theorem ln_102 : ly_n 102 = 20000 := rfl
theorem lc_103 : ly_c 103 = 16 := rfl
theorem ln_103 : ly_n 103 = 202 := rfl
theorem lc_306 : ly_c 306 = 13 := rfl
theorem ln_306 : ly_n 306 = 201 := rfl
theorem lc_307 : ly_c 307 = 13 := rfl
theorem ln_307 : ly_n 307 = 401 := rfl
theorem lc_308 : ly_c 308 = 13 := rfl
theorem ln_308 : ly_n 308 = 401 := rfl
theorem lc_309 : ly_c 309 = 13 := rfl
theorem ln_309 : ly_n 309 = 401 := rfl
theorem lc_310 : ly_c 310 = 13 := rfl
theorem ln_310 : ly_n 310 = 401 := rfl
theorem lc_311 : ly_c 311 = 13 := rfl
theorem ln_311 : ly_n 311 = 6002 := rfl
theorem lc_312 : ly_c 312 = 13 := rfl
theorem ln_312 : ly_n 312 = 6000 := rfl
theorem lc_313 : ly_c 313 = 13 := rfl
theorem ln_313 : ly_n 313 = 6000 := rfl
theorem lc_314 : ly_c 314 = 13 := rfl
theorem ln_314 : ly_n 314 = 6000 := rfl
theorem lc_315 : ly_c 315 = 13 := rfl
theorem ln_315 : ly_n 315 = 6000 := rfl
theorem lc_316 : ly_c 316 = 13 := rfl
theorem ln_316 : ly_n 316 = 6000 := rfl
theorem lc_317 : ly_c 317 = 13 := rfl
theorem ln_317 : ly_n 317 = 6000 := rfl
theorem lc_318 : ly_c 318 = 13 := rfl
theorem ln_318 : ly_n 318 = 6000 := rfl
theorem lc_319 : ly_c 319 = 13 := rfl
theorem ln_319 : ly_n 319 = 6000 := rfl
theorem lc_320 : ly_c 320 = 13 := rfl
theorem ln_320 : ly_n 320 = 6000 := rfl
theorem lc_321 : ly_c 321 = 13 := rfl
theorem ln_321 : ly_n 321 = 6000 := rfl
theorem lc_322 : ly_c 322 = 14 := rfl
theorem ln_322 : ly_n 322 = 9000 := rfl
theorem lc_323 : ly_c 323 = 13 := rfl
theorem ln_323 : ly_n 323 = 6000 := rfl
theorem lc_324 : ly_c 324 = 13 := rfl
theorem ln_324 : ly_n 324 = 6000 := rfl
theorem lc_325 : ly_c 325 = 13 := rfl
theorem ln_325 : ly_n 325 = 6000 := rfl
theorem lc_326 : ly_c 326 = 13 := rfl
theorem ln_326 : ly_n 326 = 6000 := rfl
theorem lc_327 : ly_c 327 = 13 := rfl
theorem ln_327 : ly_n 327 = 6000 := rfl
theorem lc_328 : ly_c 328 = 13 := rfl
theorem ln_328 : ly_n 328 = 6000 := rfl
theorem lc_329 : ly_c 329 = 13 := rfl
theorem ln_329 : ly_n 329 = 201 := rfl
theorem lc_330 : ly_c 330 = 13 := rfl
theorem ln_330 : ly_n 330 = 201 := rfl
theorem lc_tab {i : Nat} (h : i < 202) : ly_c (103 + 1 + i) = 13 ∧ ly_n (103 + 1 + i) = 202 := by
  have h1 : ∀ i, i < 202 → ly_c (103 + 1 + i) = 13 ∧ ly_n (103 + 1 + i) = 202 := by decide +kernel
  exact h1 i h
theorem lc_txt {i : Nat} (h : i < 8) : (ly_c (81 + 1 + i) = 14 ∧ ly_n (81 + 1 + i) = 2000) ∧ (ly_c (92 + 1 + i) = 13 ∧ ly_n (92 + 1 + i) = 202) := by
  have h1 : ∀ i, i < 8 → (ly_c (81 + 1 + i) = 14 ∧ ly_n (81 + 1 + i) = 2000) ∧ (ly_c (92 + 1 + i) = 13 ∧ ly_n (92 + 1 + i) = 202) := by decide +kernel
  exact h1 i h
/-- a row of bytes at a, its contents behind it -/
def is_B (a : Nat) : Prop := ly_c a = 1 ∧ ly_c (a + 1) = 14 ∧ (∀ σ, ly_v σ a 0 = .ref (a + 1)) ∧ ly_i a 1 1 ∧ ly_i a 1 2 ∧ ly_i a 1 3
theorem is_B_2 : is_B 2 := ⟨rfl, rfl, fun _ => rfl, ⟨rfl, rfl, rfl⟩, ⟨rfl, rfl, rfl⟩, ⟨rfl, rfl, rfl⟩⟩
theorem is_B_4 : is_B 4 := ⟨rfl, rfl, fun _ => rfl, ⟨rfl, rfl, rfl⟩, ⟨rfl, rfl, rfl⟩, ⟨rfl, rfl, rfl⟩⟩
theorem is_B_20 : is_B 20 := ⟨rfl, rfl, fun _ => rfl, ⟨rfl, rfl, rfl⟩, ⟨rfl, rfl, rfl⟩, ⟨rfl, rfl, rfl⟩⟩
/-- a text at a: its bytes, starts, sums -/
def is_T (a : Nat) : Prop := ly_c a = 9 ∧ is_B (a + 1) ∧ (ly_c (a + 3) = 13 ∧ ly_c (a + 4) = 13) ∧ (ly_n (a + 2) = 2000 ∧ ly_n (a + 3) = 200 ∧ ly_n (a + 4) = 200) ∧ (∀ σ, ly_v σ a 0 = .ref (a + 1) ∧ ly_v σ a 1 = .ref (a + 3) ∧ ly_v σ a 2 = .ref (a + 4)) ∧ ly_i a 9 3 ∧ ly_i a 9 4
theorem is_T_at {i : Nat} (h : i < 8) : is_T (30 + 5 * i) := by
  have h1 : i = 0 ∨ i = 1 ∨ i = 2 ∨ i = 3 ∨ i = 4 ∨ i = 5 ∨ i = 6 ∨ i = 7 := by omega
  rcases h1 with rfl | rfl | rfl | rfl | rfl | rfl | rfl | rfl <;> exact ⟨rfl, ⟨rfl, rfl, fun _ => rfl, ⟨rfl, rfl, rfl⟩, ⟨rfl, rfl, rfl⟩, ⟨rfl, rfl, rfl⟩⟩, ⟨rfl, rfl⟩, ⟨rfl, rfl, rfl⟩, fun _ => ⟨rfl, rfl, rfl⟩, ⟨rfl, rfl, rfl⟩, ⟨rfl, rfl, rfl⟩⟩
theorem wf_1 {σ : am_M} {a k b j : Nat} {v : Int32} : (wf σ a k v).1 b j = if b = a ∧ j = k then v else σ.1 b j := rfl
theorem wf_2 {σ : am_M} {a k : Nat} {v : Int32} : (wf σ a k v).2 = σ.2 := rfl
theorem wa_1 {σ : am_M} {a : Nat} {f : Nat → Int32} : (wa σ a f).1 = σ.1 := rfl
theorem wa_2 {σ : am_M} {a b : Nat} {f : Nat → Int32} : (wa σ a f).2.1 b = if b = a then f else σ.2.1 b := rfl
theorem wa_3 {σ : am_M} {a : Nat} {f : Nat → Int32} : (wa σ a f).2.2 = σ.2.2 := rfl
theorem wr_1 {σ : am_M} {j r : Nat} : (wr σ j r).1 = σ.1 := rfl
theorem wr_2 {σ : am_M} {j r : Nat} : (wr σ j r).2.1 = σ.2.1 := rfl
theorem wr_3 {σ : am_M} {i j r : Nat} : (wr σ j r).2.2 i = if i = j then r else σ.2.2 i := rfl
theorem fns_rt {S : List Nat} {X : am_X} {m : Nat} {ls : am_L} {H : am_H} {Q : Option Value → am_H → Prop} {v : Option Value} : am_fns S X m ls H Q (some (.inr (.inl v))) = Q v H := rfl
theorem fns_cl {S : List Nat} {X : am_X} {m : Nat} {ls : am_L} {H : am_H} {Q : Option Value → am_H → Prop} {k pc' : Nat} {as r : List Value} : am_fns S X m ls H Q (some (.inr (.inr (k, as, pc', r)))) = am_Go X k 0 (am_entry (am_ml k) as) [] H (fun v H1 => am_Go X m pc' ls (am_push v r) H1 Q) := rfl
theorem ty_pi {σ : am_M} {n sl a c k pc : Nat} {v : Int32} {ls : am_L} {r : List Value} (h : ly_i a c k) (hc : c < 13) (hk : k < am_nf c) : am_putf .int c k pc ls (.int v :: .ref a :: r) (n, sl, hp σ) = am_nx (pc + 3) ls r (n, sl, hp (wf σ a k v)) := ty_put h hc hk rfl
theorem ty_p0 {σ : am_M} {n sl a c k pc : Nat} {ls : am_L} {r : List Value} (h : ly_i a c k) (hc : c < 13) (hk : k < am_nf c) : am_putf .boolean c k pc ls (.int 0 :: .ref a :: r) (n, sl, hp σ) = am_nx (pc + 3) ls r (n, sl, hp (wf σ a k 0)) := ty_put h hc hk rfl
theorem ty_p1 {σ : am_M} {n sl a c k pc : Nat} {ls : am_L} {r : List Value} (h : ly_i a c k) (hc : c < 13) (hk : k < am_nf c) : am_putf .boolean c k pc ls (.int 1 :: .ref a :: r) (n, sl, hp σ) = am_nx (pc + 3) ls r (n, sl, hp (wf σ a k 1)) := ty_put h hc hk rfl
theorem ty_pb {σ : am_M} {n sl a c k pc : Nat} {v : Int32} {ls : am_L} {r : List Value} (hv : v = 0 ∨ v = 1) (h : ly_i a c k) (hc : c < 13) (hk : k < am_nf c) : am_putf .boolean c k pc ls (.int v :: .ref a :: r) (n, sl, hp σ) = am_nx (pc + 3) ls r (n, sl, hp (wf σ a k v)) := ty_put h hc hk (by rcases hv with rfl | rfl <;> rfl)
theorem fit_i {v : Int32} : am_fit .int (.int v) = true := rfl
theorem fit_0 : am_fit .boolean (.int 0) = true := rfl
theorem fit_1 : am_fit .boolean (.int 1) = true := rfl
theorem fit_b {v : Int32} (h : v = 0 ∨ v = 1) : am_fit .boolean (.int v) = true := by rcases h with rfl | rfl <;> rfl
/-- a heap of the two objects' -/
abbrev hh (σ : am_M) : am_H := (am_NC, am_NL, hp σ)
theorem ty_c1 {σ : am_M} {n sl a c k pc : Nat} {r : List Value} (h : ly_c a = c) (hc : c < 13) (hr : r.length ≤ 8) : am_call (some c) k 1 pc (.ref a :: r) (n, sl, hp σ) = some (.inr (.inr (k, [.ref a], pc + 3, r))) := ty_call (as := []) h hc rfl ⟨by simp only [List.length_cons]; omega, hr⟩
theorem ty_c2 {σ : am_M} {n sl a c k pc : Nat} {x1 : Value} {r : List Value} (h : ly_c a = c) (hc : c < 13) (hr : r.length ≤ 8) : am_call (some c) k 2 pc (x1 :: .ref a :: r) (n, sl, hp σ) = some (.inr (.inr (k, [.ref a, x1], pc + 3, r))) := ty_call (as := [x1]) h hc rfl ⟨by simp only [List.length_cons]; omega, hr⟩
theorem ty_c3 {σ : am_M} {n sl a c k pc : Nat} {x1 x2 : Value} {r : List Value} (h : ly_c a = c) (hc : c < 13) (hr : r.length ≤ 8) : am_call (some c) k 3 pc (x2 :: x1 :: .ref a :: r) (n, sl, hp σ) = some (.inr (.inr (k, [.ref a, x1, x2], pc + 3, r))) := ty_call (as := [x1, x2]) h hc rfl ⟨by simp only [List.length_cons]; omega, hr⟩
theorem ty_c4 {σ : am_M} {n sl a c k pc : Nat} {x1 x2 x3 : Value} {r : List Value} (h : ly_c a = c) (hc : c < 13) (hr : r.length ≤ 8) : am_call (some c) k 4 pc (x3 :: x2 :: x1 :: .ref a :: r) (n, sl, hp σ) = some (.inr (.inr (k, [.ref a, x1, x2, x3], pc + 3, r))) := ty_call (as := [x1, x2, x3]) h hc rfl ⟨by simp only [List.length_cons]; omega, hr⟩
theorem ty_c5 {σ : am_M} {n sl a c k pc : Nat} {x1 x2 x3 x4 : Value} {r : List Value} (h : ly_c a = c) (hc : c < 13) (hr : r.length ≤ 8) : am_call (some c) k 5 pc (x4 :: x3 :: x2 :: x1 :: .ref a :: r) (n, sl, hp σ) = some (.inr (.inr (k, [.ref a, x1, x2, x3, x4], pc + 3, r))) := ty_call (as := [x1, x2, x3, x4]) h hc rfl ⟨by simp only [List.length_cons]; omega, hr⟩
theorem ty_c6 {σ : am_M} {n sl a c k pc : Nat} {x1 x2 x3 x4 x5 : Value} {r : List Value} (h : ly_c a = c) (hc : c < 13) (hr : r.length ≤ 8) : am_call (some c) k 6 pc (x5 :: x4 :: x3 :: x2 :: x1 :: .ref a :: r) (n, sl, hp σ) = some (.inr (.inr (k, [.ref a, x1, x2, x3, x4, x5], pc + 3, r))) := ty_call (as := [x1, x2, x3, x4, x5]) h hc rfl ⟨by simp only [List.length_cons]; omega, hr⟩
theorem ty_c7 {σ : am_M} {n sl a c k pc : Nat} {x1 x2 x3 x4 x5 x6 : Value} {r : List Value} (h : ly_c a = c) (hc : c < 13) (hr : r.length ≤ 8) : am_call (some c) k 7 pc (x6 :: x5 :: x4 :: x3 :: x2 :: x1 :: .ref a :: r) (n, sl, hp σ) = some (.inr (.inr (k, [.ref a, x1, x2, x3, x4, x5, x6], pc + 3, r))) := ty_call (as := [x1, x2, x3, x4, x5, x6]) h hc rfl ⟨by simp only [List.length_cons]; omega, hr⟩
theorem ty_c8 {σ : am_M} {n sl a c k pc : Nat} {x1 x2 x3 x4 x5 x6 x7 : Value} {r : List Value} (h : ly_c a = c) (hc : c < 13) (hr : r.length ≤ 8) : am_call (some c) k 8 pc (x7 :: x6 :: x5 :: x4 :: x3 :: x2 :: x1 :: .ref a :: r) (n, sl, hp σ) = some (.inr (.inr (k, [.ref a, x1, x2, x3, x4, x5, x6, x7], pc + 3, r))) := ty_call (as := [x1, x2, x3, x4, x5, x6, x7]) h hc rfl ⟨by simp only [List.length_cons]; omega, hr⟩
theorem ty_c9 {σ : am_M} {n sl a c k pc : Nat} {x1 x2 x3 x4 x5 x6 x7 x8 : Value} {r : List Value} (h : ly_c a = c) (hc : c < 13) (hr : r.length ≤ 8) : am_call (some c) k 9 pc (x8 :: x7 :: x6 :: x5 :: x4 :: x3 :: x2 :: x1 :: .ref a :: r) (n, sl, hp σ) = some (.inr (.inr (k, [.ref a, x1, x2, x3, x4, x5, x6, x7, x8], pc + 3, r))) := ty_call (as := [x1, x2, x3, x4, x5, x6, x7, x8]) h hc rfl ⟨by simp only [List.length_cons]; omega, hr⟩
theorem ty_c10 {σ : am_M} {n sl a c k pc : Nat} {x1 x2 x3 x4 x5 x6 x7 x8 x9 : Value} {r : List Value} (h : ly_c a = c) (hc : c < 13) (hr : r.length ≤ 8) : am_call (some c) k 10 pc (x9 :: x8 :: x7 :: x6 :: x5 :: x4 :: x3 :: x2 :: x1 :: .ref a :: r) (n, sl, hp σ) = some (.inr (.inr (k, [.ref a, x1, x2, x3, x4, x5, x6, x7, x8, x9], pc + 3, r))) := ty_call (as := [x1, x2, x3, x4, x5, x6, x7, x8, x9]) h hc rfl ⟨by simp only [List.length_cons]; omega, hr⟩
theorem ty_s0 {H : am_H} {k pc : Nat} {r : List Value} (hr : r.length ≤ 8) : am_call none k 0 pc (r) H = some (.inr (.inr (k, [], pc + 3, r))) := by
  unfold am_call
  rw [if_pos ⟨by (try simp only [List.length_cons]); omega, hr⟩]
  rfl
theorem ty_s1 {H : am_H} {k pc : Nat} {x1 : Value} {r : List Value} (hr : r.length ≤ 8) : am_call none k 1 pc (x1 :: r) H = some (.inr (.inr (k, [x1], pc + 3, r))) := by
  unfold am_call
  rw [if_pos ⟨by (try simp only [List.length_cons]); omega, hr⟩]
  rfl
theorem ty_s2 {H : am_H} {k pc : Nat} {x1 x2 : Value} {r : List Value} (hr : r.length ≤ 8) : am_call none k 2 pc (x2 :: x1 :: r) H = some (.inr (.inr (k, [x1, x2], pc + 3, r))) := by
  unfold am_call
  rw [if_pos ⟨by (try simp only [List.length_cons]); omega, hr⟩]
  rfl
theorem ty_s3 {H : am_H} {k pc : Nat} {x1 x2 x3 : Value} {r : List Value} (hr : r.length ≤ 8) : am_call none k 3 pc (x3 :: x2 :: x1 :: r) H = some (.inr (.inr (k, [x1, x2, x3], pc + 3, r))) := by
  unfold am_call
  rw [if_pos ⟨by (try simp only [List.length_cons]); omega, hr⟩]
  rfl
theorem ty_s4 {H : am_H} {k pc : Nat} {x1 x2 x3 x4 : Value} {r : List Value} (hr : r.length ≤ 8) : am_call none k 4 pc (x4 :: x3 :: x2 :: x1 :: r) H = some (.inr (.inr (k, [x1, x2, x3, x4], pc + 3, r))) := by
  unfold am_call
  rw [if_pos ⟨by (try simp only [List.length_cons]); omega, hr⟩]
  rfl
theorem ty_s5 {H : am_H} {k pc : Nat} {x1 x2 x3 x4 x5 : Value} {r : List Value} (hr : r.length ≤ 8) : am_call none k 5 pc (x5 :: x4 :: x3 :: x2 :: x1 :: r) H = some (.inr (.inr (k, [x1, x2, x3, x4, x5], pc + 3, r))) := by
  unfold am_call
  rw [if_pos ⟨by (try simp only [List.length_cons]); omega, hr⟩]
  rfl
theorem ty_s6 {H : am_H} {k pc : Nat} {x1 x2 x3 x4 x5 x6 : Value} {r : List Value} (hr : r.length ≤ 8) : am_call none k 6 pc (x6 :: x5 :: x4 :: x3 :: x2 :: x1 :: r) H = some (.inr (.inr (k, [x1, x2, x3, x4, x5, x6], pc + 3, r))) := by
  unfold am_call
  rw [if_pos ⟨by (try simp only [List.length_cons]); omega, hr⟩]
  rfl
