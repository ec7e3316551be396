/-! length() and charAt() of a text constant -/
section AMT
variable {l : Launch} {z a v : Nat} {bs : List Int32}
/-- what String's own methods find -/
def am_TX (z a v : Nat) (bs : List Int32) (U : State) : Prop := am_SO z a v bs U ∧ va_Z "java/lang/String" "COMPACT_STRINGS" "Z" (.int 1) (fun q => z ≤ q) U U.heap ∧ va_Zq "jdk/internal/util/Preconditions" "SIOOBE_FORMATTER" "Ljava/util/function/BiFunction;" (fun q => z ≤ q) U U.heap
theorem am_TX.at {U V : State} (h : am_TX z a v bs U) (hvm : U.vm.Alike V.vm) (hh : V.heap = U.heap) : am_TX z a v bs V := by
  obtain ⟨⟨h1, h2, h3, h4⟩, h5, h6⟩ := h
  unfold am_TX am_SO
  rw [hh]
  exact ⟨⟨h1.moved hvm, h2.moved hvm, h3.moved hvm, h4.moved hvm⟩, h5.moved hvm, h6.moved hvm⟩
theorem am_gd {a b : List Cond} (ha : ∀ w ∈ a, w ∈ lw_g) (hb : ∀ w ∈ b, w ∈ lw_g) : GoodIn lw_g (a ++ b) := fun w h => lw_g_good w ((List.mem_append.mp h).elim (ha w) (hb w))
theorem am_gc {y : MethodName} {b : ByteArray} {n : Nat} {r : Option FieldType} (h : Cond.code y b n r ∈ lw_g) : ∀ w ∈ (Cond.code y b n r :: lw_g), w ∈ lw_g := fun w hw => (List.mem_cons.mp hw).elim (fun e => e ▸ h) id
abbrev am_r0 : Room := { frames := 0, cells := 0, slots := 0, locals := 0 }
theorem am_j_coder : Met l jy_coder (.code jy_coder jb_coder 1 (some .byte) :: lw_g) am_r0 (va_Pc [.ref a] (am_TX z a v bs)) (QcRead 0) 0 0 (fun _ => False) := by
  refine Met.ofW (cc := jb_coder) (maxL := 1) (ret := some .byte) (by decide) rfl ?_
  intro p e s m args below meth c s₁ B hml hv
  obtain ⟨rfl, hT⟩ := hv
  have hx := B.exec
  have hb := B.bytes
  have hr := B.returns
  have hts0 := atoms_spec (ws := .code jy_coder jb_coder 1 (some .byte) :: lw_g) B.pre
  have hts : ∀ w ∈ lw_g, w.before _ s = true := fun w h => hts0 w (List.mem_cons_of_mem _ h)
  have hown : s.vm.findClass "java/lang/String" = some m.cls := findClass_of_methodNamed B.named
  have hlocks := B.notSynchronized
  have hS : va_S (fun q => z ≤ q) s.heap s.heap [] := va_S.rf
  have hl := lv_entry ([.ref a]) (n := 1) (Nat.le_of_ble_eq_true rfl)
  rw [lg_entry_eq]
  generalize (lg_sl ([.ref a]) ++ List.replicate (1 - (lg_sl ([.ref a])).length) Slot.unset).toArray = ls at hl ⊢
  have hl : lv_has ls 1 [(0, .ref a)] := hl
  refine va_gets hx hb hT.2.1 hS hown (hts _ jw_f38) (fun _ h => h) jd_coder_0 ?_
  refine lv_if_eq (tgt := 13) hx hb jd_coder_3 (by decide) (fun h => absurd h (by decide)) (fun _ => ?_)
  refine lv_aload_n hx hb jd_coder_6 rfl (lv_at hl 0 rfl) ?_
  refine vk_getf hx hb hT.1.2.1 hS hown (hts _ jw_f15) (fun _ h => h) jd_coder_7 ?_
  refine lv_goto (tgt := 14) hx hb jd_coder_10 (by decide) ?_
  exact W.zret (v := 0) hx hb hr rfl (fun t ht _ => ⟨rfl, ht⟩) (fun q h => by cases h) jd_coder_14
theorem am_j_lat : Met l jy_lat (.code jy_lat jb_lat 1 (some .boolean) :: lw_g) am_r0 (va_Pc [.ref a] (am_TX z a v bs)) (QcRead 1) 0 0 (fun _ => False) := by
  refine Met.ofW (cc := jb_lat) (maxL := 1) (ret := some .boolean) (by decide) rfl ?_
  intro p e s m args below meth c s₁ B hml hv
  obtain ⟨rfl, hT⟩ := hv
  have hx := B.exec
  have hb := B.bytes
  have hr := B.returns
  have hts0 := atoms_spec (ws := .code jy_lat jb_lat 1 (some .boolean) :: lw_g) B.pre
  have hts : ∀ w ∈ lw_g, w.before _ s = true := fun w h => hts0 w (List.mem_cons_of_mem _ h)
  have hown : s.vm.findClass "java/lang/String" = some m.cls := findClass_of_methodNamed B.named
  have hlocks := B.notSynchronized
  have hS : va_S (fun q => z ≤ q) s.heap s.heap [] := va_S.rf
  have hl := lv_entry ([.ref a]) (n := 1) (Nat.le_of_ble_eq_true rfl)
  rw [lg_entry_eq]
  generalize (lg_sl ([.ref a]) ++ List.replicate (1 - (lg_sl ([.ref a])).length) Slot.unset).toArray = ls at hl ⊢
  have hl : lv_has ls 1 [(0, .ref a)] := hl
  refine va_gets hx hb hT.2.1 hS hown (hts _ jw_f38) (fun _ h => h) jd_lat_0 ?_
  refine lv_if_eq (tgt := 17) hx hb jd_lat_3 (by decide) (fun h => absurd h (by decide)) (fun _ => ?_)
  refine lv_aload_n hx hb jd_lat_6 rfl (lv_at hl 0 rfl) ?_
  refine vk_getf hx hb hT.1.2.1 hS hown (hts _ jw_f15) (fun _ h => h) jd_lat_7 ?_
  refine lv_if_ne (tgt := 17) hx hb jd_lat_10 (by decide) (fun h => absurd rfl h) (fun _ => ?_)
  refine lv_iconst (v := 1) hx hb jd_lat_13 (by decide) ?_
  refine lv_goto (tgt := 18) hx hb jd_lat_14 (by decide) ?_
  exact W.zret (v := 1) hx hb hr rfl (fun t ht _ => ⟨rfl, ht⟩) (fun q h => by cases h) jd_lat_18
theorem am_j_length : Met l jy_length (.code jy_length jb_length 1 (some .int) :: lw_g) { frames := 1, cells := 0, slots := 0, locals := 20 } (va_Pc [.ref a] (am_TX z a v bs)) (QcRead (Int32.ofNat bs.length)) 0 0 (fun _ => False) := by
  refine Met.ofW (cc := jb_length) (maxL := 1) (ret := some .int) (by decide) rfl ?_
  intro p e s m args below meth c s₁ B hml hv
  obtain ⟨rfl, hT⟩ := hv
  have hx := B.exec
  have hb := B.bytes
  have hr := B.returns
  have hts0 := atoms_spec (ws := .code jy_length jb_length 1 (some .int) :: lw_g) B.pre
  have hts : ∀ w ∈ lw_g, w.before _ s = true := fun w h => hts0 w (List.mem_cons_of_mem _ h)
  have hown : s.vm.findClass "java/lang/String" = some m.cls := findClass_of_methodNamed B.named
  have hlocks := B.notSynchronized
  have hS : va_S (fun q => z ≤ q) s.heap s.heap [] := va_S.rf
  have hl := lv_entry ([.ref a]) (n := 1) (Nat.le_of_ble_eq_true rfl)
  rw [lg_entry_eq]
  generalize (lg_sl ([.ref a]) ++ List.replicate (1 - (lg_sl ([.ref a])).length) Slot.unset).toArray = ls at hl ⊢
  have hl : lv_has ls 1 [(0, .ref a)] := hl
  refine lv_aload_n hx hb jd_length_0 rfl (lv_at hl 0 rfl) ?_
  refine vk_getf hx hb hT.1.2.2.1 hS hown (hts _ jw_f9) (fun _ h => h) jd_length_1 ?_
  refine va_tlen hx hb hT.1.2.2.2 hS rfl jd_length_4 ?_
  refine lv_aload_n hx hb jd_length_5 rfl (lv_at hl 0 rfl) ?_
  have hrc : ∃ cell : Cell, s.heap[a]? = some cell ∧ cell.vm.isStatics = false ∧ s.vm.findClass "java/lang/String" = some cell.cls := by
    obtain ⟨cell, h1, h2, h3, -⟩ := hT.1.1
    exact ⟨cell, h1, h2, h3⟩
  refine W.callR (r := 0) (rest := [.int (Int32.ofNat bs.length)]) (W.runV (As := []) (b := a) (C := "java/lang/String") (bytes := jb_coder) (maxL := 1) (ret := some .byte) (n := 0) ⟨hx, hb, hml, hown, hts⟩ (am_j_coder (z := z) (a := a) (v := v) (bs := bs)) (cwV 0 hts (am_gd (fun w hw => by
    simp only [List.mem_cons, List.not_mem_nil, or_false] at hw
    rcases hw with rfl | rfl | rfl | rfl
    · exact jw_m335
    · exact jw_nc
    · exact jw_sc
    · exact jw_iS) (am_gc jc_coder)) rfl rfl rfl (by decide +kernel) ⟨Nat.le_refl 1, Nat.le_refl 20⟩) ⟨fun x U g mk q => ⟨q.1, q.2.at (Vm.Alike.refl U.vm) rfl⟩, hrc, fun U hU hW => ⟨rfl, hT.at hW.alike hU⟩⟩ rfl rfl hl.1 rfl (lv_room (Nat.le_of_ble_eq_true rfl)) jd_length_6 ⟨Nat.le_refl 0, Nat.le_refl 0⟩) ?_
  refine lv_ishr hx hb jd_length_9 ?_
  have e0 : Int32.ofNat bs.length >>> ((0 : Int32) &&& 31) = Int32.ofNat bs.length := sb_shr0 _
  rw [e0]
  exact W.iret hx hb hr (fun t ht _ => ⟨rfl, ht⟩) (fun q h => by cases h) jd_length_10
/-- Preconditions.checkIndex of an index that is in range -/
theorem am_j_pci {i n : Int32} {fv : Value} (hc : fv = .null ∨ ∃ t, fv = .ref t) (h0 : ¬ i < 0) (h1 : i < n) : Met l jy_pci (.code jy_pci jb_pci 3 (some .int) :: lw_g) am_r0 (va_Pc [.int i, .int n, fv] (fun _ => True)) (QcRead i) 0 0 (fun _ => False) := by
  refine Met.ofW (cc := jb_pci) (maxL := 3) (ret := some .int) (by decide) rfl ?_
  intro p e s m args below meth c s₁ B hml hv
  obtain ⟨rfl, -⟩ := hv
  have hx := B.exec
  have hb := B.bytes
  have hr := B.returns
  have hlocks := B.notSynchronized
  have hsl : (lg_sl [.int i, .int n, fv]).length = 3 := by
    rcases hc with rfl | ⟨t, rfl⟩ <;> rfl
  have hl := lv_entry ([.int i, .int n, fv]) (n := 3) (Nat.le_of_eq hsl)
  rw [lg_entry_eq]
  generalize (lg_sl ([.int i, .int n, fv]) ++ List.replicate (3 - (lg_sl ([.int i, .int n, fv])).length) Slot.unset).toArray = ls at hl ⊢
  have hl : lv_has ls 3 [(0, .int i), (1, .int n)] := ⟨hl.1, hl.2.1, fun q hq => hl.2.2 q (by
    rcases hc with rfl | ⟨t, rfl⟩ <;> (simp only [List.mem_cons, List.not_mem_nil, or_false] at hq; rcases hq with rfl | rfl <;> simp [lv_args, Value.category]))⟩
  refine lv_iload_n hx hb jd_pci_0 rfl (lv_at hl 0 rfl) ?_
  refine lv_if_lt (tgt := 9) hx hb jd_pci_1 (by decide) (fun h => absurd h h0) (fun _ => ?_)
  refine lv_iload_n hx hb jd_pci_4 rfl (lv_at hl 0 rfl) ?_
  refine lv_iload_n hx hb jd_pci_5 rfl (lv_at hl 1 rfl) ?_
  refine lv_icmp_lt (tgt := 16) hx hb jd_pci_6 (by decide) (fun _ => ?_) (fun h => absurd h1 h)
  refine lv_iload_n hx hb jd_pci_16 rfl (lv_at hl 0 rfl) ?_
  exact W.iret hx hb hr (fun t ht _ => ⟨rfl, ht⟩) (fun q h => by cases h) jd_pci_17
def am_QV : Array Value → State → Outcome → State → Prop := fun _ st o t => o = .returned none ∧ t.heap = st.heap
theorem am_j_sci {i n : Int32} (h0 : ¬ i < 0) (h1 : i < n) : Met l jy_sci (.code jy_sci jb_sci 2 none :: lw_g) { frames := 1, cells := 0, slots := 0, locals := 22 } (va_Pc [.int i, .int n] (fun U => va_Zq "jdk/internal/util/Preconditions" "SIOOBE_FORMATTER" "Ljava/util/function/BiFunction;" (fun q => z ≤ q) U U.heap)) am_QV 0 0 (fun _ => False) := by
  refine Met.ofW (cc := jb_sci) (maxL := 2) (ret := none) (by decide) rfl ?_
  intro p e s m args below meth c s₁ B hml hv
  obtain ⟨rfl, hT⟩ := hv
  have hx := B.exec
  have hb := B.bytes
  have hr := B.returns
  have hts0 := atoms_spec (ws := .code jy_sci jb_sci 2 none :: lw_g) B.pre
  have hts : ∀ w ∈ lw_g, w.before _ s = true := fun w h => hts0 w (List.mem_cons_of_mem _ h)
  have hown : s.vm.findClass "java/lang/String" = some m.cls := findClass_of_methodNamed B.named
  have hlocks := B.notSynchronized
  have hS : va_S (fun q => z ≤ q) s.heap s.heap [] := va_S.rf
  have hl := lv_entry ([.int i, .int n]) (n := 2) (Nat.le_of_ble_eq_true rfl)
  rw [lg_entry_eq]
  generalize (lg_sl ([.int i, .int n]) ++ List.replicate (2 - (lg_sl ([.int i, .int n])).length) Slot.unset).toArray = ls at hl ⊢
  have hl : lv_has ls 2 [(0, .int i), (1, .int n)] := hl
  have key : ∀ fv : Value, (fv = .null ∨ ∃ t, fv = .ref t) → va_Z "jdk/internal/util/Preconditions" "SIOOBE_FORMATTER" "Ljava/util/function/BiFunction;" fv (fun q => z ≤ q) s s.heap → W p l e (headSpec (.code jy_sci jb_sci 2 none :: lw_g) { frames := 1, cells := 0, slots := 0, locals := 22 }).room s m [Value.int i, Value.int n].toArray below meth c s.heap [] 0 0 (MQ below am_QV [Value.int i, Value.int n].toArray s 0 0 (fun _ => False)) (F0 m 0 ls []) := by
    intro fv hfc hZ
    refine lv_iload_n hx hb jd_sci_0 rfl (lv_at hl 0 rfl) ?_
    refine lv_iload_n hx hb jd_sci_1 rfl (lv_at hl 1 rfl) ?_
    refine va_gets hx hb hZ hS hown (hts _ jw_f1053) (fun _ h => h) jd_sci_2 ?_
    refine W.callR (r := i) (rest := []) (W.runS (As := [.int i, .int n, fv]) (bytes := jb_pci) (maxL := 3) (ret := some .int) (n := 3) ⟨hx, hb, hml, hown, hts⟩ (am_j_pci hfc h0 h1) (va_cwS 3 hts (am_gd (fun w hw => by
      simp only [List.mem_cons, List.not_mem_nil, or_false] at hw
      rcases hw with rfl | rfl | rfl
      · exact jw_m1059
      · exact jw_tP
      · exact jw_iP) (am_gc jc_pci)) rfl rfl rfl (by decide +kernel) ⟨Nat.le_refl 1, Nat.le_refl 22⟩) ⟨fun _ _ _ _ q => q, fun U hU hW => ⟨rfl, trivial⟩⟩ rfl rfl hl.1 rfl (lv_room (by decide)) jd_sci_5 ⟨Nat.le_refl 0, Nat.le_refl 0⟩) ?_
    refine lv_pop hx hb jd_sci_8 rfl ?_
    exact W.vret hx hb hr (fun t ht _ => ⟨rfl, ht⟩) (fun q h => by cases h) jd_sci_9
  rcases hT with hZ | ⟨t, hZ⟩
  · exact key .null (Or.inl rfl) hZ
  · exact key (.ref t) (Or.inr ⟨t, rfl⟩) hZ
/-- a char that is a byte below 128 -/
theorem am_ch : ∀ k, k < 128 → ((((nI k) &&& 255).toUInt32 % 65536).toInt32 = nI k ∧ narrow .char (.int (nI k)) = .int (nI k)) := by decide +kernel
theorem am_j_lch {i : Int32} (hi : vp_in i bs.length) (hb7 : ∃ k, k < 128 ∧ bs.getD i.toNatClampNeg 0 = nI k) (hlen : bs.length < 2 ^ 31) : Met l jy_lch (.code jy_lch jb_lch 2 (some .char) :: lw_g) { frames := 2, cells := 0, slots := 0, locals := 43 } (va_Pc [.ref v, .int i] (am_TX z a v bs)) (QcRead (bs.getD i.toNatClampNeg 0)) 0 0 (fun _ => False) := by
  refine Met.ofW (cc := jb_lch) (maxL := 2) (ret := some .char) (by decide) rfl ?_
  intro p e s m args below meth c s₁ B hml hv
  obtain ⟨rfl, hT⟩ := hv
  have hx := B.exec
  have hb := B.bytes
  have hr := B.returns
  have hts0 := atoms_spec (ws := .code jy_lch jb_lch 2 (some .char) :: lw_g) B.pre
  have hts : ∀ w ∈ lw_g, w.before _ s = true := fun w h => hts0 w (List.mem_cons_of_mem _ h)
  have hown : s.vm.findClass "java/lang/StringLatin1" = some m.cls := findClass_of_methodNamed B.named
  have hlocks := B.notSynchronized
  have hS : va_S (fun q => z ≤ q) s.heap s.heap [] := va_S.rf
  have hl := lv_entry ([.ref v, .int i]) (n := 2) (Nat.le_of_ble_eq_true rfl)
  rw [lg_entry_eq]
  generalize (lg_sl ([.ref v, .int i]) ++ List.replicate (2 - (lg_sl ([.ref v, .int i])).length) Slot.unset).toArray = ls at hl ⊢
  have hl : lv_has ls 2 [(0, .ref v), (1, .int i)] := hl
  have h0 : ¬ i < 0 := fun q => hi (Or.inl q)
  have h1 : i < Int32.ofNat bs.length := by
    obtain ⟨j, hj, rfl⟩ := vp_in_of hi hlen
    exact nI_lt hj hlen
  refine lv_iload_n hx hb jd_lch_0 rfl (lv_at hl 1 rfl) ?_
  refine lv_aload_n hx hb jd_lch_1 rfl (lv_at hl 0 rfl) ?_
  refine va_tlen hx hb hT.1.2.2.2 hS rfl jd_lch_2 ?_
  refine W.callX (free := fun _ => False) (rest := []) (W.runS (As := [.int i, .int (Int32.ofNat bs.length)]) (bytes := jb_sci) (maxL := 2) (ret := none) (n := 2) ⟨hx, hb, hml, hown, hts⟩ (am_j_sci (z := z) h0 h1) (va_cwS 2 hts (am_gd (fun w hw => by
    simp only [List.mem_cons, List.not_mem_nil, or_false] at hw
    rcases hw with rfl | rfl | rfl
    · exact jw_m9
    · exact jw_tS
    · exact jw_iS) (am_gc jc_sci)) rfl rfl rfl (by decide +kernel) ⟨Nat.le_refl 2, Nat.le_refl 43⟩) ⟨fun x U g mk q => ⟨q.1, q.2.moved (Vm.Alike.refl U.vm)⟩, fun U hU hW => ⟨rfl, by dsimp only; rw [hU]; exact hT.2.2.moved hW.alike⟩⟩ rfl rfl hl.1 rfl (lv_room (by decide)) jd_lch_3 ⟨Nat.le_refl 0, Nat.le_refl 0⟩) (fun x h => h.elim) (fun v0 st0 t h0 hq => ?_)
  obtain ⟨ev, eh⟩ := hq
  cases ev
  rw [eh, h0]
  refine W.eq (g2 := F0 m 6 ls []) rfl ?_
  refine lv_aload_n hx hb jd_lch_6 rfl (lv_at hl 0 rfl) ?_
  refine lv_iload_n hx hb jd_lch_7 rfl (lv_at hl 1 rfl) ?_
  refine va_tb hx hb hT.1.2.2.2 hS hi rfl jd_lch_8 ?_
  refine lv_sipush (v := 255) hx hb jd_lch_9 (by decide) ?_
  refine lv_iand hx hb jd_lch_12 ?_
  obtain ⟨k, hk, ek⟩ := hb7
  rw [ek]
  refine lv_i2c (v := nI k) hx hb jd_lch_13 (am_ch k hk).1 ?_
  exact W.zret (v := nI k) hx hb hr (am_ch k hk).2 (fun t ht _ => ⟨rfl, ht⟩) (fun q h => by cases h) jd_lch_14
theorem am_j_sch {i : Int32} (hi : vp_in i bs.length) (hb7 : ∃ k, k < 128 ∧ bs.getD i.toNatClampNeg 0 = nI k) (hlen : bs.length < 2 ^ 31) : Met l jy_sch (.code jy_sch jb_sch 2 (some .char) :: lw_g) { frames := 3, cells := 0, slots := 0, locals := 64 } (va_Pc [.ref a, .int i] (am_TX z a v bs)) (QcRead (bs.getD i.toNatClampNeg 0)) 0 0 (fun _ => False) := by
  refine Met.ofW (cc := jb_sch) (maxL := 2) (ret := some .char) (by decide) rfl ?_
  intro p e s m args below meth c s₁ B hml hv
  obtain ⟨rfl, hT⟩ := hv
  have hx := B.exec
  have hb := B.bytes
  have hr := B.returns
  have hts0 := atoms_spec (ws := .code jy_sch jb_sch 2 (some .char) :: lw_g) B.pre
  have hts : ∀ w ∈ lw_g, w.before _ s = true := fun w h => hts0 w (List.mem_cons_of_mem _ h)
  have hown : s.vm.findClass "java/lang/String" = some m.cls := findClass_of_methodNamed B.named
  have hlocks := B.notSynchronized
  have hS : va_S (fun q => z ≤ q) s.heap s.heap [] := va_S.rf
  have hl := lv_entry ([.ref a, .int i]) (n := 2) (Nat.le_of_ble_eq_true rfl)
  rw [lg_entry_eq]
  generalize (lg_sl ([.ref a, .int i]) ++ List.replicate (2 - (lg_sl ([.ref a, .int i])).length) Slot.unset).toArray = ls at hl ⊢
  have hl : lv_has ls 2 [(0, .ref a), (1, .int i)] := hl
  have hrc : ∃ cell : Cell, s.heap[a]? = some cell ∧ cell.vm.isStatics = false ∧ s.vm.findClass "java/lang/String" = some cell.cls := by
    obtain ⟨cell, h1, h2, h3, -⟩ := hT.1.1
    exact ⟨cell, h1, h2, h3⟩
  refine lv_aload_n hx hb jd_sch_0 rfl (lv_at hl 0 rfl) ?_
  refine W.callR (r := 1) (rest := []) (W.runV (As := []) (b := a) (C := "java/lang/String") (bytes := jb_lat) (maxL := 1) (ret := some .boolean) (n := 0) ⟨hx, hb, hml, hown, hts⟩ (am_j_lat (z := z) (a := a) (v := v) (bs := bs)) (cwV 0 hts (am_gd (fun w hw => by
    simp only [List.mem_cons, List.not_mem_nil, or_false] at hw
    rcases hw with rfl | rfl | rfl | rfl
    · exact jw_m492
    · exact jw_nl
    · exact jw_sl
    · exact jw_iS) (am_gc jc_lat)) rfl rfl rfl (by decide +kernel) ⟨by decide, by decide⟩) ⟨fun x U g mk q => ⟨q.1, q.2.at (Vm.Alike.refl U.vm) rfl⟩, hrc, fun U hU hW => ⟨rfl, hT.at hW.alike hU⟩⟩ rfl rfl hl.1 rfl (lv_room (by decide)) jd_sch_1 ⟨Nat.le_refl 0, Nat.le_refl 0⟩) ?_
  refine W.eq (g2 := F0 m 4 ls [.int 1]) rfl ?_
  refine lv_if_eq (tgt := 16) hx hb jd_sch_4 (by decide) (fun h => absurd h (by decide)) (fun _ => ?_)
  refine lv_aload_n hx hb jd_sch_7 rfl (lv_at hl 0 rfl) ?_
  refine vk_getf hx hb hT.1.2.2.1 hS hown (hts _ jw_f9) (fun _ h => h) jd_sch_8 ?_
  refine lv_iload_n hx hb jd_sch_11 rfl (lv_at hl 1 rfl) ?_
  refine W.callR (r := bs.getD i.toNatClampNeg 0) (rest := []) (W.runS (As := [.ref v, .int i]) (bytes := jb_lch) (maxL := 2) (ret := some .char) (n := 2) ⟨hx, hb, hml, hown, hts⟩ (am_j_lch (z := z) (a := a) (v := v) (bs := bs) hi hb7 hlen) (va_cwS 2 hts (am_gd (fun w hw => by
    simp only [List.mem_cons, List.not_mem_nil, or_false] at hw
    rcases hw with rfl | rfl | rfl
    · exact jw_m495
    · exact jw_tL
    · exact jw_iL) (am_gc jc_lch)) rfl rfl rfl (by decide +kernel) ⟨by decide, by decide⟩) ⟨fun x U g mk q => ⟨q.1, q.2.at (Vm.Alike.refl U.vm) rfl⟩, fun U hU hW => ⟨rfl, hT.at hW.alike hU⟩⟩ rfl rfl hl.1 rfl (lv_room (by decide)) jd_sch_12 ⟨Nat.le_refl 0, Nat.le_refl 0⟩) ?_
  refine W.eq (g2 := F0 m 15 ls [.int (bs.getD i.toNatClampNeg 0)]) rfl ?_
  obtain ⟨k, hk, ek⟩ := hb7
  rw [ek]
  exact W.zret (v := nI k) hx hb hr (am_ch k hk).2 (fun t ht _ => ⟨rfl, ht⟩) (fun q h => by cases h) jd_sch_15
end AMT
