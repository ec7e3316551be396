/-! names of String's own methods that texts are read by -/
abbrev jb_coder : ByteArray := prog_16_method_152_code
def jy_coder : MethodName := ⟨"java/lang/String", "coder", "()B"⟩
set_option maxRecDepth 20000 in
theorem jc_coder : Cond.code jy_coder jb_coder 1 (some .byte) ∈ lw_g := lw_g_in (List.mem_of_getElem? (i := 694) rfl) rfl
theorem jd_coder_0 : decode jb_coder 0 = .ok (.getstatic 38, 3) := by decide +kernel
theorem jd_coder_3 : decode jb_coder 3 = .ok (.ifCond .eq 10, 3) := by decide +kernel
theorem jd_coder_6 : decode jb_coder 6 = .ok (.aload_n 0, 1) := by decide +kernel
theorem jd_coder_7 : decode jb_coder 7 = .ok (.getfield 15, 3) := by decide +kernel
theorem jd_coder_10 : decode jb_coder 10 = .ok (.goto 4, 3) := by decide +kernel
theorem jd_coder_13 : decode jb_coder 13 = .ok (.iconst 1, 1) := by decide +kernel
theorem jd_coder_14 : decode jb_coder 14 = .ok (.ireturn, 1) := by decide +kernel
abbrev jb_length : ByteArray := prog_16_method_54_code
def jy_length : MethodName := ⟨"java/lang/String", "length", "()I"⟩
set_option maxRecDepth 20000 in
theorem jc_length : Cond.code jy_length jb_length 1 (some .int) ∈ lw_g := lw_g_in (List.mem_of_getElem? (i := 690) rfl) rfl
theorem jd_length_0 : decode jb_length 0 = .ok (.aload_n 0, 1) := by decide +kernel
theorem jd_length_1 : decode jb_length 1 = .ok (.getfield 9, 3) := by decide +kernel
theorem jd_length_4 : decode jb_length 4 = .ok (.arraylength, 1) := by decide +kernel
theorem jd_length_5 : decode jb_length 5 = .ok (.aload_n 0, 1) := by decide +kernel
theorem jd_length_6 : decode jb_length 6 = .ok (.invokevirtual 335, 3) := by decide +kernel
theorem jd_length_9 : decode jb_length 9 = .ok (.ishr, 1) := by decide +kernel
theorem jd_length_10 : decode jb_length 10 = .ok (.ireturn, 1) := by decide +kernel
abbrev jb_lat : ByteArray := prog_16_method_154_code
def jy_lat : MethodName := ⟨"java/lang/String", "isLatin1", "()Z"⟩
set_option maxRecDepth 20000 in
theorem jc_lat : Cond.code jy_lat jb_lat 1 (some .boolean) ∈ lw_g := lw_g_in (List.mem_of_getElem? (i := 704) rfl) rfl
theorem jd_lat_0 : decode jb_lat 0 = .ok (.getstatic 38, 3) := by decide +kernel
theorem jd_lat_3 : decode jb_lat 3 = .ok (.ifCond .eq 14, 3) := by decide +kernel
theorem jd_lat_6 : decode jb_lat 6 = .ok (.aload_n 0, 1) := by decide +kernel
theorem jd_lat_7 : decode jb_lat 7 = .ok (.getfield 15, 3) := by decide +kernel
theorem jd_lat_10 : decode jb_lat 10 = .ok (.ifCond .ne 7, 3) := by decide +kernel
theorem jd_lat_13 : decode jb_lat 13 = .ok (.iconst 1, 1) := by decide +kernel
theorem jd_lat_14 : decode jb_lat 14 = .ok (.goto 4, 3) := by decide +kernel
theorem jd_lat_17 : decode jb_lat 17 = .ok (.iconst 0, 1) := by decide +kernel
theorem jd_lat_18 : decode jb_lat 18 = .ok (.ireturn, 1) := by decide +kernel
abbrev jb_pci : ByteArray := prog_20_method_11_code
def jy_pci : MethodName := ⟨"jdk/internal/util/Preconditions", "checkIndex", "(IILjava/util/function/BiFunction;)I"⟩
set_option maxRecDepth 20000 in
theorem jc_pci : Cond.code jy_pci jb_pci 3 (some .int) ∈ lw_g := lw_g_in (List.mem_of_getElem? (i := 715) rfl) rfl
theorem jd_pci_0 : decode jb_pci 0 = .ok (.iload_n 0, 1) := by decide +kernel
theorem jd_pci_1 : decode jb_pci 1 = .ok (.ifCond .lt 8, 3) := by decide +kernel
theorem jd_pci_4 : decode jb_pci 4 = .ok (.iload_n 0, 1) := by decide +kernel
theorem jd_pci_5 : decode jb_pci 5 = .ok (.iload_n 1, 1) := by decide +kernel
theorem jd_pci_6 : decode jb_pci 6 = .ok (.if_icmp .lt 10, 3) := by decide +kernel
theorem jd_pci_9 : decode jb_pci 9 = .ok (.aload_n 2, 1) := by decide +kernel
theorem jd_pci_10 : decode jb_pci 10 = .ok (.iload_n 0, 1) := by decide +kernel
theorem jd_pci_11 : decode jb_pci 11 = .ok (.iload_n 1, 1) := by decide +kernel
theorem jd_pci_12 : decode jb_pci 12 = .ok (.invokestatic 95, 3) := by decide +kernel
theorem jd_pci_15 : decode jb_pci 15 = .ok (.athrow, 1) := by decide +kernel
theorem jd_pci_16 : decode jb_pci 16 = .ok (.iload_n 0, 1) := by decide +kernel
theorem jd_pci_17 : decode jb_pci 17 = .ok (.ireturn, 1) := by decide +kernel
abbrev jb_sci : ByteArray := prog_16_method_155_code
def jy_sci : MethodName := ⟨"java/lang/String", "checkIndex", "(II)V"⟩
set_option maxRecDepth 20000 in
theorem jc_sci : Cond.code jy_sci jb_sci 2 none ∈ lw_g := lw_g_in (List.mem_of_getElem? (i := 710) rfl) rfl
theorem jd_sci_0 : decode jb_sci 0 = .ok (.iload_n 0, 1) := by decide +kernel
theorem jd_sci_1 : decode jb_sci 1 = .ok (.iload_n 1, 1) := by decide +kernel
theorem jd_sci_2 : decode jb_sci 2 = .ok (.getstatic 1053, 3) := by decide +kernel
theorem jd_sci_5 : decode jb_sci 5 = .ok (.invokestatic 1059, 3) := by decide +kernel
theorem jd_sci_8 : decode jb_sci 8 = .ok (.pop, 1) := by decide +kernel
theorem jd_sci_9 : decode jb_sci 9 = .ok (.return_, 1) := by decide +kernel
abbrev jb_lch : ByteArray := prog_17_method_2_code
def jy_lch : MethodName := ⟨"java/lang/StringLatin1", "charAt", "([BI)C"⟩
set_option maxRecDepth 20000 in
theorem jc_lch : Cond.code jy_lch jb_lch 2 (some .char) ∈ lw_g := lw_g_in (List.mem_of_getElem? (i := 707) rfl) rfl
theorem jd_lch_0 : decode jb_lch 0 = .ok (.iload_n 1, 1) := by decide +kernel
theorem jd_lch_1 : decode jb_lch 1 = .ok (.aload_n 0, 1) := by decide +kernel
theorem jd_lch_2 : decode jb_lch 2 = .ok (.arraylength, 1) := by decide +kernel
theorem jd_lch_3 : decode jb_lch 3 = .ok (.invokestatic 9, 3) := by decide +kernel
theorem jd_lch_6 : decode jb_lch 6 = .ok (.aload_n 0, 1) := by decide +kernel
theorem jd_lch_7 : decode jb_lch 7 = .ok (.iload_n 1, 1) := by decide +kernel
theorem jd_lch_8 : decode jb_lch 8 = .ok (.baload, 1) := by decide +kernel
theorem jd_lch_9 : decode jb_lch 9 = .ok (.sipush 255, 3) := by decide +kernel
theorem jd_lch_12 : decode jb_lch 12 = .ok (.iand, 1) := by decide +kernel
theorem jd_lch_13 : decode jb_lch 13 = .ok (.i2c, 1) := by decide +kernel
theorem jd_lch_14 : decode jb_lch 14 = .ok (.ireturn, 1) := by decide +kernel
abbrev jb_sch : ByteArray := prog_16_method_56_code
def jy_sch : MethodName := ⟨"java/lang/String", "charAt", "(I)C"⟩
set_option maxRecDepth 20000 in
theorem jc_sch : Cond.code jy_sch jb_sch 2 (some .char) ∈ lw_g := lw_g_in (List.mem_of_getElem? (i := 700) rfl) rfl
theorem jd_sch_0 : decode jb_sch 0 = .ok (.aload_n 0, 1) := by decide +kernel
theorem jd_sch_1 : decode jb_sch 1 = .ok (.invokevirtual 492, 3) := by decide +kernel
theorem jd_sch_4 : decode jb_sch 4 = .ok (.ifCond .eq 12, 3) := by decide +kernel
theorem jd_sch_7 : decode jb_sch 7 = .ok (.aload_n 0, 1) := by decide +kernel
theorem jd_sch_8 : decode jb_sch 8 = .ok (.getfield 9, 3) := by decide +kernel
theorem jd_sch_11 : decode jb_sch 11 = .ok (.iload_n 1, 1) := by decide +kernel
theorem jd_sch_12 : decode jb_sch 12 = .ok (.invokestatic 495, 3) := by decide +kernel
theorem jd_sch_15 : decode jb_sch 15 = .ok (.ireturn, 1) := by decide +kernel
theorem jd_sch_16 : decode jb_sch 16 = .ok (.aload_n 0, 1) := by decide +kernel
theorem jd_sch_17 : decode jb_sch 17 = .ok (.getfield 9, 3) := by decide +kernel
theorem jd_sch_20 : decode jb_sch 20 = .ok (.iload_n 1, 1) := by decide +kernel
theorem jd_sch_21 : decode jb_sch 21 = .ok (.invokestatic 498, 3) := by decide +kernel
theorem jd_sch_24 : decode jb_sch 24 = .ok (.ireturn, 1) := by decide +kernel
theorem jw_f38 : (.fieldLink "java/lang/String" 38 "java/lang/String" "COMPACT_STRINGS" "Z" : Cond) ∈ lw_g := am_w_in (by decide +kernel)
theorem jw_f15 : (.fieldLink "java/lang/String" 15 "java/lang/String" "coder" "B" : Cond) ∈ lw_g := am_w_in (by decide +kernel)
theorem jw_f9 : (.fieldLink "java/lang/String" 9 "java/lang/String" "value" "[B" : Cond) ∈ lw_g := am_w_in (by decide +kernel)
theorem jw_f1053 : (.fieldLink "java/lang/String" 1053 "jdk/internal/util/Preconditions" "SIOOBE_FORMATTER" "Ljava/util/function/BiFunction;" : Cond) ∈ lw_g := am_w_in (by decide +kernel)
theorem jw_m335 : (.methodLink "java/lang/String" 335 jy_coder : Cond) ∈ lw_g := am_w_in (by decide +kernel)
theorem jw_m492 : (.methodLink "java/lang/String" 492 jy_lat : Cond) ∈ lw_g := am_w_in (by decide +kernel)
theorem jw_m495 : (.methodLink "java/lang/String" 495 jy_lch : Cond) ∈ lw_g := am_w_in (by decide +kernel)
theorem jw_m9 : (.methodLink "java/lang/StringLatin1" 9 jy_sci : Cond) ∈ lw_g := am_w_in (by decide +kernel)
theorem jw_m1059 : (.methodLink "java/lang/String" 1059 jy_pci : Cond) ∈ lw_g := am_w_in (by decide +kernel)
theorem jw_iS : (.initialized "java/lang/String" : Cond) ∈ lw_g := am_w_in (by decide +kernel)
theorem jw_iL : (.initialized "java/lang/StringLatin1" : Cond) ∈ lw_g := am_w_in (by decide +kernel)
theorem jw_iP : (.initialized "jdk/internal/util/Preconditions" : Cond) ∈ lw_g := am_w_in (by decide +kernel)
theorem jw_nc : (.instanceMethod jy_coder : Cond) ∈ lw_g := am_w_in (by decide +kernel)
theorem jw_sc : (.selects "java/lang/String" jy_coder jy_coder : Cond) ∈ lw_g := am_w_in (by decide +kernel)
theorem jw_nl : (.instanceMethod jy_lat : Cond) ∈ lw_g := am_w_in (by decide +kernel)
theorem jw_sl : (.selects "java/lang/String" jy_lat jy_lat : Cond) ∈ lw_g := am_w_in (by decide +kernel)
theorem jw_nL : (.instanceMethod jy_length : Cond) ∈ lw_g := am_w_in (by decide +kernel)
theorem jw_sL : (.selects "java/lang/String" jy_length jy_length : Cond) ∈ lw_g := am_w_in (by decide +kernel)
theorem jw_nC : (.instanceMethod jy_sch : Cond) ∈ lw_g := am_w_in (by decide +kernel)
theorem jw_sC : (.selects "java/lang/String" jy_sch jy_sch : Cond) ∈ lw_g := am_w_in (by decide +kernel)
theorem jw_tP : (.static jy_pci : Cond) ∈ lw_g := am_w_in (by decide +kernel)
theorem jw_tS : (.static jy_sci : Cond) ∈ lw_g := am_w_in (by decide +kernel)
theorem jw_tL : (.static jy_lch : Cond) ∈ lw_g := am_w_in (by decide +kernel)
