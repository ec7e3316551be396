/-! every instruction of every method, checked by the kernel -/
set_option maxRecDepth 100000 in
theorem am_ck0 : (List.range' 0 20).all am_ckm = true := by decide +kernel
set_option maxRecDepth 100000 in
theorem am_ck1 : (List.range' 20 22).all am_ckm = true := by decide +kernel
set_option maxRecDepth 100000 in
theorem am_ck2 : (List.range' 42 15).all am_ckm = true := by decide +kernel
set_option maxRecDepth 100000 in
theorem am_ck3 : (List.range' 57 14).all am_ckm = true := by decide +kernel
set_option maxRecDepth 100000 in
theorem am_ck4 : (List.range' 71 24).all am_ckm = true := by decide +kernel
set_option maxRecDepth 100000 in
theorem am_ck5 : (List.range' 95 20).all am_ckm = true := by decide +kernel
set_option maxRecDepth 100000 in
theorem am_ck6 : (List.range' 115 26).all am_ckm = true := by decide +kernel
set_option maxRecDepth 100000 in
theorem am_ck7 : (List.range' 141 18).all am_ckm = true := by decide +kernel
set_option maxRecDepth 100000 in
theorem am_ck8 : (List.range' 159 14).all am_ckm = true := by decide +kernel
set_option maxRecDepth 100000 in
theorem am_ck9 : (List.range' 173 10).all am_ckm = true := by decide +kernel
set_option maxRecDepth 100000 in
theorem am_ck10 : (List.range' 183 7).all am_ckm = true := by decide +kernel
set_option maxRecDepth 100000 in
theorem am_ck11 : (List.range' 190 8).all am_ckm = true := by decide +kernel
set_option maxRecDepth 100000 in
theorem am_ck12 : (List.range' 198 9).all am_ckm = true := by decide +kernel
set_option maxRecDepth 100000 in
theorem am_ck13 : (List.range' 207 1).all am_ckm = true := by decide +kernel
theorem am_ckall {m : Nat} (h : m < am_NM) : am_ckm m = true := by
  have h : m < 208 := h
  by_cases h0 : m < 20
  · exact List.all_eq_true.mp am_ck0 m (List.mem_range'_1.mpr ⟨by omega, by omega⟩)
  by_cases h1 : m < 42
  · exact List.all_eq_true.mp am_ck1 m (List.mem_range'_1.mpr ⟨by omega, by omega⟩)
  by_cases h2 : m < 57
  · exact List.all_eq_true.mp am_ck2 m (List.mem_range'_1.mpr ⟨by omega, by omega⟩)
  by_cases h3 : m < 71
  · exact List.all_eq_true.mp am_ck3 m (List.mem_range'_1.mpr ⟨by omega, by omega⟩)
  by_cases h4 : m < 95
  · exact List.all_eq_true.mp am_ck4 m (List.mem_range'_1.mpr ⟨by omega, by omega⟩)
  by_cases h5 : m < 115
  · exact List.all_eq_true.mp am_ck5 m (List.mem_range'_1.mpr ⟨by omega, by omega⟩)
  by_cases h6 : m < 141
  · exact List.all_eq_true.mp am_ck6 m (List.mem_range'_1.mpr ⟨by omega, by omega⟩)
  by_cases h7 : m < 159
  · exact List.all_eq_true.mp am_ck7 m (List.mem_range'_1.mpr ⟨by omega, by omega⟩)
  by_cases h8 : m < 173
  · exact List.all_eq_true.mp am_ck8 m (List.mem_range'_1.mpr ⟨by omega, by omega⟩)
  by_cases h9 : m < 183
  · exact List.all_eq_true.mp am_ck9 m (List.mem_range'_1.mpr ⟨by omega, by omega⟩)
  by_cases h10 : m < 190
  · exact List.all_eq_true.mp am_ck10 m (List.mem_range'_1.mpr ⟨by omega, by omega⟩)
  by_cases h11 : m < 198
  · exact List.all_eq_true.mp am_ck11 m (List.mem_range'_1.mpr ⟨by omega, by omega⟩)
  by_cases h12 : m < 207
  · exact List.all_eq_true.mp am_ck12 m (List.mem_range'_1.mpr ⟨by omega, by omega⟩)
  by_cases h13 : m < 208
  · exact List.all_eq_true.mp am_ck13 m (List.mem_range'_1.mpr ⟨by omega, by omega⟩)
  exact absurd h h13
