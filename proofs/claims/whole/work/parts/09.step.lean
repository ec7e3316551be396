/-! ONE STEP OF THE ABSTRACT MACHINE IS ONE OF THE MACHINE -/
def am_isN (w : Cond) : Bool := match w with
  | .fieldLinkNest _ _ _ _ _ _ => true
  | .methodLinkNest _ _ _ _ => true
  | _ => false
/-- a text constant: its cell, its bytes -/
def am_SO (z a v : Nat) (bs : List Int32) (U : State) : Prop := va_O "java/lang/String" a (fun q => z ≤ q) U U.heap ∧ va_OF "java/lang/String" "coder" "B" (.int 0) a (fun q => z ≤ q) U U.heap ∧ va_OF "java/lang/String" "value" "[B" (.ref v) a (fun q => z ≤ q) U U.heap ∧ va_T .byte v bs.length (fun j => .int (bs.getD j 0)) (fun q => z ≤ q) U U.heap
def am_AOA (ty : FieldType) (U : State) : Prop := (Cond.arrayOver (.array ty)).before #[] U = true
/-- what is there beside the world: the script, the texts, the nest's words, some statics -/
def am_FO (z : Nat) (fr adV : Nat → Nat) (X : am_X) (U : State) : Prop :=
  (va_X (fr 0) X.1 X.2.1 U U.heap ∧ fr 0 < z ∧ z ≤ U.heap.size) ∧ (∀ j, (j < am_NS → vk_R (am_nm (am_so j).1) (am_so j).2 (am_sx j) (fr (j + 1)) U) ∧ am_SO z (fr (j + 1)) (adV j) (X.2.2 j) U) ∧ (∀ w, w ∈ lw_tbl → am_isN w = true → va_Nw w U) ∧ va_AO "DiffBench$Text" U ∧ (am_AOA .int U ∧ am_AOA .byte U) ∧ va_Z "java/lang/String" "COMPACT_STRINGS" "Z" (.int 1) (fun q => z ≤ q) U U.heap ∧ va_Zq "jdk/internal/util/Preconditions" "SIOOBE_FORMATTER" "Ljava/util/function/BiFunction;" (fun q => z ≤ q) U U.heap
/-- an activation of method mth -/
def am_cx (p : Program) (R : Room) (s : State) (m : MethodId) (args : Array Value) (meth : Method) (c : Code) (z : Nat) (fr adV : Nat → Nat) (cA : FieldType → ClassId) (X : am_X) (mth : Nat) : Prop :=
  p.tables.exec = Jvm.exec ∧ c.code = am_by mth ∧ c.maxLocals = am_ml mth ∧ s.vm.findClass (am_nm (am_ow mth)) = some m.cls ∧ (∀ w ∈ lw_g, w.before args s = true) ∧ ((am_mn mth).name = "<init>" → meth.name = "<init>") ∧ am_FO z fr adV X s ∧ (∀ ty k, s.vm.findClass ("[" ++ ty.toString) = some k → cA ty = k) ∧ am_rk mth ≤ R.frames ∧ 40 * am_rk mth ≤ R.locals
/-- its state: locals and heap are the machine's -/
def am_ok (s : State) (z : Nat) (fr : Nat → Nat) (cA : FieldType → ClassId) (D : va_G) (mth : Nat) (ls : am_L) (H : am_H) (Hh : Heap) (locs : List Loc) (cls : Array Slot) (cells : Nat) : Prop :=
  va_P D am_cl (am_ws z fr cA H) Hh ∧ (∃ tys, va_K D am_cl tys s ∧ am_cov cA tys H) ∧ am_wf H ∧ va_S (fun q => z ≤ q) s.heap Hh locs ∧ am_hl z fr cls (am_ml mth) ls ∧ s.heap.size + cells = z + H.1
theorem am_dec {m pc : Nat} {i : am_I} (hc : am_cd m pc = some i) : m < am_NM ∧ am_chk m pc i = true := by
  unfold am_cd at hc
  split at hc
  · rename_i hm
    split at hc
    · rename_i hp
      refine ⟨hm, ?_⟩
      have h := List.all_eq_true.mp (am_ckall hm) pc (List.mem_range.mpr hp)
      rw [hc] at h
      exact h
    · cases hc
  · cases hc
theorem am_dec1 {m pc : Nat} {i : am_I} (h : am_chk m pc i = true) : ∃ l, decode (am_by m) pc = .ok (i.1, l) ∧ (am_isw i.1 = true ∨ l = am_ln i.1) ∧ am_opk m pc i = true := by
  unfold am_chk at h
  rw [Bool.and_eq_true] at h
  obtain ⟨h1, h2⟩ := h
  split at h1
  · rename_i j l hd
    rw [Bool.and_eq_true, Bool.or_eq_true] at h1
    have e : j = i.1 := of_decide_eq_true h1.1
    subst e
    exact ⟨l, hd, h1.2.imp id (fun q => of_decide_eq_true q), h2⟩
  · cases h1
theorem am_nx_inv {a a' : Nat} {b b' : am_L} {c c' : List Value} {d d' : am_H} (h : am_nx a b c d = some (.inl (a', b', c', d'))) : a = a' ∧ b = b' ∧ c = c' ∧ d = d' := by
  unfold am_nx at h
  simp only [Option.some.injEq, Sum.inl.injEq, Prod.mk.injEq] at h
  exact h
theorem am_fl_get {o idx c k n : Nat} (h : am_fle o idx c k n = true) : (if n = 0 then (Cond.fieldLink (am_nm o) idx (am_nm c) (am_T c k).2.1 (am_T c k).2.2.1 ∈ lw_g) else (Cond.fieldLinkNest (am_nm o) idx (am_nm c) (am_T c k).2.1 (am_T c k).2.2.1 "DiffBench" ∈ lw_tbl)) ∧ c < 13 ∧ k < am_nf c ∧ (am_T c k).1 = am_nm c := by
  obtain ⟨e, he, h2⟩ := List.any_eq_true.mp h
  simp only [Bool.and_eq_true, beq_iff_eq] at h2
  obtain ⟨⟨⟨⟨rfl, rfl⟩, rfl⟩, rfl⟩, rfl⟩ := h2
  have h3 := List.all_eq_true.mp am_fl_ok e he
  simp only [Bool.and_eq_true, Bool.or_eq_true, decide_eq_true_eq] at h3
  obtain ⟨⟨⟨⟨h4, h5⟩, h6⟩, h7⟩, h8⟩ := h3
  refine ⟨?_, h6, h7, h8⟩
  have hm : am_fw e ∈ lw_tbl := List.mem_of_getElem? h4
  unfold am_fw at hm h5
  split
  · rename_i q
    rw [if_pos q] at hm h5
    exact lw_g_in hm (h5.resolve_left (fun z => z q))
  · rename_i q
    rw [if_neg q] at hm
    exact hm
theorem am_mle_get {o idx t n : Nat} (h : am_mle o idx t n = true) : if n = 0 then Cond.methodLink (am_nm o) idx (am_mnx t) ∈ lw_g else Cond.methodLinkNest (am_nm o) idx (am_mnx t) "DiffBench" ∈ lw_tbl := by
  obtain ⟨e, he, h2⟩ := List.any_eq_true.mp h
  simp only [Bool.and_eq_true, beq_iff_eq] at h2
  obtain ⟨⟨⟨rfl, rfl⟩, rfl⟩, rfl⟩ := h2
  have h3 := List.all_eq_true.mp am_mlk_ok e he
  simp only [Bool.and_eq_true, Bool.or_eq_true, decide_eq_true_eq] at h3
  obtain ⟨h4, h5⟩ := h3
  have hm : am_mlw e ∈ lw_tbl := List.mem_of_getElem? h4
  unfold am_mlw at hm h5
  split
  · rename_i q
    rw [if_pos q] at hm h5
    exact lw_g_in hm (h5.resolve_left (fun z => z q))
  · rename_i q
    rw [if_neg q] at hm
    exact hm
theorem am_w_in {w : Cond} (h : am_w w = true) : w ∈ lw_g := by
  unfold am_w at h
  rw [Bool.and_eq_true] at h
  exact lw_g_in (of_decide_eq_true h.1) h.2
theorem am_nms : ∀ c, c < 13 → am_cl[c]? = some (am_nm c, am_T c, am_nf c) := by
  intro c hc
  have h : ∀ c, c < 13 → c = 0 ∨ c = 1 ∨ c = 2 ∨ c = 3 ∨ c = 4 ∨ c = 5 ∨ c = 6 ∨ c = 7 ∨ c = 8 ∨ c = 9 ∨ c = 10 ∨ c = 11 ∨ c = 12 := by omega
  rcases h c hc with rfl | rfl | rfl | rfl | rfl | rfl | rfl | rfl | rfl | rfl | rfl | rfl | rfl <;> rfl
theorem am_tys_ok : ∀ c, c < 13 → ∀ k, k < am_nf c → parseFieldDescriptor (am_T c k).2.2.1 = some (am_ty c k) := by decide +kernel
theorem am_nms_ok : ∀ c, c < 13 → ∀ a, a < am_nf c → ∀ b, b < am_nf c → a ≠ b → (am_T c a).2.1 ≠ (am_T c b).2.1 := by decide +kernel
theorem am_lay_ok : (List.range 13).all (fun c => (u_ws (am_nm c) (am_T c) (am_nf c)).all am_w) = true := by decide +kernel
theorem am_lay {c : Nat} (hc : c < 13) : ∀ w ∈ u_ws (am_nm c) (am_T c) (am_nf c), w ∈ lw_g := fun w hw => am_w_in (List.all_eq_true.mp (List.all_eq_true.mp am_lay_ok c (List.mem_range.mpr hc)) w hw)
theorem am_df_ok : ∀ c, c < 13 → ∀ j, j < am_nf c → defaultValue (am_ty c j) = vp_V (am_df c) j := by decide +kernel
