/-! THE CLAIM OUT OF ONE WALK OF THE LAW'S BODY. Your part is whole_start (and what it stands on); all else here is the same for every law, but numbers. -/
def R_law : String := "DiffBenchLaw"
def lw_P (b : Addr) (xs : List Int32) (args : Array Value) (s : State) : Prop := args = #[.ref b] ∧ s.IntsAt b xs ∧ xs.length ≤ 3072 ∧ (Jvm.Cond.and given_1 narrow_1).before args s = true
def lw_Q (_ : Array Value) (s : State) (o : Outcome) (t : State) : Prop := o = .returned (some (.int 1)) ∧ Framed s o t [] 600000 7302250
def lw_Z (below : List Frame) (a : Array Value) (s : State) : State → Prop := fun t => ∃ o, t.status = .running ∧ Ended t below o ∧ lw_Q a s o t
/-- the law's own end, with 1 on the stack, nothing written that was there before, its room as the claim has it -/
theorem lw_ret {p : Program} {l : Launch} {e : Env} {s : State} {m : MethodId} {below : List Frame} {meth : Method} {c : Code} {b : Nat} (hx : p.tables.exec = Jvm.exec) (hb : c.code = code) (hr : meth.sig.returnType = ret) (hlocks : meth.locks = false) {pc : Nat} {H : Heap} {ls : Array Slot} (hdg : decode code pc = .ok (.ireturn, 1)) : W p l e room_1 s m #[Value.ref b] below meth c H [] 600000 7302250 (lw_Z below #[Value.ref b] s) (F0 m pc ls [.int 1]) := by
  intro T hT X
  obtain ⟨fs, hret, hrun, hended, hW, hframe⟩ := X.leave (v := some (.int 1)) (hlocks := hlocks) (fun h => by rw [hr] at h; cases h)
  have hmeth' : T.vm.method? m = some meth := X.method'
  refine ⟨T.setFrames fs, ?_, .returned (some (.int 1)), hrun, hended, rfl, ⟨_, rfl⟩, hW, hframe⟩
  jvm_step X.here [X.here.top, hx, hb, hdg, hmeth', hr, ret, narrow_b1]
  (try refine ⟨rfl, ?_⟩); (try refine ⟨rfl, ?_⟩)
  first | (intro acts; rw [hret _ acts rfl rfl rfl]) | rw [hret _ _ rfl rfl rfl]
  exact Steps.refl _
/-- what holds at the law's entry: the machine, the code, the tables' words (any of lw_tbl by 'hts w (by decide +kernel)'), the script of L ints xs at the cell b, what the Statement gives of the start (any of its parts by flat_of_before) -/
def lw_At (p : Program) (s : State) (m : MethodId) (meth : Method) (c : Code) (b L : Nat) (xs : Nat → Int32) : Prop :=
  p.tables.exec = Jvm.exec ∧ c.code = code ∧ meth.sig.returnType = ret ∧ c.maxLocals = 4 ∧ s.vm.findClass R_law = some m.cls ∧ (∀ w ∈ lw_tbl, w.before #[Value.ref b] s = true) ∧ va_X b L xs s s.heap ∧ b < s.heap.size ∧ meth.locks = false ∧ (Jvm.Cond.and given_1 narrow_1).before #[Value.ref b] s = true
theorem am_known {s : State} {args : Array Value} (hts : ∀ w ∈ lw_g, w.before args s = true) : ∃ D : va_G, va_K D am_cl [] s := by
  have hi : ∀ k, k < 13 → Cond.instantiable (am_nm k) (am_nf k) ∈ lw_g := by
    intro k hk
    have h : (List.range 13).all (fun k => am_w (.instantiable (am_nm k) (am_nf k))) = true := by decide +kernel
    exact am_w_in (List.all_eq_true.mp h k (List.mem_range.mpr hk))
  have h : ∀ k : Nat, ∃ q : ClassId × (Nat → Nat), k < 13 → u_Kn s (am_nm k) (am_T k) (am_nf k) q.1 q.2 := by
    intro k
    by_cases hk : k < 13
    · obtain ⟨a, b, hq⟩ := u_known hts (am_lay hk) (hts _ (hi k hk))
      exact ⟨(a, b), fun _ => hq⟩
    · exact ⟨(0, fun _ => 0), fun q => absurd q hk⟩
  obtain ⟨f, hf⟩ := Classical.axiomOfChoice h
  refine ⟨(fun k => (f k).1, fun k => (f k).2), fun k q hq => ?_, fun k q hq => by simp at hq⟩
  have hk : k < 13 := (List.getElem?_eq_some_iff.mp hq).1
  rw [am_nms k hk] at hq
  cases hq
  exact hf k hk
theorem am_texts {s : State} {b : Nat} (hts : ∀ w ∈ lw_tbl, w.before #[Value.ref b] s = true) (hgv : (Jvm.Cond.and given_1 narrow_1).before #[Value.ref b] s = true) : ∃ ad : Nat → Nat × Nat, ∀ j, (j < am_NS → vk_R (am_nm (am_so j).1) (am_so j).2 (am_sx j) (ad j).1 s) ∧ am_SO s.heap.size (ad j).1 (ad j).2 (am_txt j) s := by
  have hfl := flat_of_before _ hgv
  have hA : ∀ a : Nat, a < s.heap.size → ¬ (fun q => s.heap.size ≤ q) a := fun a h => Nat.not_le.mpr h
  have h0 : ∀ j, j < am_NS → ∃ q : Nat × Nat, vk_R (am_nm (am_so j).1) (am_so j).2 (am_sx j) q.1 s ∧ am_SO s.heap.size q.1 q.2 (am_txt j) s := by
    intro j hj
    have hc : ∀ w ∈ am_scs j, w.before #[Value.ref b] s = true := fun w hw => hfl w (List.mem_append_right _ (am_scs_in hj w hw))
    obtain ⟨adK, adV, hS, hE⟩ := vk_Sof (args := #[Value.ref b]) (s := s) (N := 1) (tm := fun _ => am_sT j) (len := [(am_txt j).length]) (byt := [am_txt j]) (A := fun q => s.heap.size ≤ q) (fun i hi => by
      obtain rfl : i = 0 := by omega
      exact ((am_bs_txt 0 (fun _ => 0)) j).1) (fun i _ => hc _ List.mem_cons_self) (fun i _ => hc _ (List.mem_cons_of_mem _ List.mem_cons_self)) (fun i _ => hc _ (List.mem_cons_of_mem _ (List.mem_cons_of_mem _ List.mem_cons_self))) (fun i hi => by
      obtain rfl : i = 0 := by omega
      exact hc _ (List.mem_cons_of_mem _ (List.mem_cons_of_mem _ (List.mem_cons_of_mem _ List.mem_cons_self)))) (fun i hi k hk => by
      obtain rfl : i = 0 := by omega
      refine hc _ (List.mem_cons_of_mem _ (List.mem_cons_of_mem _ (List.mem_cons_of_mem _ (List.mem_cons_of_mem _ (List.mem_map.mpr ⟨k, List.mem_range.mpr hk, rfl⟩)))))) (fun i k hi hk hne => absurd (show i = k by omega) hne) hA
    refine ⟨(adK 0, adV 0), ?_, ?_⟩
    · have hw : Cond.stringRef (am_nm (am_so j).1) (am_so j).2 (am_sx j) ∈ lw_tbl := List.mem_of_getElem? (of_decide_eq_true (List.all_eq_true.mp am_s_ok j (List.mem_range.mpr hj)))
      exact vk_R.of (hts _ hw) (hE 0 (by omega))
    · exact hS.1 0 (by omega)
  have h1 : ∀ j : Nat, ∃ q : Nat × Nat, (j < am_NS → vk_R (am_nm (am_so j).1) (am_so j).2 (am_sx j) q.1 s) ∧ am_SO s.heap.size q.1 q.2 (am_txt j) s := by
    intro j
    by_cases hj : j < am_NS
    · obtain ⟨q, h2, h3⟩ := h0 j hj
      exact ⟨q, fun _ => h2, h3⟩
    · obtain ⟨q, h2, h3⟩ := h0 0 (by decide)
      exact ⟨q, fun h => absurd h hj, by rw [am_txt_big (Nat.le_of_not_lt hj)]; exact h3⟩
  exact Classical.axiomOfChoice h1
/-- THE LAW OVER THE MACHINE, OUT OF ITS RUN ON THE ABSTRACT ONE -/
theorem am_whole {p : Program} {e : Env} {s : State} {m : MethodId} {below : List Frame} {meth : Method} {c : Code} (l : Launch) {b L : Nat} {xs : Nat → Int32} (hrun : ∃ n H', am_run am_p am_g (L, xs, am_txt) n am_law 0 (am_entry (am_ml am_law) [.retAddr 0]) [] (0, 0, fun _ => am_no) = some (some (.int 1), H') ∧ H'.1 ≤ 600000 ∧ H'.2.1 ≤ 7302250) (C0 : lw_At p s m meth c b L xs) : W p l e room_1 s m #[Value.ref b] below meth c s.heap [] 0 0 (lw_Z below #[Value.ref b] s) (entryFrame m ([Value.ref b] : List Value).toArray 4) := by
  obtain ⟨hx, hb, hr, hml, hown, hts, hX, hbl, hlocks, hgv⟩ := C0
  obtain ⟨n, H', hn, hc1, hs1⟩ := hrun
  have htg : ∀ w ∈ lw_g, w.before #[Value.ref b] s = true := fun w h => hts w (lw_g_of h)
  obtain ⟨D, hK⟩ := am_known htg
  obtain ⟨ad, had⟩ := am_texts hts hgv
  have hfl := flat_of_before _ hgv
  have hA : ∀ a : Nat, a < s.heap.size → ¬ (fun q => s.heap.size ≤ q) a := fun a h => Nat.not_le.mpr h
  generalize hz : s.heap.size = z at *
  have hF : am_FO z (fun j => match j with
    | 0 => b
    | j + 1 => (ad j).1) (fun j => (ad j).2) (L, xs, am_txt) s := by
    refine ⟨⟨hX, hbl, by rw [hz]; exact Nat.le_refl _⟩, fun j => had j, fun w hw hN => ?_, ?_, ⟨?_, ?_⟩, ?_, ?_⟩
    · have h5 := hts w hw
      unfold am_isN at hN
      split at hN
      · exact va_Nw.of rfl h5
      · exact va_Nw.of rfl h5
      · cases hN
    · exact va_AO.of (hts (.arrayOver (.object "DiffBench$Text")) (by decide +kernel))
    · exact hts (.arrayOver (.array .int)) (by decide +kernel)
    · exact hts (.arrayOver (.array .byte)) (by decide +kernel)
    · exact va_Zof (hts (.laysStatic "java/lang/String" "COMPACT_STRINGS" "Z") (by decide +kernel)) (hts (.initialized "java/lang/String") (by decide +kernel)) (va_eqt (hfl (.eq (.static "java/lang/String" "COMPACT_STRINGS" "Z") (.int 1)) (by decide +kernel))) (fun a h => hA a (by rw [← hz]; exact h))
    · exact va_Zqof (hts (.laysStatic "jdk/internal/util/Preconditions" "SIOOBE_FORMATTER" "Ljava/util/function/BiFunction;") (by decide +kernel)) (hts (.initialized "jdk/internal/util/Preconditions") (by decide +kernel)) (hfl (.isRef (.static "jdk/internal/util/Preconditions" "SIOOBE_FORMATTER" "Ljava/util/function/BiFunction;")) (by decide +kernel)) (fun a h => hA a (by rw [← hz]; exact h))
  generalize hfr : (fun j => match j with
    | 0 => b
    | j + 1 => (ad j).1 : Nat → Nat) = fr at hF
  have hfr0 : fr 0 = b := by rw [← hfr]
  have hb2 : c.code = am_by am_law := by rw [hb]; rfl
  rw [lg_entry_eq]
  have hl := am_hl_entry z fr [.retAddr 0] 4 (by decide)
  have e1 : ([Value.retAddr 0].map (am_cv z fr)) = [Value.ref b] := by rw [← hfr0]; rfl
  rw [e1] at hl
  refine am_sound (z := z) (fr := fr) (adV := fun j => (ad j).2) (cA := fun ty => (s.vm.findClass ("[" ++ ty.toString)).getD 0) (D := D) (am_bs_txt L xs) n hn (st := []) (cells := 0) (slots := 0) (locs := []) ⟨hx, hb2, hml, hown, htg, fun h => absurd h (by decide), hF, fun ty k h => by dsimp only; rw [h]; rfl, by decide, by decide⟩ ⟨fun k q h => by simp [am_ws] at h, ⟨[], hK, fun k ty n x h => by cases h⟩, ⟨fun k _ => rfl, fun k ty n f h => by cases h⟩, va_S.rf, hl, by rw [hz]⟩ (by show 0 + (H'.1 - 0) ≤ 600000; omega) (by show 0 + (H'.2.1 - 0) ≤ 7302250; omega) (fun Hh' locs' cls' pc' ls' ok' he => ?_)
  rcases he with ⟨x, ty, hv, hrt, hnn, hd⟩ | ⟨hv, -, -⟩
  · cases hv
    refine va_forget (fun q hq => by rw [hz]; exact ok'.2.2.2.1.2.2 q hq) ?_
    refine W.widen (k := 600000) (n := 7302250) (by show 0 + (H'.1 - 0) ≤ 600000; omega) (by show 0 + (H'.2.1 - 0) ≤ 7302250; omega) ?_
    exact lw_ret hx hb hr hlocks hd
  · cases hv
