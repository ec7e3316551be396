/-! calls -/
theorem am_call_inv {rc : Option Nat} {k n pc k' pc' : Nat} {st as r : List Value} {H : am_H} (h : am_call rc k n pc st H = some (.inr (.inr (k', as, pc', r)))) : k = k' ∧ pc' = pc + 3 ∧ r.length ≤ 8 ∧ st = as.reverse ++ r ∧ as.length = n ∧ (rc = none ∨ ∃ ci a as' fs, rc = some ci ∧ as = .ref a :: as' ∧ H.2.2 a = .inr (ci, fs)) := by
  unfold am_call at h
  split at h
  · rename_i hn
    split at h
    · cases h
      refine ⟨rfl, rfl, hn.2, ?_, ?_, Or.inl rfl⟩
      · rw [List.reverse_reverse, List.take_append_drop]
      · rw [List.length_reverse, List.length_take]
        omega
    · rename_i ci a as2 e1
      split at h
      · rename_i c1 fs e2
        split at h
        · rename_i hcc
          subst hcc
          cases h
          refine ⟨rfl, rfl, hn.2, ?_, ?_, Or.inr ⟨_, _, _, _, rfl, rfl, e2⟩⟩
          · rw [← e1, List.reverse_reverse, List.take_append_drop]
          · rw [← e1, List.length_reverse, List.length_take]
            omega
        · cases h
      · cases h
    · cases h
  · cases h
theorem am_mwin {k : Nat} (hk : k < am_NM) (hl : k ≠ am_law) : ∀ w ∈ am_mw k, w ∈ lw_g := by
  have h := am_mck_ok hk
  rw [Bool.or_eq_true, decide_eq_true_eq] at h
  have h := h.resolve_left hl
  unfold am_mck at h
  rw [Bool.and_eq_true, decide_eq_true_eq] at h
  intro w hw
  have h1 : some w ∈ (am_mw k).map some := List.mem_map.mpr ⟨w, hw, rfl⟩
  rw [← h.1] at h1
  obtain ⟨p, -, hp⟩ := List.mem_map.mp h1
  exact lw_g_in (List.mem_of_getElem? hp) (List.all_eq_true.mp h.2 w hw)
/-- what the tables say of a method -/
theorem am_mfacts {k : Nat} (hk : k < am_NM) : (am_mn k).cls = am_nm (am_ow k) ∧ ((am_mn k).cls ≠ "java/lang/invoke/MethodHandle" ∧ (am_mn k).cls ≠ "java/lang/invoke/VarHandle") ∧ (am_rc k = none ∨ (am_rc k = some (am_ow k) ∧ am_ow k < 13)) ∧ (parseMethodDescriptor (am_mn k).desc).map (fun d => d.parameters.length) = some (if am_rc k = none then am_na k else am_na k - 1) ∧ (am_na k ≤ am_ml k ∧ am_ml k ≤ 20) ∧ (am_rc k = none ∨ 0 < am_na k) ∧ plainName (am_mn k).cls = true ∧ ((am_mn k).name = "<init>" → am_rt k = none) := by
  have h := am_mck2_ok hk
  unfold am_mck2 at h
  simp only [Bool.and_eq_true, decide_eq_true_eq] at h
  obtain ⟨⟨⟨⟨⟨⟨⟨⟨h1, h2⟩, h3⟩, h4⟩, h5⟩, h6⟩, h7⟩, h8⟩, h9⟩ := h
  exact ⟨h1, ⟨h2, h3⟩, h4, h5, h6, h7, h8, h9⟩
theorem am_code_in {k : Nat} (hk : k < am_NM) (hl : k ≠ am_law) : Cond.code (am_mn k) (am_by k) (am_ml k) (am_rt k) ∈ lw_g := lw_g_in (am_cin hk hl) rfl
section AMR
variable {p : Program} {l : Launch} {e : Env} {R : Room} {s : State} {m : MethodId} {args : Array Value} {below : List Frame} {meth : Method} {c : Code} {Q : State → Prop} {z : Nat} {fr adV : Nat → Nat} {cA : FieldType → ClassId} {D : va_G} {X : am_X} {mth pc : Nat} {ls : am_L} {st : List Value} {H : am_H} {Hh : Heap} {locs : List Loc} {cls : Array Slot} {cells slots : Nat}
theorem am_size (hF : am_FO z fr adV X s) (ok : am_ok s z fr cA D mth ls H Hh locs cls cells) (hs : Hh.size ≤ s.heap.size + cells) : Hh.size = z + H.1 := by
  obtain ⟨hP, -, -, hS, -, h6⟩ := ok
  by_cases h0 : H.1 = 0
  · have := hS.1
    have := hF.1.2.2
    omega
  · have := (hP (H.1 - 1) _ (am_ws_get (by omega))).lt
    dsimp only at this
    omega
theorem am_rev (as' : List Value) (a : Nat) (r : List Value) : (((Value.ref a :: as').reverse ++ r).map (am_cv z fr)) = (as'.map (am_cv z fr)).reverse ++ .ref (z + a) :: r.map (am_cv z fr) := by
  rw [List.reverse_cons, List.append_assoc, List.map_append, List.map_append, List.map_reverse]
  rfl
theorem am_c {i : am_I} {k pc' : Nat} {as r : List Value} {v : Option Value} {H1 : am_H} (hc : am_cd mth pc = some i) (h : am_step am_g X mth i pc ls st H = some (.inr (.inr (k, as, pc', r)))) (cx : am_cx p R s m args meth c z fr adV cA X mth) (ok : am_ok s z fr cA D mth ls H Hh locs cls cells) (h1 : H.1 ≤ H1.1) (h2 : H.2.1 ≤ H1.2.1)
    (hM : as.length ≤ am_ml k → k < am_NM → k ≠ am_law → Met l (am_mn k) (.code (am_mn k) (am_by k) (am_ml k) (am_rt k) :: lw_g) { frames := am_rk k, cells := H1.1 - H.1, slots := H1.2.1 - H.2.1, locals := 40 * am_rk k } (am_Pc z fr adV cA D X as H) (am_Qc z fr cA D v H1) (H1.1 - H.1) (H1.2.1 - H.2.1) (fun q => z ≤ q))
    (hrc : cells + (H1.1 - H.1) ≤ R.cells) (hrs : slots + (H1.2.1 - H.2.1) ≤ R.slots)
    (kk : ∀ Hh' locs', am_ok s z fr cA D mth ls H1 Hh' locs' cls (cells + (H1.1 - H.1)) → W p l e R s m args below meth c Hh' locs' (cells + (H1.1 - H.1)) (slots + (H1.2.1 - H.2.1)) Q (F0 m pc' cls ((am_push v r).map (am_cv z fr)))) : W p l e R s m args below meth c Hh locs cells slots Q (F0 m pc cls (st.map (am_cv z fr))) := by
  obtain ⟨hm, hck⟩ := am_dec hc
  obtain ⟨ln, hdg, hsw, hk⟩ := am_dec1 hck
  obtain ⟨hx, hb, hml, hown, hts, hin, hF, hcA, hfr, hlo⟩ := id cx
  obtain ⟨hP, ⟨tys, hK, hcov⟩, hwf, hS, hl, hsz⟩ := id ok
  refine am_Wsz fun hsz2 => ?_
  have hsize := am_size hF ok hsz2
  obtain ⟨ins, x, y, w⟩ := i
  dsimp only at hdg hsw
  -- what every kind of call shares
  have key : ∀ (hcall : am_call (am_rc x) x y pc st H = some (.inr (.inr (k, as, pc', r)))) (hcck : am_cck mth x y = true), (ln = 3) → ((∃ j, ins = .invokestatic j ∧ am_rc x = none ∧ Cond.methodLink (am_nm (am_ow mth)) j (am_mnx x) ∈ lw_g) ∨ (∃ j, ins = .invokevirtual j ∧ am_rc x ≠ none ∧ (am_mn x).name ≠ "<init>" ∧ Cond.methodLink (am_nm (am_ow mth)) j (am_mnx x) ∈ lw_g) ∨ (∃ j, ins = .invokespecial j ∧ am_rc x ≠ none ∧ (am_mn x).name = "<init>" ∧ (Cond.methodLink (am_nm (am_ow mth)) j (am_mnx x) ∈ lw_g ∨ Cond.methodLinkNest (am_nm (am_ow mth)) j (am_mnx x) "DiffBench" ∈ lw_tbl))) → W p l e R s m args below meth c Hh locs cells slots Q (F0 m pc cls (st.map (am_cv z fr))) := by
    intro hcall hcck hln hkind
    subst hln
    unfold am_cck at hcck
    simp only [Bool.and_eq_true, decide_eq_true_eq] at hcck
    obtain ⟨⟨⟨hkN, hkl⟩, hna⟩, hrk⟩ := hcck
    obtain ⟨rfl, rfl, hrl, rfl, hlen, hrecv⟩ := am_call_inv hcall
    subst hna
    obtain ⟨f1, f2, f3, f4, f5, f6, f7, f8⟩ := am_mfacts hkN
    have hMx := hM (by omega) hkN hkl
    have hmw := am_mwin hkN hkl
    have hcd := am_code_in hkN hkl
    have hini : Cond.initialized (am_mn x).cls ∈ lw_g := hmw _ List.mem_cons_self
    have hmx : am_mnx x = am_mn x := by unfold am_mnx; rw [if_pos (Nat.lt_trans hkN (by decide))]
    have hroom : am_rk x + 1 ≤ R.frames ∧ 8 + (am_ml x + 11) + 40 * am_rk x ≤ R.locals := by omega
    have hPc : ∀ U : State, U.heap = Hh → s.WarmedH U.vm → am_Pc z fr adV cA D X as H (as.map (am_cv z fr)).toArray U := fun U hU hW => by
      refine ⟨rfl, hF.at hW (by rw [hU, hsize]; omega) (by rw [hU]; exact hS.2.1), fun ty k9 h9 => hcA ty k9 (by rw [← hW.alike.findClass]; exact h9), by rw [hU]; exact hP, ⟨tys, va_K.moved hW.alike hK, hcov⟩, hwf, by rw [hU]; exact hsize⟩
    have hcat : 2 * (F0 m pc cls (((as.reverse ++ r).map (am_cv z fr)))).monitorRoom + ((r.map (am_cv z fr)).map fun v => v.category).sum ≤ 8 := lv_room (by rw [am_cats]; exact hrl)
    have fin : ∀ {st0 : List Value} {a9 : Array Value}, va_Run p l e R s m args below meth c Hh locs cells slots (H1.1 - H.1) (H1.2.1 - H.2.1) (F0 m pc cls st0) (r.map (am_cv z fr)) (am_Qc z fr cA D v H1 a9) (fun q => z ≤ q) → W p l e R s m args below meth c Hh locs cells slots Q (F0 m pc cls st0) := fun hr => by
      refine am_callR hr hS (fun q h9 => h9) (fun st₀ o t h9 hq => ?_) (fun v9 st₀ t locs1 h9 hW hq hS1 => ?_)
      · obtain ⟨-, -, -, -, hq1, hq2⟩ := hq
        rw [h9] at hq1 hq2
        exact ⟨hq1, hq2⟩
      · obtain ⟨hv9, hP1, ⟨tys1, hK1, hcov1⟩, hwf1, -⟩ := hq
        have hv9 : v9 = v.map (am_cv z fr) := by cases hv9; rfl
        subst hv9
        have e9 : (v.map (am_cv z fr)).toList ++ r.map (am_cv z fr) = (am_push v r).map (am_cv z fr) := by cases v <;> rfl
        rw [e9]
        exact kk t.heap locs1 ⟨hP1, ⟨tys1, va_K.moved hW.alike.symm hK1, hcov1⟩, hwf1, hS1, hl, by omega⟩
    rcases hkind with ⟨j, rfl, hrc0, hlk⟩ | ⟨j, rfl, hrc0, hnm, hlk⟩ | ⟨j, rfl, hrc0, hnm, hlk⟩
    · -- static
      rw [hmx] at hlk
      refine fin (a9 := (as.map (am_cv z fr)).toArray) (va_runS (As := as.map (am_cv z fr)) (bytes := am_by x) (maxL := am_ml x) (ret := am_rt x) (n := am_na x) (Ts := lw_g) (own := am_nm (am_ow mth)) (cc := am_by mth) (nL := am_ml mth) (index := j) ⟨hx, hb, hml, hown, hts⟩ hMx (va_cwS (am_na x) hts (am_gd (fun w hw => ?_) (am_gc hcd)) rfl rfl rfl ⟨f2.1, f2.2, by rw [f4, if_pos hrc0]⟩ hroom) ⟨am_Pc_blind, hPc⟩ rfl (by rw [List.length_map]; exact hlen) hl.2.1 (by show (as.reverse ++ r).map (am_cv z fr) = _; rw [List.map_append, List.map_reverse]) hcat hdg ⟨hrc, hrs⟩)
      simp only [List.mem_cons, List.not_mem_nil, or_false] at hw
      rcases hw with rfl | rfl | rfl
      · exact hlk
      · refine hmw _ (List.mem_cons_of_mem _ ?_)
        rw [if_pos hrc0]
        exact List.mem_cons_self
      · exact hini
    · -- virtual
      rw [hmx] at hlk
      rcases hrecv with h9 | ⟨ci, a, as2, fs, hci, rfl, hcell⟩
      · exact absurd h9 hrc0
      · have hci2 := (f3.resolve_left hrc0)
        rw [hci2.1] at hci
        have hci : am_ow x = ci := Option.some.inj hci
        subst hci
        have hin1 : ∀ w ∈ ([.instanceMethod (am_mn x), .selects (am_mn x).cls (am_mn x) (am_mn x)] : List Cond), w ∈ lw_g := fun w hw => hmw w (List.mem_cons_of_mem _ (by rw [if_neg hrc0, if_neg hnm]; exact hw))
        rw [am_rev]
        refine fin (a9 := (Value.ref (z + a) :: as2.map (am_cv z fr)).toArray) (va_runV (As := as2.map (am_cv z fr)) (b := z + a) (C := (am_mn x).cls) (bytes := am_by x) (maxL := am_ml x) (ret := am_rt x) (n := am_na x - 1) (Ts := lw_g) (own := am_nm (am_ow mth)) (cc := am_by mth) (nL := am_ml mth) (index := j) ⟨hx, hb, hml, hown, hts⟩ hMx (cwV (am_na x - 1) hts (am_gd (fun w hw => ?_) (am_gc hcd)) rfl rfl rfl ⟨rfl, f2.1, f2.2, by rw [f4, if_neg hrc0]⟩ hroom) ⟨am_Pc_blind, ?_, hPc⟩ rfl (by rw [List.length_map]; rw [List.length_cons] at hlen; omega) hl.2.1 rfl (lv_room (by rw [am_cats]; exact hrl)) hdg ⟨hrc, hrs⟩)
        · simp only [List.mem_cons, List.not_mem_nil, or_false] at hw
          rcases hw with rfl | rfl | rfl | rfl
          · exact hlk
          · exact hin1 _ List.mem_cons_self
          · exact hin1 _ (List.mem_cons_of_mem _ List.mem_cons_self)
          · exact hini
        · have := va_recv hK hP (am_nms (am_ow x) hci2.2) (am_he hwf hcell (by omega))
          rw [f1]
          exact this
    · -- special
      rcases hrecv with h9 | ⟨ci, a, as2, fs, hci, rfl, hcell⟩
      · exact absurd h9 hrc0
      · have hrt := f8 hnm
        have hin1 : Cond.instanceMethod (am_mn x) ∈ lw_g := hmw _ (List.mem_cons_of_mem _ (by rw [if_neg hrc0]; exact List.mem_cons_self))
        rw [am_rev]
        rcases hlk with hlk | hlk
        · rw [hmx] at hlk
          refine fin (a9 := (Value.ref (z + a) :: as2.map (am_cv z fr)).toArray) (va_runI (As := as2.map (am_cv z fr)) (b := z + a) (bytes := am_by x) (maxL := am_ml x) (n := am_na x - 1) (Ts := lw_g) (own := am_nm (am_ow mth)) (cc := am_by mth) (nL := am_ml mth) (index := j) ⟨hx, hb, hml, hown, hts⟩ hMx (cwI (am_na x - 1) hts (fun w hw => lw_g_good w (am_gc hcd w hw)) (by rw [hrt]) rfl rfl (hts _ hini) (hts _ hlk) (hts _ hin1) hnm ⟨f2.1, f2.2, by rw [f4, if_neg hrc0]⟩ hroom) ⟨am_Pc_blind, hPc⟩ rfl (by rw [List.length_map]; rw [List.length_cons] at hlen; omega) hl.2.1 rfl (lv_room (by rw [am_cats]; exact hrl)) hdg ⟨hrc, hrs⟩)
        · rw [hmx] at hlk
          refine fin (a9 := (Value.ref (z + a) :: as2.map (am_cv z fr)).toArray) (va_runIN (As := as2.map (am_cv z fr)) (b := z + a) (host := "DiffBench") (bytes := am_by x) (maxL := am_ml x) (n := am_na x - 1) (Ts := lw_g) (own := am_nm (am_ow mth)) (cc := am_by mth) (nL := am_ml mth) (index := j) ⟨hx, hb, hml, hown, hts⟩ hMx ⟨va_cnB (am_na x - 1) hts (fun w hw => lw_g_good w (am_gc hcd w hw)) (by rw [hrt]) rfl rfl (hF.2.2.1 _ hlk rfl) (hts _ hini) ⟨f2.1, f2.2, by rw [f4, if_neg hrc0]⟩ hroom, hnm, hts _ hin1⟩ ⟨am_Pc_blind, hPc⟩ rfl (by rw [List.length_map]; rw [List.length_cons] at hlen; omega) hl.2.1 rfl (lv_room (by rw [am_cats]; exact hrl)) hdg ⟨hrc, hrs⟩)
  by_cases i1 : ∃ j, ins = .invokestatic j
  · obtain ⟨j, rfl⟩ := i1
    obtain rfl := hsw.resolve_left Bool.false_ne_true
    have h : (if x = 1003 then am_copy pc ls st H else if x = 1004 then am_m1 (fun x => if 0 ≤ x then x else 0 - x) pc ls st H else if x = 1005 then am_m2 (fun x y => if x < y then y else x) pc ls st H else if x = 1006 then am_m2 (fun x y => if y < x then y else x) pc ls st H else am_call (am_rc x) x y pc st H) = some (.inr (.inr (k, as, pc', r))) := h
    have hk : (if x = 1003 then am_mle (am_ow mth) j 1003 0 && decide (1 ≤ am_rk mth) else if x = 1004 then am_mle (am_ow mth) j 1004 0 && decide (1 ≤ am_rk mth) else if x = 1005 then am_mle (am_ow mth) j 1005 0 && decide (1 ≤ am_rk mth) else if x = 1006 then am_mle (am_ow mth) j 1006 0 && decide (1 ≤ am_rk mth) else am_cck mth x y && am_mle (am_ow mth) j x 0 && decide (am_rc x = none)) = true := hk
    by_cases b1 : x = 1003
    · rw [if_pos b1] at h
      simp only [am_copy, am_nx] at h
      exfalso
      repeat' split at h
      all_goals cases h
    rw [if_neg b1] at h hk
    by_cases b2 : x = 1004
    · rw [if_pos b2] at h
      simp only [am_m1, am_nx] at h
      exfalso
      repeat' split at h
      all_goals cases h
    rw [if_neg b2] at h hk
    by_cases b3 : x = 1005
    · rw [if_pos b3] at h
      simp only [am_m2, am_nx] at h
      exfalso
      repeat' split at h
      all_goals cases h
    rw [if_neg b3] at h hk
    by_cases b4 : x = 1006
    · rw [if_pos b4] at h
      simp only [am_m2, am_nx] at h
      exfalso
      repeat' split at h
      all_goals cases h
    rw [if_neg b4] at h hk
    simp only [Bool.and_eq_true, decide_eq_true_eq] at hk
    exact key h hk.1.1 rfl (Or.inl ⟨j, rfl, hk.2, am_mle_get hk.1.2⟩)
  by_cases i2 : ∃ j, ins = .invokevirtual j
  · obtain ⟨j, rfl⟩ := i2
    obtain rfl := hsw.resolve_left Bool.false_ne_true
    have h : (if x = 1001 then am_slen X pc ls st H else if x = 1002 then am_schr X pc ls st H else am_call (am_rc x) x y pc st H) = some (.inr (.inr (k, as, pc', r))) := h
    have hk : (if x = 1001 then am_mle (am_ow mth) j 1001 0 && decide (2 ≤ am_rk mth) else if x = 1002 then am_mle (am_ow mth) j 1002 0 && decide (4 ≤ am_rk mth) else am_cck mth x y && am_mle (am_ow mth) j x 0 && decide ((am_mn x).name ≠ "<init>") && decide (am_rc x ≠ none)) = true := hk
    by_cases b1 : x = 1001
    · rw [if_pos b1] at h
      simp only [am_slen, am_nx] at h
      exfalso
      repeat' split at h
      all_goals cases h
    rw [if_neg b1] at h hk
    by_cases b2 : x = 1002
    · rw [if_pos b2] at h
      simp only [am_schr, am_nx] at h
      exfalso
      repeat' split at h
      all_goals cases h
    rw [if_neg b2] at h hk
    simp only [Bool.and_eq_true, decide_eq_true_eq] at hk
    exact key h hk.1.1.1 rfl (Or.inr (Or.inl ⟨j, rfl, hk.2, hk.1.2, am_mle_get hk.1.1.2⟩))
  by_cases i3 : ∃ j, ins = .invokespecial j
  · obtain ⟨j, rfl⟩ := i3
    obtain rfl := hsw.resolve_left Bool.false_ne_true
    have h : (if x = 1000 then am_oini pc ls st H else am_call (am_rc x) x y pc st H) = some (.inr (.inr (k, as, pc', r))) := h
    have hk : (if x = 1000 then am_mle (am_ow mth) j 1000 0 && decide (1 ≤ am_rk mth) else am_cck mth x y && (am_mle (am_ow mth) j x 0 || am_mle (am_ow mth) j x 1) && decide ((am_mn x).name = "<init>") && decide (am_rc x ≠ none)) = true := hk
    by_cases b1 : x = 1000
    · rw [if_pos b1] at h
      simp only [am_oini, am_nx] at h
      exfalso
      repeat' split at h
      all_goals cases h
    rw [if_neg b1] at h hk
    simp only [Bool.and_eq_true, Bool.or_eq_true, decide_eq_true_eq] at hk
    exact key h hk.1.1.1 rfl (Or.inr (Or.inr ⟨j, rfl, hk.2, hk.1.2, hk.1.1.2.imp am_mle_get am_mle_get⟩))
  exfalso
  unfold am_step at h
  split at h <;> (try simp only [am_nx, am_bin, am_div, am_un, am_iload, am_aload, am_istore, am_astore, am_iinc, am_j1, am_j2, am_jr, am_sw, am_getf, am_putf, am_ald, am_ast, am_aald, am_aast, am_alen, am_new, am_newa, am_newq, am_mna, am_ret, am_ldc, am_pop, am_dup, am_dup2] at h) <;> first | (rename_i hq; exact i1 ⟨_, hq⟩) | (rename_i hq; exact i2 ⟨_, hq⟩) | (rename_i hq; exact i3 ⟨_, hq⟩) | ((repeat' split at h) <;> cases h)
end AMR
