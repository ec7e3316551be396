/-! one step, whichever it is -/
set_option maxHeartbeats 4000000 in
theorem am_step_mono {G : am_G} {X : am_X} {mth pc : Nat} {i : am_I} {ls : am_L} {st : List Value} {H : am_H} {q} (h : am_step G X mth i pc ls st H = some (.inl q)) : H.1 ≤ q.2.2.2.1 ∧ H.2.1 ≤ q.2.2.2.2.1 := by
  unfold am_step at h
  split at h <;> ((try simp only [am_nx, am_bin, am_div, am_un, am_iload, am_aload, am_istore, am_astore, am_iinc, am_j1, am_j2, am_jr, am_sw, am_getf, am_putf, am_ald, am_ast, am_aald, am_aast, am_alen, am_new, am_newa, am_newq, am_mna, am_copy, am_slen, am_schr, am_m1, am_m2, am_oini, am_call, am_ret, am_ldc, am_pop, am_dup, am_dup2] at h); repeat' split at h) <;> (try cases h) <;> (refine ⟨?_, ?_⟩ <;> (try simp) <;> (try omega))
theorem am_call_no {rc : Option Nat} {k n pc : Nat} {st : List Value} {H : am_H} {q} : ¬ am_call rc k n pc st H = some (.inl q) := by
  intro h
  unfold am_call at h
  repeat' split at h
  all_goals cases h
theorem am_ret_no {ty : Option FieldType} {st : List Value} {q} : ¬ am_ret ty st = some (.inl q) := by
  intro h
  unfold am_ret at h
  repeat' split at h
  all_goals cases h
theorem am_fc (x : Int32) : fits .char (.int (vp_nar .char x)) = true := by
  have e1 : x.toUInt32.toUInt16.toUInt32 = x.toUInt32 % 65536 := by
    apply UInt32.toNat.inj
    simp
  rw [vp_nar_char, e1]
  exact pk_fc x
section AMR
variable {p : Program} {l : Launch} {e : Env} {R : Room} {s : State} {m : MethodId} {args : Array Value} {below : List Frame} {meth : Method} {c : Code} {Q : State → Prop} {z : Nat} {fr adV : Nat → Nat} {cA : FieldType → ClassId} {D : va_G} {X : am_X} {mth pc : Nat} {ls : am_L} {st : List Value} {H : am_H} {Hh : Heap} {locs : List Loc} {cls : Array Slot} {cells slots : Nat}
theorem am_s_ldcw {T : State} (Xs : Stand p l e R s m args below meth c T locs cells slots) (hexec : p.tables.exec = Jvm.exec) {own tx : String} {index a : Nat} (hown : s.vm.findClass own = some m.cls) (hZ : vk_R own index tx a s) {g : JFrame} (hg : g.method = m) (hdg : decode c.code g.pc = .ok (.ldc_w index, 3)) :
    ∀ target, Steps p.tables e below (T.setTop { g with pc := g.pc + 3, stack := .ref a :: g.stack }) target → Steps p.tables e below (T.setTop g) target := by
  obtain ⟨k, cf, i, a2, hk, hcf, hcp, -, hr, hev⟩ := Cond.stringRef_spec hown hZ.1
  have ea : a2 = a := by
    have h1 := hev.symm.trans hZ.2
    cases h1
    rfl
  subst ea
  obtain ⟨k2, hk2, he⟩ := Xs.warmed.alike.2.2 _ _ hk
  have hr2 : k2.resolved[index]? = some (some (.string a2)) := by
    rcases Xs.warmed.entry hk hk2 index with h | ⟨h, -⟩
    · exact h.trans hr
    · rw [hr] at h
      cases h
  intro target hrest
  subst hg
  jvm_step Xs.here [hexec, hdg, ldc_w.wp_string (e := e) (s := T) (f := g) Xs.here.top hk2 (by rw [he]; exact hcf) hcp hr2]
  exact hrest
theorem am_lc_get {o j : Nat} {v : Int32} (h : am_lc.any (fun e => e.1 == o && e.2.1 == j && e.2.2 == v) = true) : Cond.constant (am_nm o) j v ∈ lw_g := by
  obtain ⟨e, he, h2⟩ := List.any_eq_true.mp h
  simp only [Bool.and_eq_true, beq_iff_eq] at h2
  obtain ⟨⟨rfl, rfl⟩, rfl⟩ := h2
  have h3 := List.all_eq_true.mp am_lc_ok e he
  rw [Bool.and_eq_true, decide_eq_true_eq] at h3
  exact lw_g_in h3.1 h3.2
set_option maxHeartbeats 4000000 in
theorem am_1 {i : am_I} {q} (hc : am_cd mth pc = some i) (h : am_step am_g X mth i pc ls st H = some (.inl q)) (cx : am_cx p R s m args meth c z fr adV cA X mth) (ok : am_ok s z fr cA D mth ls H Hh locs cls cells) (hX : am_bs X) (hrc : cells + (q.2.2.2.1 - H.1) ≤ R.cells) (hrs : slots + (q.2.2.2.2.1 - H.2.1) ≤ R.slots) (kk : am_K p l e R s m args below meth c Q z fr cA D mth H cells slots q) : W p l e R s m args below meth c Hh locs cells slots Q (F0 m pc cls (st.map (am_cv z fr))) := by
  obtain ⟨hm, hck⟩ := am_dec hc
  obtain ⟨ln, hdg, hsw, hk⟩ := am_dec1 hck
  obtain ⟨hx, hb, hml, hown, hts, hin, hF, hcA, hfr, hlo⟩ := id cx
  have hc0 : cells ≤ R.cells := by omega
  have hs0 : slots ≤ R.slots := by omega
  obtain ⟨ins, x, y, v⟩ := i
  dsimp only at hdg hsw
  unfold am_step at h
  split at h <;> (try dsimp only at h) <;> (rename_i hins; (try dsimp only at hins); first | subst hins | cases h)
  · -- iconst
    obtain rfl := hsw.resolve_left Bool.false_ne_true
    obtain ⟨q1, q2, q3, q4⟩ := q
    obtain ⟨rfl, rfl, rfl, rfl⟩ := am_nx_inv h
    exact lv_iconst hx hb hdg (of_decide_eq_true hk) (kk.pure ok)
  · -- bipush
    obtain rfl := hsw.resolve_left Bool.false_ne_true
    obtain ⟨q1, q2, q3, q4⟩ := q
    obtain ⟨rfl, rfl, rfl, rfl⟩ := am_nx_inv h
    exact lv_bipush hx hb hdg (of_decide_eq_true hk) (kk.pure ok)
  · -- sipush
    obtain rfl := hsw.resolve_left Bool.false_ne_true
    obtain ⟨q1, q2, q3, q4⟩ := q
    obtain ⟨rfl, rfl, rfl, rfl⟩ := am_nx_inv h
    exact lv_sipush hx hb hdg (of_decide_eq_true hk) (kk.pure ok)
  · -- ldc
    obtain rfl := hsw.resolve_left Bool.false_ne_true
    rename_i j
    have hk : (if x = 0 then am_lc.any (fun e => e.1 == am_ow mth && e.2.1 == j && e.2.2 == v) else decide (y < am_NS) && decide (am_so y = (am_ow mth, j))) = true := hk
    refine am_s_ldc h ok (fun hk0 rest k2 => ?_) (fun hk0 rest k2 => ?_) kk
    · rw [if_pos hk0] at hk
      exact lv_ldc hx hb hown (hts _ (am_lc_get hk)) hdg k2
    · rw [if_neg hk0, Bool.and_eq_true, decide_eq_true_eq, decide_eq_true_eq] at hk
      have hZ := (hF.2.1 y).1 hk.1
      rw [hk.2] at hZ
      exact va_ldcS hx hb hown hZ hdg k2
  · -- ldc_w
    obtain rfl := hsw.resolve_left Bool.false_ne_true
    rename_i j
    have hk : (if x = 0 then am_lc.any (fun e => e.1 == am_ow mth && e.2.1 == j && e.2.2 == v) else decide (y < am_NS) && decide (am_so y = (am_ow mth, j))) = true := hk
    refine am_s_ldc h ok (fun hk0 rest k2 => ?_) (fun hk0 rest k2 => ?_) kk
    · rw [if_pos hk0] at hk
      exact lv_ldcw hx hb hown (hts _ (am_lc_get hk)) hdg k2
    · rw [if_neg hk0, Bool.and_eq_true, decide_eq_true_eq, decide_eq_true_eq] at hk
      have hZ := (hF.2.1 y).1 hk.1
      rw [hk.2] at hZ
      intro T hT Xs
      obtain ⟨t, a1, b1⟩ := k2 T hT Xs
      exact ⟨t, am_s_ldcw Xs hx hown hZ (g := F0 m pc cls rest) rfl (by rw [hb]; exact hdg) t a1, b1⟩
  · -- iload
    obtain rfl := hsw.resolve_left Bool.false_ne_true
    obtain rfl := of_decide_eq_true hk
    exact am_s_iload h ok (fun x rest hl k2 => lv_iload hx hb hdg hl k2) kk
  · obtain rfl := hsw.resolve_left Bool.false_ne_true
    exact am_s_iload h ok (fun x rest hl k2 => lv_iload_n hx hb hdg (of_decide_eq_true hk) hl k2) kk
  · obtain rfl := hsw.resolve_left Bool.false_ne_true
    obtain rfl := of_decide_eq_true hk
    exact am_s_aload h ok (fun x rest hl k2 => lv_aload hx hb hdg hl k2) kk
  · obtain rfl := hsw.resolve_left Bool.false_ne_true
    exact am_s_aload h ok (fun x rest hl k2 => lv_aload_n hx hb hdg (of_decide_eq_true hk) hl k2) kk
  · obtain rfl := hsw.resolve_left Bool.false_ne_true
    obtain rfl := of_decide_eq_true hk
    exact am_s_istore h ok (fun x rest hi k2 => lv_istore hx hb hdg (am_hl_has ok.2.2.2.2.1) hi rfl k2) kk
  · obtain rfl := hsw.resolve_left Bool.false_ne_true
    exact am_s_istore h ok (fun x rest hi k2 => lv_istore_n hx hb hdg (of_decide_eq_true hk) (am_hl_has ok.2.2.2.2.1) hi rfl k2) kk
  · obtain rfl := hsw.resolve_left Bool.false_ne_true
    exact am_s_astore h ok (fun x rest hi k2 => lv_astore_n hx hb hdg (of_decide_eq_true hk) (am_hl_has ok.2.2.2.2.1) hi rfl k2) kk
  · -- iinc
    obtain rfl := hsw.resolve_left Bool.false_ne_true
    rename_i j n
    have hk : (decide (j = x) && decide (Int32.ofInt n = v)) = true := hk
    rw [Bool.and_eq_true, decide_eq_true_eq, decide_eq_true_eq] at hk
    obtain ⟨rfl, hv⟩ := hk
    exact am_s_iinc h ok hx hb hdg hv kk
  · obtain rfl := hsw.resolve_left Bool.false_ne_true
    exact am_s_bin h ok (fun x y rest k2 => lv_iadd hx hb hdg k2) kk
  · obtain rfl := hsw.resolve_left Bool.false_ne_true
    exact am_s_bin h ok (fun x y rest k2 => lv_isub hx hb hdg k2) kk
  · obtain rfl := hsw.resolve_left Bool.false_ne_true
    exact am_s_bin h ok (fun x y rest k2 => lv_imul hx hb hdg k2) kk
  · obtain rfl := hsw.resolve_left Bool.false_ne_true
    exact am_s_bin h ok (fun x y rest k2 => lv_iand hx hb hdg k2) kk
  · obtain rfl := hsw.resolve_left Bool.false_ne_true
    exact am_s_bin h ok (fun x y rest k2 => lv_ishr hx hb hdg k2) kk
  · obtain rfl := hsw.resolve_left Bool.false_ne_true
    exact am_s_bin h ok (fun x y rest k2 => lv_iushr hx hb hdg rfl k2) kk
  · obtain rfl := hsw.resolve_left Bool.false_ne_true
    exact am_s_div h ok (fun x y rest hy k2 => lv_idiv hx hb hdg hy k2) kk
  · obtain rfl := hsw.resolve_left Bool.false_ne_true
    exact am_s_div h ok (fun x y rest hy k2 => lv_irem hx hb hdg hy k2) kk
  · obtain rfl := hsw.resolve_left Bool.false_ne_true
    exact am_s_un h ok (fun x rest k2 => lv_ineg hx hb hdg k2) kk
  · obtain rfl := hsw.resolve_left Bool.false_ne_true
    exact am_s_un h ok (fun x rest k2 => lv_i2b hx hb hdg rfl k2) kk
  · obtain rfl := hsw.resolve_left Bool.false_ne_true
    exact am_s_un h ok (fun x rest k2 => lv_i2c hx hb hdg rfl k2) kk
  · -- ifCond
    obtain rfl := hsw.resolve_left Bool.false_ne_true
    have ht := of_decide_eq_true hk
    split at h
    · exact am_s_j1 h ok (fun x rest k1 k2 => lv_if_eq hx hb hdg ht (fun q => k1 (decide_eq_true q)) (fun q => k2 (fun w => q (of_decide_eq_true w)))) kk
    · exact am_s_j1 h ok (fun x rest k1 k2 => lv_if_ne hx hb hdg ht (fun q => k1 (decide_eq_true q)) (fun q => k2 (fun w => (of_decide_eq_true w) q))) kk
    · exact am_s_j1 h ok (fun x rest k1 k2 => lv_if_lt hx hb hdg ht (fun q => k1 (decide_eq_true q)) (fun q => k2 (fun w => q (of_decide_eq_true w)))) kk
    · exact am_s_j1 h ok (fun x rest k1 k2 => lv_if_ge hx hb hdg ht (fun q => k1 (decide_eq_true q)) (fun q => k2 (fun w => q (of_decide_eq_true w)))) kk
    · exact am_s_j1 h ok (fun x rest k1 k2 => lv_if_gt hx hb hdg ht (fun q => k1 (decide_eq_true q)) (fun q => k2 (fun w => q (of_decide_eq_true w)))) kk
    · exact am_s_j1 h ok (fun x rest k1 k2 => lv_if_le hx hb hdg ht (fun q => k1 (decide_eq_true q)) (fun q => k2 (fun w => q (of_decide_eq_true w)))) kk
  · -- if_icmp
    obtain rfl := hsw.resolve_left Bool.false_ne_true
    have ht := of_decide_eq_true hk
    split at h
    · exact am_s_j2 h ok (fun x y rest k1 k2 => lv_icmp_eq hx hb hdg ht (fun q => k1 (decide_eq_true q)) (fun q => k2 (fun w => q (of_decide_eq_true w)))) kk
    · exact am_s_j2 h ok (fun x y rest k1 k2 => lv_icmp_ne hx hb hdg ht (fun q => k1 (decide_eq_true q)) (fun q => k2 (fun w => (of_decide_eq_true w) q))) kk
    · exact am_s_j2 h ok (fun x y rest k1 k2 => lv_icmp_lt hx hb hdg ht (fun q => k1 (decide_eq_true q)) (fun q => k2 (fun w => q (of_decide_eq_true w)))) kk
    · exact am_s_j2 h ok (fun x y rest k1 k2 => lv_icmp_ge hx hb hdg ht (fun q => k1 (decide_eq_true q)) (fun q => k2 (fun w => q (of_decide_eq_true w)))) kk
    · exact am_s_j2 h ok (fun x y rest k1 k2 => lv_icmp_gt hx hb hdg ht (fun q => k1 (decide_eq_true q)) (fun q => k2 (fun w => q (of_decide_eq_true w)))) kk
    · exact am_s_j2 h ok (fun x y rest k1 k2 => lv_icmp_le hx hb hdg ht (fun q => k1 (decide_eq_true q)) (fun q => k2 (fun w => q (of_decide_eq_true w)))) kk
  · -- if_acmpne
    obtain rfl := hsw.resolve_left Bool.false_ne_true
    exact am_s_jr h ok hx hb hdg (of_decide_eq_true hk) kk
  · -- goto
    obtain rfl := hsw.resolve_left Bool.false_ne_true
    obtain ⟨q1, q2, q3, q4⟩ := q
    obtain ⟨rfl, rfl, rfl, rfl⟩ := am_nx_inv h
    exact lv_goto hx hb hdg (of_decide_eq_true hk) (kk.pure ok)
  · -- tableswitch
    rename_i d lo hi offs
    have hk : (decide (0 ≤ (pc : Int) + d) && offs.toList.all (fun o => decide (0 ≤ (pc : Int) + o))) = true := hk
    rw [Bool.and_eq_true, decide_eq_true_eq] at hk
    exact am_s_sw h ok hx hb hdg hk.1 (fun o ho => of_decide_eq_true (List.all_eq_true.mp hk.2 o ho)) kk
  · obtain rfl := hsw.resolve_left Bool.false_ne_true
    exact am_s_getf h cx ok hdg hk kk
  · obtain rfl := hsw.resolve_left Bool.false_ne_true
    exact am_s_putf h cx ok hdg hk kk
  · obtain rfl := hsw.resolve_left Bool.false_ne_true
    exact am_s_ald h cx ok (fun a t0 n f i tys rest hK ha ht hi k2 => va_iald hx hb hK ok.1 a t0 ha ht hi hdg k2) (fun _ => hdg) kk
  · obtain rfl := hsw.resolve_left Bool.false_ne_true
    exact am_s_ald h cx ok (fun a t0 n f i tys rest hK ha ht hi k2 => va_bald hx hb hK ok.1 a t0 ha ht hi hdg k2) (fun q => by cases q) kk
  · obtain rfl := hsw.resolve_left Bool.false_ne_true
    exact am_s_ald h cx ok (fun a t0 n f i tys rest hK ha ht hi k2 => va_cald hx hb hK ok.1 a t0 ha ht hi hdg k2) (fun q => by cases q) kk
  · obtain rfl := hsw.resolve_left Bool.false_ne_true
    exact am_s_ast h ok (fun _ => rfl) (fun a t0 n f i x tys rest hK ha ht hi k2 => va_iast hx hb hK ok.1 (am_D H) ok.2.2.2.1 a t0 ha ht hi hdg k2) kk
  · obtain rfl := hsw.resolve_left Bool.false_ne_true
    exact am_s_ast h ok (fun x => by rw [vp_nar_byte]; exact pk_fb x) (fun a t0 n f i x tys rest hK ha ht hi k2 => va_bast hx hb hK ok.1 (am_D H) ok.2.2.2.1 a t0 ha ht hi hdg k2) kk
  · obtain rfl := hsw.resolve_left Bool.false_ne_true
    exact am_s_ast h ok (fun x => am_fc x) (fun a t0 n f i x tys rest hK ha ht hi k2 => va_cast hx hb hK ok.1 (am_D H) ok.2.2.2.1 a t0 ha ht hi hdg k2) kk
  · obtain rfl := hsw.resolve_left Bool.false_ne_true
    exact am_s_aald h ok hx hb hdg kk
  · obtain rfl := hsw.resolve_left Bool.false_ne_true
    exact am_s_aast h ok hx hb hdg kk
  · obtain rfl := hsw.resolve_left Bool.false_ne_true
    exact am_s_alen h cx ok hdg kk
  · obtain rfl := hsw.resolve_left Bool.false_ne_true
    exact am_s_new h cx ok hdg hk hrc hrs kk
  · -- newarray
    obtain rfl := hsw.resolve_left Bool.false_ne_true
    split at h
    · exact am_s_newa h rfl (Or.inl rfl) cx ok hdg hk hrc hrs kk
    · exact am_s_newa h rfl (Or.inr (Or.inl rfl)) cx ok hdg hk hrc hrs kk
    · exact am_s_newa h rfl (Or.inr (Or.inr rfl)) cx ok hdg hk hrc hrs kk
    · cases h
  · obtain rfl := hsw.resolve_left Bool.false_ne_true
    exact am_s_newq h cx ok hdg hk hrc hrs kk
  · -- multianewarray
    obtain rfl := hsw.resolve_left Bool.false_ne_true
    split at h
    · rename_i hx0
      exact am_s_mna h (Or.inl ⟨rfl, hx0⟩) cx ok hdg hk hrc hrs kk
    · rename_i hx0
      exact am_s_mna h (Or.inr ⟨rfl, hx0⟩) cx ok hdg hk hrc hrs kk
  · -- invokespecial
    obtain rfl := hsw.resolve_left Bool.false_ne_true
    rename_i j
    split at h
    · rename_i hx0
      have hk : (if x = 1000 then am_mle (am_ow mth) j 1000 0 && decide (1 ≤ am_rk mth) else am_cck mth x y && (am_mle (am_ow mth) j x 0 || am_mle (am_ow mth) j x 1) && decide ((am_mn x).name = "<init>") && decide (am_rc x ≠ none)) = true := hk
      rw [if_pos hx0, Bool.and_eq_true, decide_eq_true_eq] at hk
      exact am_s_oini h cx ok hdg hk.1 hk.2 kk
    · exact absurd h (am_call_no)
  · -- invokevirtual
    obtain rfl := hsw.resolve_left Bool.false_ne_true
    rename_i j
    have hk : (if x = 1001 then am_mle (am_ow mth) j 1001 0 && decide (2 ≤ am_rk mth) else if x = 1002 then am_mle (am_ow mth) j 1002 0 && decide (4 ≤ am_rk mth) else am_cck mth x y && am_mle (am_ow mth) j x 0 && decide ((am_mn x).name ≠ "<init>") && decide (am_rc x ≠ none)) = true := hk
    split at h
    · rename_i hx0
      rw [if_pos hx0, Bool.and_eq_true, decide_eq_true_eq] at hk
      exact am_s_slen h cx ok hdg hk.1 hk.2 hc0 hs0 kk
    · rename_i hx0
      split at h
      · rename_i hx1
        rw [if_neg hx0, if_pos hx1, Bool.and_eq_true, decide_eq_true_eq] at hk
        exact am_s_schr h cx ok hX hdg hk.1 hk.2 hc0 hs0 kk
      · exact absurd h (am_call_no)
  · -- invokestatic
    obtain rfl := hsw.resolve_left Bool.false_ne_true
    rename_i j
    have hk : (if x = 1003 then am_mle (am_ow mth) j 1003 0 && decide (1 ≤ am_rk mth) else if x = 1004 then am_mle (am_ow mth) j 1004 0 && decide (1 ≤ am_rk mth) else if x = 1005 then am_mle (am_ow mth) j 1005 0 && decide (1 ≤ am_rk mth) else if x = 1006 then am_mle (am_ow mth) j 1006 0 && decide (1 ≤ am_rk mth) else am_cck mth x y && am_mle (am_ow mth) j x 0 && decide (am_rc x = none)) = true := hk
    split at h
    · rename_i hx0
      rw [if_pos hx0, Bool.and_eq_true, decide_eq_true_eq] at hk
      exact am_s_copy h cx ok hdg hk.1 hk.2 kk
    · rename_i hx0
      rw [if_neg hx0] at hk
      split at h
      · rename_i hx0
        rw [if_pos hx0, Bool.and_eq_true, decide_eq_true_eq] at hk
        exact am_s_mabs h cx ok hdg hk.1 hk.2 hc0 hs0 kk
      · rename_i hx0
        rw [if_neg hx0] at hk
        split at h
        · rename_i hx0
          rw [if_pos hx0, Bool.and_eq_true, decide_eq_true_eq] at hk
          exact am_s_mmax h cx ok hdg hk.1 hk.2 hc0 hs0 kk
        · rename_i hx0
          rw [if_neg hx0] at hk
          split at h
          · rename_i hx0
            rw [if_pos hx0, Bool.and_eq_true, decide_eq_true_eq] at hk
            exact am_s_mmin h cx ok hdg hk.1 hk.2 hc0 hs0 kk
          · exact absurd h (am_call_no)
  · -- ireturn
    exact absurd h am_ret_no
  · -- return
    split at h <;> cases h
  · obtain rfl := hsw.resolve_left Bool.false_ne_true
    exact am_s_dup h ok hx hb hdg kk
  · obtain rfl := hsw.resolve_left Bool.false_ne_true
    exact am_s_dup2 h ok hx hb hdg kk
  · obtain rfl := hsw.resolve_left Bool.false_ne_true
    exact am_s_pop h ok hx hb hdg kk
end AMR
