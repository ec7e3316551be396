/-! the rows of new cells, of the JDK's own -/
section AMR
variable {p : Program} {l : Launch} {e : Env} {R : Room} {s : State} {m : MethodId} {args : Array Value} {below : List Frame} {meth : Method} {c : Code} {Q : State → Prop} {z : Nat} {fr adV : Nat → Nat} {cA : FieldType → ClassId} {D : va_G} {X : am_X} {mth pc : Nat} {ls : am_L} {st : List Value} {H : am_H} {Hh : Heap} {locs : List Loc} {cls : Array Slot} {cells slots : Nat}
theorem am_fresh {H : am_H} {q : Nat} {e1 : va_E} (hD : va_D (fun q => z ≤ q) (am_ws z fr cA H ++ [(q, e1)])) (hq : q < z + H.1 + 1) : q = z + H.1 := by
  have hlen : (am_ws z fr cA H).length = H.1 := by simp [am_ws]
  have hg : (am_ws z fr cA H ++ [(q, e1)])[H.1]? = some (q, e1) := by
    rw [List.getElem?_append_right (by omega), hlen, Nat.sub_self]
    rfl
  have hz : z ≤ q := hD.2 H.1 _ hg
  rcases Nat.lt_or_ge q (z + H.1) with hlt | hge
  · have hk : q - z < H.1 := by omega
    have hg2 : (am_ws z fr cA H ++ [(q, e1)])[q - z]? = some (z + (q - z), am_ce z fr cA (H.2.2 (q - z))) := by
      rw [List.getElem?_append_left (by omega)]
      exact am_ws_get hk
    have := hD.1 (q - z) H.1 _ _ hg2 hg (by show z + (q - z) = q; omega)
    omega
  · omega
/-- the world has a new cell -/
theorem am_K.new {pc' N : Nat} {e' : am_E} {st' : List Value} (kk : am_K p l e R s m args below meth c Q z fr cA D mth H cells slots (pc', ls, .ref H.1 :: st', (H.1 + 1, H.2.1 + N, am_up H.2.2 H.1 e'))) (ok : am_ok s z fr cA D mth ls H Hh locs cls cells) (hf : ∀ ty n f, e' = .inl (ty, n, .inl f) → ∀ i, fits ty (.int (f i)) = true) {tys : List (ClassId × FieldType)} (hK : va_K D am_cl tys s) (hv : am_cov cA tys H) (hc : ∀ ty n x, e' = .inl (ty, n, x) → ∃ t : Nat, tys[t]? = some (cA ty, ty)) (q : Nat) (H1 : Heap) (hP : va_P D am_cl (am_ws z fr cA H ++ [(q, am_ce z fr cA e')]) H1) (hD : va_D (fun q => z ≤ q) (am_ws z fr cA H ++ [(q, am_ce z fr cA e')])) (hS : va_S (fun q => z ≤ q) s.heap H1 locs) : W p l e R s m args below meth c H1 locs (cells + 1) (slots + N) Q (F0 m pc' cls (.ref q :: st'.map (am_cv z fr))) := by
  obtain ⟨h1, -, h3, h4, h5, h6⟩ := ok
  refine am_Wsz fun hsz => ?_
  have hlen : (am_ws z fr cA H).length = H.1 := by simp [am_ws]
  have hlt : q < H1.size := by
    refine (hP H.1 (q, am_ce z fr cA e') ?_).lt
    rw [List.getElem?_append_right (by omega), hlen, Nat.sub_self]
    rfl
  have hq : q = z + H.1 := am_fresh hD (by omega)
  subst hq
  rw [am_ws_push e' (H.2.1 + N)] at hP
  refine kk H1 locs cls (cells + 1) (slots + N) (by simp) (by simp) ⟨hP, ⟨tys, hK, am_cov_up hv hc _ _⟩, am_wf_new h3 hf _, hS, h5, ?_⟩
  show s.heap.size + (cells + 1) = z + (H.1 + 1)
  omega
theorem am_df_cv {ci : Nat} (hc : ci < 13) : (am_df ci).map (am_cv z fr) = am_df ci := by
  have h : ci = 0 ∨ ci = 1 ∨ ci = 2 ∨ ci = 3 ∨ ci = 4 ∨ ci = 5 ∨ ci = 6 ∨ ci = 7 ∨ ci = 8 ∨ ci = 9 ∨ ci = 10 ∨ ci = 11 ∨ ci = 12 := by omega
  rcases h with rfl | rfl | rfl | rfl | rfl | rfl | rfl | rfl | rfl | rfl | rfl | rfl | rfl <;> rfl
theorem am_s_new {j ci N : Nat} {q} (h : am_new ci N (am_df ci) pc ls st H = some (.inl q)) (cx : am_cx p R s m args meth c z fr adV cA X mth) (ok : am_ok s z fr cA D mth ls H Hh locs cls cells) (hdg : decode (am_by mth) pc = .ok (.new j, 3)) (hk : am_opk mth pc (.new j, ci, N, 0) = true) (hrc : cells + (q.2.2.2.1 - H.1) ≤ R.cells) (hrs : slots + (q.2.2.2.2.1 - H.2.1) ≤ R.slots) (kk : am_K p l e R s m args below meth c Q z fr cA D mth H cells slots q) : W p l e R s m args below meth c Hh locs cells slots Q (F0 m pc cls (st.map (am_cv z fr))) := by
  obtain ⟨hx, hb, hml, hown, hts, hin, hF, hcA, hfr, hlo⟩ := cx
  unfold am_new at h
  obtain ⟨q1, q2, q3, q4⟩ := q
  obtain ⟨rfl, rfl, rfl, rfl⟩ := am_nx_inv h
  obtain ⟨hP, ⟨tys, hK, hcov⟩, hwf, hS, -⟩ := id ok
  have hk : (decide (ci < 13) && decide (N = am_nf ci) && am_w (.classLink (am_nm (am_ow mth)) j (am_nm ci)) && am_w (.instantiable (am_nm ci) (am_nf ci)) && am_w (.initialized (am_nm ci))) = true := hk
  simp only [Bool.and_eq_true, decide_eq_true_eq] at hk
  obtain ⟨⟨⟨⟨h13, rfl⟩, w1⟩, w2⟩, w3⟩ := hk
  have hrc : cells + 1 ≤ R.cells := by simpa using hrc
  have hrs : slots + am_nf ci ≤ R.slots := by simpa using hrs
  refine va_new (ci := ci) (C := am_nm ci) (T := am_T ci) (N := am_nf ci) (fs := (am_df ci).map (am_cv z fr)) hx hb hts (am_lay h13) (am_ty ci) (am_tys_ok ci h13) hown (hts _ (am_w_in w1)) (hts _ (am_w_in w2)) (hts _ (am_w_in w3)) hK hP (am_D H) hS (fun q h9 => Nat.le_trans hF.1.2.2 h9) (am_nms ci h13) (fun i hi => by rw [am_df_cv h13]; exact am_df_ok ci h13 i hi) hrc hrs hdg (fun q H1 hP1 hD1 hS1 => ?_)
  exact kk.new ok (fun ty n f q => by cases q) hK hcov (fun ty n x q => by cases q) q H1 hP1 hD1 hS1
theorem am_n100 {n : Int32} (h0 : ¬ n < 0) (h1 : ¬ 100000 < n) : n.toNatClampNeg ≤ 100000 := by
  obtain ⟨k, hk, rfl⟩ := nI_of h0
  rw [nI_clamp hk]
  rcases Nat.lt_or_ge 100000 k with q | q
  · exact absurd (nI_lt (a := 100000) (b := k) q hk) h1
  · exact q
theorem am_newk {tys : List (ClassId × FieldType)} {ty : FieldType} {k : ClassId} (hcA : ∀ ty k, s.vm.findClass ("[" ++ ty.toString) = some k → cA ty = k) (hK : va_K D am_cl (tys ++ [(k, ty)]) s) (hf : va_RA s k ty → s.vm.findClass ("[" ++ ty.toString) = some k) : cA ty = k ∧ (tys ++ [(k, ty)])[tys.length]? = some (cA ty, ty) := by
  have hg : (tys ++ [(k, ty)])[tys.length]? = some (k, ty) := by
    rw [List.getElem?_append_right (Nat.le_refl _), Nat.sub_self]
    rfl
  have e1 := hcA ty k (hf (hK.2 tys.length _ hg).2)
  exact ⟨e1, by rw [e1]; exact hg⟩
theorem am_s_newa {ty : FieldType} {at1 : ArrayType} {q} (h : am_newa ty pc ls st H = some (.inl q)) (hty : newarray.typeOf at1 = ty) (hp : ty = .int ∨ ty = .byte ∨ ty = .char) (cx : am_cx p R s m args meth c z fr adV cA X mth) (ok : am_ok s z fr cA D mth ls H Hh locs cls cells) (hdg : decode (am_by mth) pc = .ok (.newarray at1, 2)) (hk : am_w (.arrayClass ty) = true) (hrc : cells + (q.2.2.2.1 - H.1) ≤ R.cells) (hrs : slots + (q.2.2.2.2.1 - H.2.1) ≤ R.slots) (kk : am_K p l e R s m args below meth c Q z fr cA D mth H cells slots q) : W p l e R s m args below meth c Hh locs cells slots Q (F0 m pc cls (st.map (am_cv z fr))) := by
  obtain ⟨hx, hb, hml, hown, hts, hin, hF, hcA, hfr, hlo⟩ := cx
  unfold am_newa at h
  split at h
  · rename_i n r
    split at h
    · cases h
    · rename_i hn
      obtain ⟨q1, q2, q3, q4⟩ := q
      obtain ⟨rfl, rfl, rfl, rfl⟩ := am_nx_inv h
      obtain ⟨hP, ⟨tys, hK, hcov⟩, hwf, hS, -⟩ := id ok
      have hn0 : ¬ n < 0 := fun q => hn (Or.inl q)
      have hn1 := am_n100 hn0 (fun q => hn (Or.inr q))
      have hrc : cells + 1 ≤ R.cells := by simpa using hrc
      have hrs : slots + n.toNatClampNeg ≤ R.slots := by simpa using hrs
      have hcb : componentBytes ty ≤ 8 := by rcases hp with rfl | rfl | rfl <;> decide
      have hmul : n.toNatClampNeg * componentBytes ty ≤ 536870912 := Nat.le_trans (Nat.mul_le_mul hn1 hcb) (by decide)
      refine va_newa (ty := ty) (a0 := (n.toNatClampNeg, .inl (fun _ => 0))) hx hb (by rw [hty]; exact hts _ (am_w_in hk)) hty hK hP (am_D H) hS (fun q h9 => Nat.le_trans hF.1.2.2 h9) (fun k => by rcases hp with rfl | rfl | rfl <;> rfl) hn0 rfl hmul hrc hrs hdg (fun q k H1 hK1 hP1 hD1 hS1 => ?_)
      obtain ⟨e1, e2⟩ := am_newk hcA hK1 (fun h9 => by rcases hp with rfl | rfl | rfl <;> exact h9)
      rw [← e1] at hP1 hD1
      refine kk.new ok (fun ty2 n2 f2 q => ?_) hK1 (am_cov_app hcov _) (fun ty2 n2 x2 q => ?_) q H1 hP1 hD1 hS1
      · cases q
        intro i
        rcases hp with rfl | rfl | rfl <;> rfl
      · cases q
        exact ⟨_, e2⟩
  · cases h
theorem am_s_newq {j ci : Nat} {q} (h : am_newq (am_nm ci) pc ls st H = some (.inl q)) (cx : am_cx p R s m args meth c z fr adV cA X mth) (ok : am_ok s z fr cA D mth ls H Hh locs cls cells) (hdg : decode (am_by mth) pc = .ok (.anewarray j, 3)) (hk : am_opk mth pc (.anewarray j, ci, 0, 0) = true) (hrc : cells + (q.2.2.2.1 - H.1) ≤ R.cells) (hrs : slots + (q.2.2.2.2.1 - H.2.1) ≤ R.slots) (kk : am_K p l e R s m args below meth c Q z fr cA D mth H cells slots q) : W p l e R s m args below meth c Hh locs cells slots Q (F0 m pc cls (st.map (am_cv z fr))) := by
  obtain ⟨hx, hb, hml, hown, hts, hin, hF, hcA, hfr, hlo⟩ := cx
  have hk : (decide (ci = 9) && am_w (.classLink (am_nm (am_ow mth)) j (am_nm ci))) = true := hk
  simp only [Bool.and_eq_true, decide_eq_true_eq] at hk
  obtain ⟨rfl, w1⟩ := hk
  unfold am_newq at h
  split at h
  · rename_i n r
    split at h
    · cases h
    · rename_i hn
      obtain ⟨q1, q2, q3, q4⟩ := q
      obtain ⟨rfl, rfl, rfl, rfl⟩ := am_nx_inv h
      obtain ⟨hP, ⟨tys, hK, hcov⟩, hwf, hS, -⟩ := id ok
      have hn0 : ¬ n < 0 := fun q => hn (Or.inl q)
      have hn1 := am_n100 hn0 (fun q => hn (Or.inr q))
      have hrc : cells + 1 ≤ R.cells := by simpa using hrc
      have hrs : slots + n.toNatClampNeg ≤ R.slots := by simpa using hrs
      refine va_newq (C := am_nm 9) hx hb hown (hts _ (am_w_in w1)) hF.2.2.2.1 hK hP (am_D H) hS (fun q h9 => Nat.le_trans hF.1.2.2 h9) hn0 rfl (by omega) hrc hrs hdg (fun q k H1 hK1 hP1 hD1 hS1 => ?_)
      obtain ⟨e1, e2⟩ := am_newk hcA hK1 (fun h9 => by obtain ⟨_, _, _, _, _, h10⟩ := h9; exact h10)
      rw [← e1] at hP1 hD1
      refine kk.new ok (fun ty2 n2 f2 q => by cases q) hK1 (am_cov_app hcov _) (fun ty2 n2 x2 q => ?_) q H1 hP1 hD1 hS1
      cases q
      exact ⟨_, e2⟩
  · cases h
theorem am_s_aast {q} (h : am_aast am_nm pc ls st H = some (.inl q)) (ok : am_ok s z fr cA D mth ls H Hh locs cls cells) (hx : p.tables.exec = Jvm.exec) (hb : c.code = am_by mth) (hdg : decode (am_by mth) pc = .ok (.aastore, 1)) (kk : am_K p l e R s m args below meth c Q z fr cA D mth H cells slots q) : W p l e R s m args below meth c Hh locs cells slots Q (F0 m pc cls (st.map (am_cv z fr))) := by
  unfold am_aast at h
  split at h
  · rename_i v i a r
    split at h
    · rename_i t n f e1
      split at h
      · rename_i c1 vs e2
        split at h
        · rename_i h13
          split at h
          · rename_i ht
            subst ht
            split at h
            · cases h
            · rename_i hi
              obtain ⟨q1, q2, q3, q4⟩ := q
              obtain ⟨rfl, rfl, rfl, rfl⟩ := am_nx_inv h
              obtain ⟨hP, ⟨tys, hK, hcov⟩, hwf, hS, -⟩ := id ok
              obtain ⟨t0, ht0⟩ := hcov a _ n _ e1
              refine va_astq (r := (am_nm c1, am_T c1, am_nf c1)) hx hb hK hP (am_D H) hS a t0 v c1 (am_hq hwf e1) ht0 (am_he hwf e2 (by omega)) (am_nms c1 h13) hi hdg (fun H1 locs1 hP1 _ hS1 => ?_)
              have ef : va_up (fun i => (f i).map (fun k => z + k)) i.toNatClampNeg (some (z + v)) = fun j => (va_up f i.toNatClampNeg (some v) j).map (fun k => z + k) := by
                funext j
                unfold va_up
                split <;> rfl
              rw [ef] at hP1
              refine kk.hp ok (am_wf_arr hwf e1) (fun ty2 n2 f2 q => by cases q) (fun ty2 n2 x2 q => ?_) H1 locs1 hP1 hS1
              cases q
              exact ⟨_, _, e1⟩
          · cases h
        · cases h
      · cases h
    · cases h
  · cases h
theorem am_s_copy {j : Nat} {q} (h : am_copy pc ls st H = some (.inl q)) (cx : am_cx p R s m args meth c z fr adV cA X mth) (ok : am_ok s z fr cA D mth ls H Hh locs cls cells) (hdg : decode (am_by mth) pc = .ok (.invokestatic j, 3)) (hk : am_mle (am_ow mth) j 1003 0 = true) (hr1 : 1 ≤ am_rk mth) (kk : am_K p l e R s m args below meth c Q z fr cA D mth H cells slots q) : W p l e R s m args below meth c Hh locs cells slots Q (F0 m pc cls (st.map (am_cv z fr))) := by
  obtain ⟨hx, hb, hml, hown, hts, hin, hF, hcA, hfr, hlo⟩ := cx
  unfold am_copy at h
  split at h
  · rename_i n dp b sp a r
    split at h
    · rename_i t n0 f t2 n1 g e1 e2
      split at h
      · rename_i hc
        obtain ⟨rfl, hpr, hrl⟩ := hc
        split at h
        · cases h
        · rename_i hn
          obtain ⟨q1, q2, q3, q4⟩ := q
          obtain ⟨rfl, rfl, rfl, rfl⟩ := am_nx_inv h
          obtain ⟨hP, ⟨tys, hK, hcov⟩, hwf, hS, hl, -⟩ := id ok
          obtain ⟨t0, ht0⟩ := hcov a _ _ _ e1
          obtain ⟨t1, ht1⟩ := hcov b _ _ _ e2
          have hlk := am_mle_get hk
          refine va_copyi hx hb (by rw [hml, hl.2.1]) hown (hts _ hlk) (hts _ am_k_nat) (hts _ am_k_snat) (hts _ am_k_isys) hK hP (am_D H) hS a b t0 t1 (am_ha hwf e1) (am_ha hwf e2) ht0 ht1 (by cases t <;> first | rfl | cases hpr) (fun q => hn (Or.inl q)) (fun q => hn (Or.inr (Or.inl q))) (fun q => hn (Or.inr (Or.inr (Or.inl q)))) (Nat.not_lt.mp fun q => hn (Or.inr (Or.inr (Or.inr (Or.inl q))))) (Nat.not_lt.mp fun q => hn (Or.inr (Or.inr (Or.inr (Or.inr q))))) (fun i _ => hwf.2 a _ _ _ e1 _) (by omega) ?_ hdg (fun H1 locs1 hP1 _ hS1 => ?_)
          · rw [am_cats]
            have : nativeFrameWords "java/lang/System" "arraycopy" 5 = 7 := by decide
            omega
          · refine kk.hp ok (am_wf_arr hwf e2) (fun ty2 n2 f2 q => ?_) (fun ty2 n2 x2 q => ?_) H1 locs1 hP1 hS1
            · cases q
              intro i
              unfold va_cpy
              split
              · exact hwf.2 a _ _ _ e1 _
              · exact hwf.2 b _ _ _ e2 _
            · cases q
              exact ⟨_, _, e2⟩
      · cases h
    · cases h
  · cases h
theorem am_s_oini {j : Nat} {q} (h : am_oini pc ls st H = some (.inl q)) (cx : am_cx p R s m args meth c z fr adV cA X mth) (ok : am_ok s z fr cA D mth ls H Hh locs cls cells) (hdg : decode (am_by mth) pc = .ok (.invokespecial j, 3)) (hk : am_mle (am_ow mth) j 1000 0 = true) (hr1 : 1 ≤ am_rk mth) (kk : am_K p l e R s m args below meth c Q z fr cA D mth H cells slots q) : W p l e R s m args below meth c Hh locs cells slots Q (F0 m pc cls (st.map (am_cv z fr))) := by
  obtain ⟨hx, hb, hml, hown, hts, hin, hF, hcA, hfr, hlo⟩ := cx
  unfold am_oini at h
  split at h
  · rename_i a r
    split at h
    · rename_i hrl
      obtain ⟨q1, q2, q3, q4⟩ := q
      obtain ⟨rfl, rfl, rfl, rfl⟩ := am_nx_inv h
      obtain ⟨hP, -, hwf, hS, hl, -⟩ := id ok
      have hlk := am_mle_get hk
      refine W.objInit (g := F0 m pc cls (.ref (z + a) :: r.map (am_cv z fr))) hx hb hown (hts _ hlk) (hts _ am_k_oi) (hts _ am_k_obj) rfl (by rw [hml]; exact hl.2.1) rfl hdg (by omega) ?_ (kk.pure ok)
      rw [am_cats]
      show 2 * 0 + r.length + 12 ≤ R.locals
      omega
    · cases h
  · cases h
theorem am_s_mabs {j : Nat} {q} (h : am_m1 (fun x => if 0 ≤ x then x else 0 - x) pc ls st H = some (.inl q)) (cx : am_cx p R s m args meth c z fr adV cA X mth) (ok : am_ok s z fr cA D mth ls H Hh locs cls cells) (hdg : decode (am_by mth) pc = .ok (.invokestatic j, 3)) (hk : am_mle (am_ow mth) j 1004 0 = true) (hr1 : 1 ≤ am_rk mth) (hc : cells ≤ R.cells) (hs : slots ≤ R.slots) (kk : am_K p l e R s m args below meth c Q z fr cA D mth H cells slots q) : W p l e R s m args below meth c Hh locs cells slots Q (F0 m pc cls (st.map (am_cv z fr))) := by
  obtain ⟨hx, hb, hml, hown, hts, hin, hF, hcA, hfr, hlo⟩ := cx
  unfold am_m1 at h
  split at h
  · rename_i x r
    split at h
    · rename_i hrl
      obtain ⟨q1, q2, q3, q4⟩ := q
      obtain ⟨rfl, rfl, rfl, rfl⟩ := am_nx_inv h
      have hlk := am_mle_get hk
      exact va_mabs hx hb (by rw [hml, ok.2.2.2.2.1.2.1]) hown (hts _ hlk) (hts _ am_k_sabs) (hts _ am_k_imath) (hts _ am_k_abs) (by omega) (by rw [am_cats]; omega) hc hs hdg (kk.pure ok)
    · cases h
  · cases h
theorem am_s_mmax {j : Nat} {q} (h : am_m2 (fun x y => if x < y then y else x) pc ls st H = some (.inl q)) (cx : am_cx p R s m args meth c z fr adV cA X mth) (ok : am_ok s z fr cA D mth ls H Hh locs cls cells) (hdg : decode (am_by mth) pc = .ok (.invokestatic j, 3)) (hk : am_mle (am_ow mth) j 1005 0 = true) (hr1 : 1 ≤ am_rk mth) (hc : cells ≤ R.cells) (hs : slots ≤ R.slots) (kk : am_K p l e R s m args below meth c Q z fr cA D mth H cells slots q) : W p l e R s m args below meth c Hh locs cells slots Q (F0 m pc cls (st.map (am_cv z fr))) := by
  obtain ⟨hx, hb, hml, hown, hts, hin, hF, hcA, hfr, hlo⟩ := cx
  unfold am_m2 at h
  split at h
  · rename_i y x r
    split at h
    · rename_i hrl
      obtain ⟨q1, q2, q3, q4⟩ := q
      obtain ⟨rfl, rfl, rfl, rfl⟩ := am_nx_inv h
      have hlk := am_mle_get hk
      exact va_mmax hx hb (by rw [hml, ok.2.2.2.2.1.2.1]) hown (hts _ hlk) (hts _ am_k_smax) (hts _ am_k_imath) (hts _ am_k_max) (by omega) (by rw [am_cats]; omega) hc hs hdg (kk.pure ok)
    · cases h
  · cases h
theorem am_s_mmin {j : Nat} {q} (h : am_m2 (fun x y => if y < x then y else x) pc ls st H = some (.inl q)) (cx : am_cx p R s m args meth c z fr adV cA X mth) (ok : am_ok s z fr cA D mth ls H Hh locs cls cells) (hdg : decode (am_by mth) pc = .ok (.invokestatic j, 3)) (hk : am_mle (am_ow mth) j 1006 0 = true) (hr1 : 1 ≤ am_rk mth) (hc : cells ≤ R.cells) (hs : slots ≤ R.slots) (kk : am_K p l e R s m args below meth c Q z fr cA D mth H cells slots q) : W p l e R s m args below meth c Hh locs cells slots Q (F0 m pc cls (st.map (am_cv z fr))) := by
  obtain ⟨hx, hb, hml, hown, hts, hin, hF, hcA, hfr, hlo⟩ := cx
  unfold am_m2 at h
  split at h
  · rename_i y x r
    split at h
    · rename_i hrl
      obtain ⟨q1, q2, q3, q4⟩ := q
      obtain ⟨rfl, rfl, rfl, rfl⟩ := am_nx_inv h
      have hlk := am_mle_get hk
      exact va_mmin hx hb (by rw [hml, ok.2.2.2.2.1.2.1]) hown (hts _ hlk) (hts _ am_k_smin) (hts _ am_k_imath) (hts _ am_k_min) (by omega) (by rw [am_cats]; omega) hc hs hdg (kk.pure ok)
    · cases h
  · cases h
end AMR
