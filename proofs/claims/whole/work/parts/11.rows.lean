/-! the rows of fields, arrays, new cells -/
section AMR
variable {p : Program} {l : Launch} {e : Env} {R : Room} {s : State} {m : MethodId} {args : Array Value} {below : List Frame} {meth : Method} {c : Code} {Q : State → Prop} {z : Nat} {fr adV : Nat → Nat} {cA : FieldType → ClassId} {D : va_G} {X : am_X} {mth pc : Nat} {ls : am_L} {st : List Value} {H : am_H} {Hh : Heap} {locs : List Loc} {cls : Array Slot} {cells slots : Nat}
theorem am_he {H : am_H} (hw : am_wf H) {a ci : Nat} {fs : List Value} (e1 : H.2.2 a = .inr (ci, fs)) (hc : ci < 1000) : (am_ws z fr cA H)[a]? = some (z + a, .inr (ci, fs.map (am_cv z fr))) := by
  rw [am_ws_get (am_wf_obj hw e1 hc), e1]
  rfl
theorem am_s_dup {q} (h : am_dup pc ls st H = some (.inl q)) (ok : am_ok s z fr cA D mth ls H Hh locs cls cells) (hx : p.tables.exec = Jvm.exec) (hb : c.code = am_by mth) (hdg : decode (am_by mth) pc = .ok (.dup, 1)) (kk : am_K p l e R s m args below meth c Q z fr cA D mth H cells slots q) : W p l e R s m args below meth c Hh locs cells slots Q (F0 m pc cls (st.map (am_cv z fr))) := by
  unfold am_dup at h
  split at h
  · obtain ⟨q1, q2, q3, q4⟩ := q
    obtain ⟨rfl, rfl, rfl, rfl⟩ := am_nx_inv h
    exact lv_dup hx hb hdg (am_cv_cat z fr _) (kk.pure ok)
  · cases h
theorem am_s_dup2 {q} (h : am_dup2 pc ls st H = some (.inl q)) (ok : am_ok s z fr cA D mth ls H Hh locs cls cells) (hx : p.tables.exec = Jvm.exec) (hb : c.code = am_by mth) (hdg : decode (am_by mth) pc = .ok (.dup2, 1)) (kk : am_K p l e R s m args below meth c Q z fr cA D mth H cells slots q) : W p l e R s m args below meth c Hh locs cells slots Q (F0 m pc cls (st.map (am_cv z fr))) := by
  unfold am_dup2 at h
  split at h
  · obtain ⟨q1, q2, q3, q4⟩ := q
    obtain ⟨rfl, rfl, rfl, rfl⟩ := am_nx_inv h
    exact lv_dup2_11 hx hb hdg (am_cv_cat z fr _) (am_cv_cat z fr _) (kk.pure ok)
  · cases h
theorem am_s_pop {q} (h : am_pop pc ls st H = some (.inl q)) (ok : am_ok s z fr cA D mth ls H Hh locs cls cells) (hx : p.tables.exec = Jvm.exec) (hb : c.code = am_by mth) (hdg : decode (am_by mth) pc = .ok (.pop, 1)) (kk : am_K p l e R s m args below meth c Q z fr cA D mth H cells slots q) : W p l e R s m args below meth c Hh locs cells slots Q (F0 m pc cls (st.map (am_cv z fr))) := by
  unfold am_pop at h
  split at h
  · obtain ⟨q1, q2, q3, q4⟩ := q
    obtain ⟨rfl, rfl, rfl, rfl⟩ := am_nx_inv h
    exact lv_pop hx hb hdg (am_cv_cat z fr _) (kk.pure ok)
  · cases h
theorem am_s_getf {j ci k : Nat} {q} (h : am_getf ci k pc ls st H = some (.inl q)) (cx : am_cx p R s m args meth c z fr adV cA X mth) (ok : am_ok s z fr cA D mth ls H Hh locs cls cells) (hdg : decode (am_by mth) pc = .ok (.getfield j, 3)) (hk : am_opk mth pc (.getfield j, ci, k, 0) = true) (kk : am_K p l e R s m args below meth c Q z fr cA D mth H cells slots q) : W p l e R s m args below meth c Hh locs cells slots Q (F0 m pc cls (st.map (am_cv z fr))) := by
  obtain ⟨hx, hb, hml, hown, hts, hin, hF, hcA, hfr, hlo⟩ := cx
  unfold am_getf at h
  split at h
  · rename_i a r
    split at h
    · rename_i c1 fs e1
      split at h
      · rename_i hcc
        subst hcc
        split at h
        · rename_i v hv
          obtain ⟨q1, q2, q3, q4⟩ := q
          obtain ⟨rfl, rfl, rfl, rfl⟩ := am_nx_inv h
          obtain ⟨hP, ⟨tys, hK, hcov⟩, hwf, -⟩ := id ok
          have hv' : (fs.map (am_cv z fr))[k]? = some (am_cv z fr v) := by rw [List.getElem?_map, hv]; rfl
          have hk : (am_fle (am_ow mth) j c1 k 0 || am_fle (am_ow mth) j c1 k 1) = true := hk
          rw [Bool.or_eq_true] at hk
          rcases hk with hk | hk
          · obtain ⟨h1, h2, h3, h4⟩ := am_fl_get hk
            exact va_get (D := D) (cl := am_cl) (C := am_nm c1) (T := am_T c1) (N := am_nf c1) (ref := am_nm c1) hx hb hts (am_lay h2) hown hK hP a (am_he hwf e1 (by omega)) (am_nms c1 h2) k h3 (hts _ h1) (fun x hx2 => by rw [← h4]; exact hx2) hv' hdg (kk.pure ok)
          · obtain ⟨h1, h2, h3, h4⟩ := am_fl_get hk
            exact va_getN (D := D) (cl := am_cl) (C := am_nm c1) (T := am_T c1) (N := am_nf c1) (ref := am_nm c1) (host := "DiffBench") hx hb hts (am_lay h2) hown hK hP a (am_he hwf e1 (by omega)) (am_nms c1 h2) k h3 (va_Nw.use rfl (hF.2.2.1 _ h1 rfl)) (fun x hx2 => by rw [← h4]; exact hx2) hv' hdg (kk.pure ok)
        · cases h
      · cases h
    · cases h
  · cases h
theorem am_fit_cv {ty : FieldType} {v : Value} (h : am_fit ty v = true) : narrow ty (am_cv z fr v) = am_cv z fr v ∧ fits ty (am_cv z fr v) = true := by
  unfold am_fit at h
  split at h
  · exact ⟨rfl, rfl⟩
  · rename_i x
    rw [Bool.or_eq_true, beq_iff_eq, beq_iff_eq] at h
    rcases h with rfl | rfl <;> exact ⟨rfl, rfl⟩
  · exact ⟨rfl, rfl⟩
  · exact ⟨rfl, rfl⟩
  · cases h
theorem am_s_putf {j ci k : Nat} {q} (h : am_putf (am_ty ci k) ci k pc ls st H = some (.inl q)) (cx : am_cx p R s m args meth c z fr adV cA X mth) (ok : am_ok s z fr cA D mth ls H Hh locs cls cells) (hdg : decode (am_by mth) pc = .ok (.putfield j, 3)) (hk : am_opk mth pc (.putfield j, ci, k, 0) = true) (kk : am_K p l e R s m args below meth c Q z fr cA D mth H cells slots q) : W p l e R s m args below meth c Hh locs cells slots Q (F0 m pc cls (st.map (am_cv z fr))) := by
  obtain ⟨hx, hb, hml, hown, hts, hin, hF, hcA, hfr, hlo⟩ := cx
  unfold am_putf at h
  split at h
  · rename_i v a r
    split at h
    · rename_i c1 fs e1
      split at h
      · rename_i hcc
        subst hcc
        split at h
        · rename_i hl
          split at h
          · rename_i hfit
            obtain ⟨q1, q2, q3, q4⟩ := q
            obtain ⟨rfl, rfl, rfl, rfl⟩ := am_nx_inv h
            obtain ⟨hP, ⟨tys, hK, hcov⟩, hwf, hS, -⟩ := id ok
            obtain ⟨f1, f2⟩ := am_fit_cv (z := z) (fr := fr) hfit
            have hl' : k < (fs.map (am_cv z fr)).length := by rw [List.length_map]; exact hl
            have es : (fs.map (am_cv z fr)).set k (am_cv z fr v) = (fs.set k v).map (am_cv z fr) := by rw [List.map_set]
            have go : c1 < 13 → ∀ (H1 : Heap) (locs1 : List Loc), va_P D am_cl ((am_ws z fr cA H).set a (z + a, .inr (c1, (fs.map (am_cv z fr)).set k (am_cv z fr v)))) H1 → va_D (fun q => z ≤ q) ((am_ws z fr cA H).set a (z + a, .inr (c1, (fs.map (am_cv z fr)).set k (am_cv z fr v)))) → va_S (fun q => z ≤ q) s.heap H1 locs1 → W p l e R s m args below meth c H1 locs1 cells slots Q (F0 m (pc + 3) cls (r.map (am_cv z fr))) := by
              intro hc13 H1 locs1 hP1 _ hS1
              rw [es] at hP1
              exact kk.hp ok (am_wf_obj hwf e1 (by omega)) (fun ty n f q => by cases q) (fun ty n x q => by cases q) H1 locs1 hP1 hS1
            have hk : (if (am_T c1 k).2.2.2 = true then am_fle (am_ow mth) j c1 k 0 && decide ((am_mn mth).name = "<init>") && decide (c1 = am_ow mth) else am_fle (am_ow mth) j c1 k 0 || am_fle (am_ow mth) j c1 k 1) = true := hk
            split at hk
            · rename_i hfin
              rw [Bool.and_eq_true, Bool.and_eq_true, decide_eq_true_eq, decide_eq_true_eq] at hk
              obtain ⟨⟨hk, hk2⟩, hk3⟩ := hk
              obtain ⟨h1, h2, h3, h4⟩ := am_fl_get hk
              exact va_putF (D := D) (cl := am_cl) (C := am_nm c1) (T := am_T c1) (N := am_nf c1) (ref := am_nm c1) (v := am_cv z fr v) (ty := am_ty c1 k) hx hb hts (am_lay h2) (am_ty c1) (am_tys_ok c1 h2) (am_nms_ok c1 h2) hown hK hP (am_D H) hS a (am_he hwf e1 (by omega)) (am_nms c1 h2) k h3 (hts _ h1) (fun x hx2 => by rw [← h4]; exact hx2) hfin (hin hk2) (by rw [h4, hk3]) (am_tys_ok c1 h2 k h3) f1 f2 hl' hdg (go h2)
            · rename_i hfin
              have hfin : (am_T c1 k).2.2.2 = false := by
                cases hq : (am_T c1 k).2.2.2
                · rfl
                · exact absurd hq hfin
              rw [Bool.or_eq_true] at hk
              rcases hk with hk | hk
              · obtain ⟨h1, h2, h3, h4⟩ := am_fl_get hk
                exact va_put (D := D) (cl := am_cl) (C := am_nm c1) (T := am_T c1) (N := am_nf c1) (ref := am_nm c1) (v := am_cv z fr v) (ty := am_ty c1 k) hx hb hts (am_lay h2) (am_ty c1) (am_tys_ok c1 h2) (am_nms_ok c1 h2) hown hK hP (am_D H) hS a (am_he hwf e1 (by omega)) (am_nms c1 h2) k h3 (hts _ h1) (fun x hx2 => by rw [← h4]; exact hx2) hfin (am_tys_ok c1 h2 k h3) f1 f2 hl' hdg (go h2)
              · obtain ⟨h1, h2, h3, h4⟩ := am_fl_get hk
                exact va_putN (D := D) (cl := am_cl) (C := am_nm c1) (T := am_T c1) (N := am_nf c1) (ref := am_nm c1) (host := "DiffBench") (v := am_cv z fr v) (ty := am_ty c1 k) hx hb hts (am_lay h2) (am_ty c1) (am_tys_ok c1 h2) (am_nms_ok c1 h2) hown hK hP (am_D H) hS a (am_he hwf e1 (by omega)) (am_nms c1 h2) k h3 (va_Nw.use rfl (hF.2.2.1 _ h1 rfl)) (fun x hx2 => by rw [← h4]; exact hx2) hfin (am_tys_ok c1 h2 k h3) f1 f2 hl' hdg (go h2)
          · cases h
        · cases h
      · cases h
    · cases h
  · cases h
theorem am_ha {H : am_H} (hw : am_wf H) {a n : Nat} {ty : FieldType} {f : Nat → Int32} (e1 : H.2.2 a = .inl (ty, n, .inl f)) : (am_ws z fr cA H)[a]? = some (z + a, .inl (cA ty, n, .inl f)) := by
  rw [am_ws_get (am_wf_arr hw e1), e1]
  rfl
theorem am_hq {H : am_H} (hw : am_wf H) {a n : Nat} {ty : FieldType} {f : Nat → Option Nat} (e1 : H.2.2 a = .inl (ty, n, .inr f)) : (am_ws z fr cA H)[a]? = some (z + a, .inl (cA ty, n, .inr (.inr (.inr (.inr (fun i => (f i).map (fun k => z + k))))))) := by
  rw [am_ws_get (am_wf_arr hw e1), e1]
  rfl
theorem am_s_ald {ty : FieldType} {q} (h : am_ald X ty pc ls st H = some (.inl q)) (cx : am_cx p R s m args meth c z fr adV cA X mth) (ok : am_ok s z fr cA D mth ls H Hh locs cls cells)
    (row : ∀ (a t0 n : Nat) (f : Nat → Int32) (i : Int32) (tys : List (ClassId × FieldType)) (rest : List Value), va_K D am_cl tys s → (am_ws z fr cA H)[a]? = some (z + a, .inl (cA ty, n, .inl f)) → tys[t0]? = some (cA ty, ty) → vp_in i n → W p l e R s m args below meth c Hh locs cells slots Q (F0 m (pc + 1) cls (.int (f i.toNatClampNeg) :: rest)) → W p l e R s m args below meth c Hh locs cells slots Q (F0 m pc cls (.int i :: .ref (z + a) :: rest)))
    (hdg : ty = .int → decode (am_by mth) pc = .ok (.iaload, 1)) (kk : am_K p l e R s m args below meth c Q z fr cA D mth H cells slots q) : W p l e R s m args below meth c Hh locs cells slots Q (F0 m pc cls (st.map (am_cv z fr))) := by
  obtain ⟨hx, hb, hml, hown, hts, hin, hF, hcA, hfr, hlo⟩ := cx
  unfold am_ald at h
  split at h
  · rename_i i a r
    split at h
    · rename_i t n f e1
      split at h
      · rename_i ht
        subst ht
        split at h
        · cases h
        · rename_i hi
          obtain ⟨q1, q2, q3, q4⟩ := q
          obtain ⟨rfl, rfl, rfl, rfl⟩ := am_nx_inv h
          obtain ⟨hP, ⟨tys, hK, hcov⟩, hwf, hS, -⟩ := id ok
          obtain ⟨t0, ht0⟩ := hcov a t n _ e1
          exact row a t0 n f i tys _ hK (am_ha hwf e1) ht0 hi (kk.pure ok)
      · cases h
    · cases h
  · rename_i i r
    split at h
    · rename_i ht
      split at h
      · cases h
      · rename_i hi
        obtain ⟨q1, q2, q3, q4⟩ := q
        obtain ⟨rfl, rfl, rfl, rfl⟩ := am_nx_inv h
        obtain ⟨hP, -, hwf, hS, -⟩ := id ok
        exact va_sld hx hb hF.1.1 (Nat.lt_of_lt_of_le hF.1.2.1 hF.1.2.2) (Nat.not_le.mpr hF.1.2.1) hS hi (hdg ht) (kk.pure ok)
    · cases h
  · cases h
theorem am_s_ast {ty : FieldType} {w : Int32 → Int32} {q} (h : am_ast ty w pc ls st H = some (.inl q)) (ok : am_ok s z fr cA D mth ls H Hh locs cls cells) (hw : ∀ x, fits ty (.int (w x)) = true)
    (row : ∀ (a t0 n : Nat) (f : Nat → Int32) (i x : Int32) (tys : List (ClassId × FieldType)) (rest : List Value), va_K D am_cl tys s → (am_ws z fr cA H)[a]? = some (z + a, .inl (cA ty, n, .inl f)) → tys[t0]? = some (cA ty, ty) → vp_in i n → (∀ (H1 : Heap) (locs1 : List Loc), va_P D am_cl ((am_ws z fr cA H).set a (z + a, .inl (cA ty, n, .inl (upd f i.toNatClampNeg (w x))))) H1 → va_D (fun q => z ≤ q) ((am_ws z fr cA H).set a (z + a, .inl (cA ty, n, .inl (upd f i.toNatClampNeg (w x))))) → va_S (fun q => z ≤ q) s.heap H1 locs1 → W p l e R s m args below meth c H1 locs1 cells slots Q (F0 m (pc + 1) cls rest)) → W p l e R s m args below meth c Hh locs cells slots Q (F0 m pc cls (.int x :: .int i :: .ref (z + a) :: rest)))
    (kk : am_K p l e R s m args below meth c Q z fr cA D mth H cells slots q) : W p l e R s m args below meth c Hh locs cells slots Q (F0 m pc cls (st.map (am_cv z fr))) := by
  unfold am_ast at h
  split at h
  · rename_i x i a r
    split at h
    · rename_i t n f e1
      split at h
      · rename_i ht
        subst ht
        split at h
        · cases h
        · rename_i hi
          obtain ⟨q1, q2, q3, q4⟩ := q
          obtain ⟨rfl, rfl, rfl, rfl⟩ := am_nx_inv h
          obtain ⟨hP, ⟨tys, hK, hcov⟩, hwf, hS, -⟩ := id ok
          obtain ⟨t0, ht0⟩ := hcov a t n _ e1
          refine row a t0 n f i x tys _ hK (am_ha hwf e1) ht0 hi (fun H1 locs1 hP1 _ hS1 => ?_)
          refine kk.hp ok (am_wf_arr hwf e1) (fun ty2 n2 f2 q => ?_) (fun ty2 n2 x2 q => ?_) H1 locs1 hP1 hS1
          · cases q
            intro j
            unfold upd
            split
            · exact hw x
            · exact hwf.2 a _ _ _ e1 j
          · cases q
            exact ⟨_, _, e1⟩
      · cases h
    · cases h
  · cases h
theorem am_s_aald {q} (h : am_aald pc ls st H = some (.inl q)) (ok : am_ok s z fr cA D mth ls H Hh locs cls cells) (hx : p.tables.exec = Jvm.exec) (hb : c.code = am_by mth) (hdg : decode (am_by mth) pc = .ok (.aaload, 1)) (kk : am_K p l e R s m args below meth c Q z fr cA D mth H cells slots q) : W p l e R s m args below meth c Hh locs cells slots Q (F0 m pc cls (st.map (am_cv z fr))) := by
  unfold am_aald at h
  split at h
  · rename_i i a r
    split at h
    · rename_i t n f e1
      split at h
      · rename_i ht
        split at h
        · cases h
        · rename_i hi
          obtain ⟨q1, q2, q3, q4⟩ := q
          obtain ⟨rfl, rfl, rfl, rfl⟩ := am_nx_inv h
          obtain ⟨hP, ⟨tys, hK, hcov⟩, hwf, hS, -⟩ := id ok
          obtain ⟨t0, ht0⟩ := hcov a t n _ e1
          have hlt : i.toNatClampNeg < n := Nat.not_le.mp fun q => hi (Or.inr q)
          have hr : t.isReference = true := by
            cases t <;> first | rfl | cases ht
          have er : am_cv z fr (am_rf (f i.toNatClampNeg)) = va_rf ((f i.toNatClampNeg).map (fun k => z + k)) := by
            cases f i.toNatClampNeg <;> rfl
          have k2 := kk.pure ok
          rw [List.map_cons, er] at k2
          exact W.aald (v := va_rf ((f i.toNatClampNeg).map (fun k => z + k))) (ty := t) hx hb (hP a _ (am_hq hwf e1)) ((hK.2 t0 _ ht0).1 n (fun j => va_rf ((f j).map (fun k => z + k)))) hr (fun q => by cases q) (by show ¬ (i < 0 ∨ (arrV _ _ _).slots.size ≤ _); rw [arrV_size]; exact hi) (by show (arrV _ _ _).slots[_]? = _; rw [arrV_read _ _ hlt]) rfl rfl hdg k2
      · cases h
    · cases h
  · cases h
theorem am_s_alen {q} (h : am_alen X pc ls st H = some (.inl q)) (cx : am_cx p R s m args meth c z fr adV cA X mth) (ok : am_ok s z fr cA D mth ls H Hh locs cls cells) (hdg : decode (am_by mth) pc = .ok (.arraylength, 1)) (kk : am_K p l e R s m args below meth c Q z fr cA D mth H cells slots q) : W p l e R s m args below meth c Hh locs cells slots Q (F0 m pc cls (st.map (am_cv z fr))) := by
  obtain ⟨hx, hb, hml, hown, hts, hin, hF, hcA, hfr, hlo⟩ := cx
  unfold am_alen at h
  split at h
  · rename_i a r
    split at h
    · rename_i t n f e1
      obtain ⟨q1, q2, q3, q4⟩ := q
      obtain ⟨rfl, rfl, rfl, rfl⟩ := am_nx_inv h
      obtain ⟨hP, ⟨tys, hK, hcov⟩, hwf, hS, -⟩ := id ok
      obtain ⟨t0, ht0⟩ := hcov a t n _ e1
      cases f with
      | inl f => exact va_alen hx hb hK hP a t0 (am_ha hwf e1) ht0 rfl hdg (kk.pure ok)
      | inr f => exact va_alen hx hb hK hP a t0 (am_hq hwf e1) ht0 rfl hdg (kk.pure ok)
    · cases h
  · rename_i r
    obtain ⟨q1, q2, q3, q4⟩ := q
    obtain ⟨rfl, rfl, rfl, rfl⟩ := am_nx_inv h
    obtain ⟨hP, -, hwf, hS, -⟩ := id ok
    exact va_slen hx hb hF.1.1 (Nat.lt_of_lt_of_le hF.1.2.1 hF.1.2.2) (Nat.not_le.mpr hF.1.2.1) hS hdg (kk.pure ok)
  · cases h
end AMR
