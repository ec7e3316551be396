/-! the rows of the abstract machine's instructions -/
def am_K (p : Program) (l : Launch) (e : Env) (R : Room) (s : State) (m : MethodId) (args : Array Value) (below : List Frame) (meth : Method) (c : Code) (Q : State → Prop) (z : Nat) (fr : Nat → Nat) (cA : FieldType → ClassId) (D : va_G) (mth : Nat) (H : am_H) (cells slots : Nat) (q : Nat × am_L × List Value × am_H) : Prop :=
  ∀ Hh' locs' cls' cells' slots', cells' = cells + (q.2.2.2.1 - H.1) → slots' = slots + (q.2.2.2.2.1 - H.2.1) → am_ok s z fr cA D mth q.2.1 q.2.2.2 Hh' locs' cls' cells' → W p l e R s m args below meth c Hh' locs' cells' slots' Q (F0 m q.1 cls' (q.2.2.1.map (am_cv z fr)))
section AMR
variable {p : Program} {l : Launch} {e : Env} {R : Room} {s : State} {m : MethodId} {args : Array Value} {below : List Frame} {meth : Method} {c : Code} {Q : State → Prop} {z : Nat} {fr adV : Nat → Nat} {cA : FieldType → ClassId} {D : va_G} {X : am_X} {mth pc : Nat} {ls : am_L} {st : List Value} {H : am_H} {Hh : Heap} {locs : List Loc} {cls : Array Slot} {cells slots : Nat}
theorem am_K.pure {pc' : Nat} {st' : List Value} (kk : am_K p l e R s m args below meth c Q z fr cA D mth H cells slots (pc', ls, st', H)) (ok : am_ok s z fr cA D mth ls H Hh locs cls cells) : W p l e R s m args below meth c Hh locs cells slots Q (F0 m pc' cls (st'.map (am_cv z fr))) :=
  kk Hh locs cls cells slots (by simp) (by simp) ok
theorem am_K.loc {pc' i : Nat} {v : Value} {st' : List Value} (kk : am_K p l e R s m args below meth c Q z fr cA D mth H cells slots (pc', ls.set i (some v), st', H)) (ok : am_ok s z fr cA D mth ls H Hh locs cls cells) (hi : i < am_ml mth) (cls' : Array Slot) (h' : lv_has cls' (am_ml mth) ((i, am_cv z fr v) :: (am_lv z fr ls).filter (fun q => !(q.1 == i) && !(q.1 + 1 == i && q.2.category == 2)))) : W p l e R s m args below meth c Hh locs cells slots Q (F0 m pc' cls' (st'.map (am_cv z fr))) := by
  obtain ⟨h1, h2, h3, h4, h5, h6⟩ := ok
  exact kk Hh locs cls' cells slots (by simp) (by simp) ⟨h1, h2, h3, h4, am_hl_set h5 hi h', h6⟩
theorem am_K.hp {pc' a : Nat} {e' : am_E} {st' : List Value} (kk : am_K p l e R s m args below meth c Q z fr cA D mth H cells slots (pc', ls, st', (H.1, H.2.1, am_up H.2.2 a e'))) (ok : am_ok s z fr cA D mth ls H Hh locs cls cells) (ha : a < H.1) (hf : ∀ ty n f, e' = .inl (ty, n, .inl f) → ∀ i, fits ty (.int (f i)) = true) (hc : ∀ ty n x, e' = .inl (ty, n, x) → ∃ n2 x2, H.2.2 a = .inl (ty, n2, x2)) (H1 : Heap) (locs1 : List Loc) (hP : va_P D am_cl ((am_ws z fr cA H).set a (z + a, am_ce z fr cA e')) H1) (hS : va_S (fun q => z ≤ q) s.heap H1 locs1) : W p l e R s m args below meth c H1 locs1 cells slots Q (F0 m pc' cls (st'.map (am_cv z fr))) := by
  obtain ⟨h1, ⟨tys, hK, hv⟩, h3, h4, h5, h6⟩ := ok
  refine kk H1 locs1 cls cells slots (by simp) (by simp) ⟨?_, ⟨tys, hK, am_cov_up hv (fun ty n x e1 => ?_) _ _⟩, am_wf_up h3 ha hf _, hS, h5, h6⟩
  · rw [am_ws_set e' H.2.1 ha] at hP
    exact hP
  · obtain ⟨n2, x2, e2⟩ := hc ty n x e1
    exact hv a ty n2 x2 e2
theorem am_s_bin {f : Int32 → Int32 → Int32} {q} (h : am_bin f pc ls st H = some (.inl q)) (ok : am_ok s z fr cA D mth ls H Hh locs cls cells) (row : ∀ x y rest, W p l e R s m args below meth c Hh locs cells slots Q (F0 m (pc + 1) cls (.int (f x y) :: rest)) → W p l e R s m args below meth c Hh locs cells slots Q (F0 m pc cls (.int y :: .int x :: rest))) (kk : am_K p l e R s m args below meth c Q z fr cA D mth H cells slots q) : W p l e R s m args below meth c Hh locs cells slots Q (F0 m pc cls (st.map (am_cv z fr))) := by
  unfold am_bin at h
  split at h
  · obtain ⟨q1, q2, q3, q4⟩ := q
    obtain ⟨rfl, rfl, rfl, rfl⟩ := am_nx_inv h
    exact row _ _ _ (kk.pure ok)
  · cases h
theorem am_s_div {f : Int32 → Int32 → Int32} {q} (h : am_div f pc ls st H = some (.inl q)) (ok : am_ok s z fr cA D mth ls H Hh locs cls cells) (row : ∀ x y rest, ¬ y = 0 → W p l e R s m args below meth c Hh locs cells slots Q (F0 m (pc + 1) cls (.int (f x y) :: rest)) → W p l e R s m args below meth c Hh locs cells slots Q (F0 m pc cls (.int y :: .int x :: rest))) (kk : am_K p l e R s m args below meth c Q z fr cA D mth H cells slots q) : W p l e R s m args below meth c Hh locs cells slots Q (F0 m pc cls (st.map (am_cv z fr))) := by
  unfold am_div at h
  split at h
  · split at h
    · cases h
    · rename_i hy
      obtain ⟨q1, q2, q3, q4⟩ := q
      obtain ⟨rfl, rfl, rfl, rfl⟩ := am_nx_inv h
      exact row _ _ _ hy (kk.pure ok)
  · cases h
theorem am_s_un {f : Int32 → Int32} {q} (h : am_un f pc ls st H = some (.inl q)) (ok : am_ok s z fr cA D mth ls H Hh locs cls cells) (row : ∀ x rest, W p l e R s m args below meth c Hh locs cells slots Q (F0 m (pc + 1) cls (.int (f x) :: rest)) → W p l e R s m args below meth c Hh locs cells slots Q (F0 m pc cls (.int x :: rest))) (kk : am_K p l e R s m args below meth c Q z fr cA D mth H cells slots q) : W p l e R s m args below meth c Hh locs cells slots Q (F0 m pc cls (st.map (am_cv z fr))) := by
  unfold am_un at h
  split at h
  · obtain ⟨q1, q2, q3, q4⟩ := q
    obtain ⟨rfl, rfl, rfl, rfl⟩ := am_nx_inv h
    exact row _ _ (kk.pure ok)
  · cases h
theorem am_s_iload {i pc' : Nat} {q} (h : am_iload i pc' ls st H = some (.inl q)) (ok : am_ok s z fr cA D mth ls H Hh locs cls cells) (row : ∀ x rest, cls[i]? = some (.val (.int x)) → W p l e R s m args below meth c Hh locs cells slots Q (F0 m pc' cls (.int x :: rest)) → W p l e R s m args below meth c Hh locs cells slots Q (F0 m pc cls rest)) (kk : am_K p l e R s m args below meth c Q z fr cA D mth H cells slots q) : W p l e R s m args below meth c Hh locs cells slots Q (F0 m pc cls (st.map (am_cv z fr))) := by
  unfold am_iload at h
  split at h
  · rename_i x hx
    obtain ⟨q1, q2, q3, q4⟩ := q
    obtain ⟨rfl, rfl, rfl, rfl⟩ := am_nx_inv h
    exact row x _ (ok.2.2.2.2.1.2.2.2 i _ hx) (kk.pure ok)
  · cases h
theorem am_s_aload {i pc' : Nat} {q} (h : am_aload i pc' ls st H = some (.inl q)) (ok : am_ok s z fr cA D mth ls H Hh locs cls cells) (row : ∀ x rest, cls[i]? = some (.val (.ref x)) → W p l e R s m args below meth c Hh locs cells slots Q (F0 m pc' cls (.ref x :: rest)) → W p l e R s m args below meth c Hh locs cells slots Q (F0 m pc cls rest)) (kk : am_K p l e R s m args below meth c Q z fr cA D mth H cells slots q) : W p l e R s m args below meth c Hh locs cells slots Q (F0 m pc cls (st.map (am_cv z fr))) := by
  unfold am_aload at h
  split at h
  · rename_i x hx
    obtain ⟨q1, q2, q3, q4⟩ := q
    obtain ⟨rfl, rfl, rfl, rfl⟩ := am_nx_inv h
    exact row _ _ (ok.2.2.2.2.1.2.2.2 i _ hx) (kk.pure ok)
  · rename_i x hx
    obtain ⟨q1, q2, q3, q4⟩ := q
    obtain ⟨rfl, rfl, rfl, rfl⟩ := am_nx_inv h
    exact row _ _ (ok.2.2.2.2.1.2.2.2 i _ hx) (kk.pure ok)
  · cases h
theorem am_s_istore {i pc' : Nat} {q} (h : am_istore i pc' ls st H = some (.inl q)) (ok : am_ok s z fr cA D mth ls H Hh locs cls cells) (row : ∀ x rest, i < am_ml mth → (∀ cls', lv_has cls' (am_ml mth) ((i, .int x) :: (am_lv z fr ls).filter (fun q => !(q.1 == i) && !(q.1 + 1 == i && q.2.category == 2))) → W p l e R s m args below meth c Hh locs cells slots Q (F0 m pc' cls' rest)) → W p l e R s m args below meth c Hh locs cells slots Q (F0 m pc cls (.int x :: rest))) (kk : am_K p l e R s m args below meth c Q z fr cA D mth H cells slots q) : W p l e R s m args below meth c Hh locs cells slots Q (F0 m pc cls (st.map (am_cv z fr))) := by
  unfold am_istore at h
  split at h
  · split at h
    · rename_i hi
      obtain ⟨q1, q2, q3, q4⟩ := q
      obtain ⟨rfl, rfl, rfl, rfl⟩ := am_nx_inv h
      have hi : i < am_ml mth := by rw [← ok.2.2.2.2.1.1]; exact hi
      exact row _ _ hi (fun cls' h' => kk.loc ok hi cls' h')
    · cases h
  · cases h
theorem am_s_astore {i pc' : Nat} {q} (h : am_astore i pc' ls st H = some (.inl q)) (ok : am_ok s z fr cA D mth ls H Hh locs cls cells) (row : ∀ x rest, i < am_ml mth → (∀ cls', lv_has cls' (am_ml mth) ((i, .ref x) :: (am_lv z fr ls).filter (fun q => !(q.1 == i) && !(q.1 + 1 == i && q.2.category == 2))) → W p l e R s m args below meth c Hh locs cells slots Q (F0 m pc' cls' rest)) → W p l e R s m args below meth c Hh locs cells slots Q (F0 m pc cls (.ref x :: rest))) (kk : am_K p l e R s m args below meth c Q z fr cA D mth H cells slots q) : W p l e R s m args below meth c Hh locs cells slots Q (F0 m pc cls (st.map (am_cv z fr))) := by
  unfold am_astore at h
  split at h
  · split at h
    · rename_i hi
      obtain ⟨q1, q2, q3, q4⟩ := q
      obtain ⟨rfl, rfl, rfl, rfl⟩ := am_nx_inv h
      have hi : i < am_ml mth := by rw [← ok.2.2.2.2.1.1]; exact hi
      exact row _ _ hi (fun cls' h' => kk.loc ok hi cls' h')
    · cases h
  · cases h
theorem am_s_iinc {i : Nat} {v : Int32} {n : Int} {q} (h : am_iinc i v pc ls st H = some (.inl q)) (ok : am_ok s z fr cA D mth ls H Hh locs cls cells) (hx : p.tables.exec = Jvm.exec) (hb : c.code = am_by mth) (hdg : decode (am_by mth) pc = .ok (.iinc i n, 3)) (hv : Int32.ofInt n = v) (kk : am_K p l e R s m args below meth c Q z fr cA D mth H cells slots q) : W p l e R s m args below meth c Hh locs cells slots Q (F0 m pc cls (st.map (am_cv z fr))) := by
  unfold am_iinc at h
  split at h
  · rename_i x hl
    obtain ⟨q1, q2, q3, q4⟩ := q
    obtain ⟨rfl, rfl, rfl, rfl⟩ := am_nx_inv h
    have hi : i < am_ml mth := by rw [← ok.2.2.2.2.1.1]; exact (List.getElem?_eq_some_iff.mp hl).1
    obtain ⟨k, hk⟩ := List.getElem?_of_mem (am_lv_mem (z := z) (fr := fr) hl)
    exact lv_iinc (k := k) (v := x + v) hx hb hdg (am_hl_has ok.2.2.2.2.1) hk (by rw [hv]) hi rfl (fun cls' h' => kk.loc ok hi cls' h')
  · cases h
theorem am_s_j1 {f : Int32 → Bool} {t : Nat} {q} (h : am_j1 f t pc ls st H = some (.inl q)) (ok : am_ok s z fr cA D mth ls H Hh locs cls cells) (row : ∀ x rest, (f x = true → W p l e R s m args below meth c Hh locs cells slots Q (F0 m t cls rest)) → (¬ f x = true → W p l e R s m args below meth c Hh locs cells slots Q (F0 m (pc + 3) cls rest)) → W p l e R s m args below meth c Hh locs cells slots Q (F0 m pc cls (.int x :: rest))) (kk : am_K p l e R s m args below meth c Q z fr cA D mth H cells slots q) : W p l e R s m args below meth c Hh locs cells slots Q (F0 m pc cls (st.map (am_cv z fr))) := by
  unfold am_j1 at h
  split at h
  · obtain ⟨q1, q2, q3, q4⟩ := q
    split at h
    · rename_i hx
      obtain ⟨rfl, rfl, rfl, rfl⟩ := am_nx_inv h
      exact row _ _ (fun _ => kk.pure ok) (fun n => absurd hx n)
    · rename_i hx
      obtain ⟨rfl, rfl, rfl, rfl⟩ := am_nx_inv h
      exact row _ _ (fun n => absurd n hx) (fun _ => kk.pure ok)
  · cases h
theorem am_s_j2 {f : Int32 → Int32 → Bool} {t : Nat} {q} (h : am_j2 f t pc ls st H = some (.inl q)) (ok : am_ok s z fr cA D mth ls H Hh locs cls cells) (row : ∀ x y rest, (f x y = true → W p l e R s m args below meth c Hh locs cells slots Q (F0 m t cls rest)) → (¬ f x y = true → W p l e R s m args below meth c Hh locs cells slots Q (F0 m (pc + 3) cls rest)) → W p l e R s m args below meth c Hh locs cells slots Q (F0 m pc cls (.int y :: .int x :: rest))) (kk : am_K p l e R s m args below meth c Q z fr cA D mth H cells slots q) : W p l e R s m args below meth c Hh locs cells slots Q (F0 m pc cls (st.map (am_cv z fr))) := by
  unfold am_j2 at h
  split at h
  · obtain ⟨q1, q2, q3, q4⟩ := q
    split at h
    · rename_i hx
      obtain ⟨rfl, rfl, rfl, rfl⟩ := am_nx_inv h
      exact row _ _ _ (fun _ => kk.pure ok) (fun n => absurd hx n)
    · rename_i hx
      obtain ⟨rfl, rfl, rfl, rfl⟩ := am_nx_inv h
      exact row _ _ _ (fun n => absurd n hx) (fun _ => kk.pure ok)
  · cases h
theorem am_s_jr {t : Nat} {o : Int} {q} (h : am_jr t pc ls st H = some (.inl q)) (ok : am_ok s z fr cA D mth ls H Hh locs cls cells) (hx : p.tables.exec = Jvm.exec) (hb : c.code = am_by mth) (hdg : decode (am_by mth) pc = .ok (.if_acmp .ne o, 3)) (ht : (pc : Int) + o = (t : Int)) (kk : am_K p l e R s m args below meth c Q z fr cA D mth H cells slots q) : W p l e R s m args below meth c Hh locs cells slots Q (F0 m pc cls (st.map (am_cv z fr))) := by
  unfold am_jr at h
  split at h
  · rename_i y x r
    obtain ⟨q1, q2, q3, q4⟩ := q
    refine lv_acmp_ne (rx := some (z + x)) (ry := some (z + y)) (tgt := t) hx hb hdg ht (fun n => ?_) (fun n => ?_)
    · split at h
      · rename_i e1
        exact absurd (by rw [e1]) n
      · obtain ⟨rfl, rfl, rfl, rfl⟩ := am_nx_inv h
        exact kk.pure ok
    · split at h
      · obtain ⟨rfl, rfl, rfl, rfl⟩ := am_nx_inv h
        exact kk.pure ok
      · rename_i e1
        have n : z + x = z + y := Option.some.inj n
        exact absurd (Nat.add_left_cancel n) e1
  · cases h
theorem am_s_sw {d lo hi : Int} {offs : Array Int} {len : Nat} {q} (h : am_sw lo hi (offs.toList.map (fun o => ((pc : Int) + o).toNat)) ((pc : Int) + d).toNat ls st H = some (.inl q)) (ok : am_ok s z fr cA D mth ls H Hh locs cls cells) (hx : p.tables.exec = Jvm.exec) (hb : c.code = am_by mth) (hdg : decode (am_by mth) pc = .ok (.tableswitch d lo hi offs, len)) (hd : 0 ≤ (pc : Int) + d) (ho : ∀ o ∈ offs.toList, 0 ≤ (pc : Int) + o) (kk : am_K p l e R s m args below meth c Q z fr cA D mth H cells slots q) : W p l e R s m args below meth c Hh locs cells slots Q (F0 m pc cls (st.map (am_cv z fr))) := by
  unfold am_sw at h
  split at h
  · rename_i x r
    obtain ⟨q1, q2, q3, q4⟩ := q
    split at h
    · rename_i hlo
      obtain ⟨rfl, rfl, rfl, rfl⟩ := am_nx_inv h
      exact lv_tableOut (tgt := ((pc : Int) + d).toNat) hx hb hdg hlo (Int.toNat_of_nonneg hd).symm (kk.pure ok)
    · rename_i hlo
      split at h
      · rename_i t ht
        obtain ⟨rfl, rfl, rfl, rfl⟩ := am_nx_inv h
        rw [List.getElem?_map] at ht
        cases ho2 : offs.toList[(x.toInt - lo).toNat]? with
        | none => rw [ho2] at ht; cases ht
        | some o =>
          rw [ho2] at ht
          have ht : ((pc : Int) + o).toNat = t := Option.some.inj ht
          subst ht
          refine lv_tableIn (off := o) (tgt := ((pc : Int) + o).toNat) hx hb hdg (fun n => hlo (Or.inl n)) (fun n => hlo (Or.inr n)) ?_ (Int.toNat_of_nonneg (ho o (List.mem_of_getElem? ho2))).symm (kk.pure ok)
          rw [← Array.getElem?_toList]
          exact ho2
      · cases h
  · cases h
theorem am_s_ldc {v : Int32} {k x pc' : Nat} {q} (h : am_ldc v k x pc' ls st H = some (.inl q)) (ok : am_ok s z fr cA D mth ls H Hh locs cls cells) (row0 : k = 0 → ∀ rest, W p l e R s m args below meth c Hh locs cells slots Q (F0 m pc' cls (.int v :: rest)) → W p l e R s m args below meth c Hh locs cells slots Q (F0 m pc cls rest)) (row1 : ¬ k = 0 → ∀ rest, W p l e R s m args below meth c Hh locs cells slots Q (F0 m pc' cls (.ref (fr (x + 1)) :: rest)) → W p l e R s m args below meth c Hh locs cells slots Q (F0 m pc cls rest)) (kk : am_K p l e R s m args below meth c Q z fr cA D mth H cells slots q) : W p l e R s m args below meth c Hh locs cells slots Q (F0 m pc cls (st.map (am_cv z fr))) := by
  unfold am_ldc at h
  obtain ⟨q1, q2, q3, q4⟩ := q
  split at h
  · rename_i hk
    obtain ⟨rfl, rfl, rfl, rfl⟩ := am_nx_inv h
    exact row0 hk _ (kk.pure ok)
  · rename_i hk
    obtain ⟨rfl, rfl, rfl, rfl⟩ := am_nx_inv h
    exact row1 hk _ (kk.pure ok)
end AMR
