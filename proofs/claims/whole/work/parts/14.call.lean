/-! what lies beside the world stays, calls, the end -/
theorem am_AOA.moved {ty : FieldType} {u U : State} (hvm : u.vm.Alike U.vm) (h : am_AOA ty u) : am_AOA ty U := by
  have h1 : (Cond.arrayOver (.array ty)).before #[] (u.setVm U.vm) = true := by
    rw [Cond.arrayOver_setVmC hvm]
    exact h
  exact h1
theorem am_SO.at {z a v : Nat} {bs : List Int32} {s U : State} (h : am_SO z a v bs s) (hvm : s.vm.Alike U.vm) (hq : ∀ q : Nat, q < s.heap.size → ¬ z ≤ q → U.heap[q]? = s.heap[q]?) : am_SO z a v bs U :=
  ⟨(h.1.kept hq).moved hvm, (h.2.1.kept hq).moved hvm, (h.2.2.1.kept hq).moved hvm, (h.2.2.2.kept hq).moved hvm⟩
theorem am_FO.at {z : Nat} {fr adV : Nat → Nat} {X : am_X} {s U : State} (h : am_FO z fr adV X s) (hW : s.WarmedH U.vm) (hz : z ≤ U.heap.size) (hq : ∀ q : Nat, q < s.heap.size → ¬ z ≤ q → U.heap[q]? = s.heap[q]?) : am_FO z fr adV X U := by
  obtain ⟨⟨h1, h2, h3⟩, h4, h5, h6, ⟨h7, h8⟩, h9, h10⟩ := h
  refine ⟨⟨(h1.kept (hq _ (Nat.lt_of_lt_of_le h2 h3) (Nat.not_le.mpr h2))).moved hW.alike, h2, hz⟩, fun j => ⟨fun hj => ((h4 j).1 hj).warm hW, (h4 j).2.at hW.alike hq⟩, fun w hw hN => ?_, h6.moved hW.alike, ⟨h7.moved hW.alike, h8.moved hW.alike⟩, (h9.kept hq).moved hW.alike, (h10.kept hq).moved hW.alike⟩
  have h5 := h5 w hw hN
  unfold am_isN at hN
  split at hN
  · exact va_Nw.warmF hW h5
  · exact va_Nw.warmM hW h5
  · cases hN
section AMR
variable {p : Program} {l : Launch} {e : Env} {R : Room} {s : State} {m : MethodId} {args : Array Value} {below : List Frame} {meth : Method} {c : Code} {Q : State → Prop} {z : Nat} {fr adV : Nat → Nat} {cA : FieldType → ClassId} {D : va_G} {X : am_X} {mth pc : Nat} {ls : am_L} {st : List Value} {H : am_H} {Hh : Heap} {locs : List Loc} {cls : Array Slot} {cells slots : Nat}
/-- the texts' bytes are below 128, there are few of them -/
def am_bs (X : am_X) : Prop := ∀ j, (X.2.2 j).length < 2 ^ 31 ∧ ∀ i, ∃ k, k < 128 ∧ (X.2.2 j).getD i 0 = nI k
theorem am_s_slen {j : Nat} {q} (h : am_slen X pc ls st H = some (.inl q)) (cx : am_cx p R s m args meth c z fr adV cA X mth) (ok : am_ok s z fr cA D mth ls H Hh locs cls cells) (hdg : decode (am_by mth) pc = .ok (.invokevirtual j, 3)) (hk : am_mle (am_ow mth) j 1001 0 = true) (hr1 : 2 ≤ am_rk mth) (hc : cells ≤ R.cells) (hs : slots ≤ R.slots) (kk : am_K p l e R s m args below meth c Q z fr cA D mth H cells slots q) : W p l e R s m args below meth c Hh locs cells slots Q (F0 m pc cls (st.map (am_cv z fr))) := by
  obtain ⟨hx, hb, hml, hown, hts, hin, hF, hcA, hfr, hlo⟩ := cx
  unfold am_slen at h
  split at h
  · rename_i i r
    split at h
    · rename_i hrl
      obtain ⟨q1, q2, q3, q4⟩ := q
      obtain ⟨rfl, rfl, rfl, rfl⟩ := am_nx_inv h
      obtain ⟨hP, -, hwf, hS, hl, -⟩ := id ok
      have hlk := am_mle_get hk
      have hT := hF.2.1 i
      have hrc : ∃ cell : Cell, Hh[fr (i + 1)]? = some cell ∧ cell.vm.isStatics = false ∧ s.vm.findClass "java/lang/String" = some cell.cls := by
        obtain ⟨cell, h1, h2, h3, -⟩ := hT.2.1.kept hS.2.1
        exact ⟨cell, h1, h2, h3⟩
      refine W.callR (r := Int32.ofNat (X.2.2 i).length) (rest := r.map (am_cv z fr)) (W.runV (g := F0 m pc cls (.ref (fr (i + 1)) :: r.map (am_cv z fr))) (As := []) (b := fr (i + 1)) (C := "java/lang/String") (bytes := jb_length) (maxL := 1) (ret := some .int) (n := 0) ⟨hx, hb, hml, hown, hts⟩ (am_j_length (z := z) (a := fr (i + 1)) (v := adV i) (bs := X.2.2 i)) (cwV 0 hts (am_gd (fun w hw => by
        simp only [List.mem_cons, List.not_mem_nil, or_false] at hw
        rcases hw with rfl | rfl | rfl | rfl
        · exact hlk
        · exact jw_nL
        · exact jw_sL
        · exact jw_iS) (am_gc jc_length)) rfl rfl rfl (by decide +kernel) ⟨by show 1 + 1 ≤ R.frames; omega, by show 8 + (1 + 11) + 20 ≤ R.locals; omega⟩) ⟨fun x U g mk q => ⟨q.1, q.2.at (Vm.Alike.refl U.vm) rfl⟩, hrc, fun U hU hW => ⟨rfl, hT.2.at hW.alike (by rw [hU]; exact hS.2.1), (hF.2.2.2.2.2.1.kept (by rw [hU]; exact hS.2.1)).moved hW.alike, (hF.2.2.2.2.2.2.kept (by rw [hU]; exact hS.2.1)).moved hW.alike⟩⟩ rfl rfl hl.2.1 rfl (lv_room (by rw [am_cats]; exact hrl)) hdg ⟨hc, hs⟩) (kk.pure ok)
    · cases h
  · cases h
theorem am_s_schr {j : Nat} {q} (h : am_schr X pc ls st H = some (.inl q)) (cx : am_cx p R s m args meth c z fr adV cA X mth) (ok : am_ok s z fr cA D mth ls H Hh locs cls cells) (hX : am_bs X) (hdg : decode (am_by mth) pc = .ok (.invokevirtual j, 3)) (hk : am_mle (am_ow mth) j 1002 0 = true) (hr1 : 4 ≤ am_rk mth) (hc : cells ≤ R.cells) (hs : slots ≤ R.slots) (kk : am_K p l e R s m args below meth c Q z fr cA D mth H cells slots q) : W p l e R s m args below meth c Hh locs cells slots Q (F0 m pc cls (st.map (am_cv z fr))) := by
  obtain ⟨hx, hb, hml, hown, hts, hin, hF, hcA, hfr, hlo⟩ := cx
  unfold am_schr at h
  split at h
  · rename_i x i r
    split at h
    · cases h
    · rename_i hi
      obtain ⟨q1, q2, q3, q4⟩ := q
      obtain ⟨rfl, rfl, rfl, rfl⟩ := am_nx_inv h
      obtain ⟨hP, -, hwf, hS, hl, -⟩ := id ok
      have hlk := am_mle_get hk
      have hT := hF.2.1 i
      have hrl : r.length ≤ 8 := Nat.not_lt.mp fun q => hi (Or.inr (Or.inr q))
      have hi2 : vp_in x (X.2.2 i).length := fun q => hi (q.elim Or.inl (fun q => Or.inr (Or.inl q)))
      have hrc : ∃ cell : Cell, Hh[fr (i + 1)]? = some cell ∧ cell.vm.isStatics = false ∧ s.vm.findClass "java/lang/String" = some cell.cls := by
        obtain ⟨cell, h1, h2, h3, -⟩ := hT.2.1.kept hS.2.1
        exact ⟨cell, h1, h2, h3⟩
      refine W.callR (r := (X.2.2 i).getD x.toNatClampNeg 0) (rest := r.map (am_cv z fr)) (W.runV (g := F0 m pc cls (.int x :: .ref (fr (i + 1)) :: r.map (am_cv z fr))) (As := [.int x]) (b := fr (i + 1)) (C := "java/lang/String") (bytes := jb_sch) (maxL := 2) (ret := some .char) (n := 1) ⟨hx, hb, hml, hown, hts⟩ (am_j_sch (z := z) (a := fr (i + 1)) (v := adV i) (bs := X.2.2 i) hi2 ((hX i).2 _) (hX i).1) (cwV 1 hts (am_gd (fun w hw => by
        simp only [List.mem_cons, List.not_mem_nil, or_false] at hw
        rcases hw with rfl | rfl | rfl | rfl
        · exact hlk
        · exact jw_nC
        · exact jw_sC
        · exact jw_iS) (am_gc jc_sch)) rfl rfl rfl (by decide +kernel) ⟨by show 3 + 1 ≤ R.frames; omega, by show 8 + (2 + 11) + 64 ≤ R.locals; omega⟩) ⟨fun x U g mk q => ⟨q.1, q.2.at (Vm.Alike.refl U.vm) rfl⟩, hrc, fun U hU hW => ⟨rfl, hT.2.at hW.alike (by rw [hU]; exact hS.2.1), (hF.2.2.2.2.2.1.kept (by rw [hU]; exact hS.2.1)).moved hW.alike, (hF.2.2.2.2.2.2.kept (by rw [hU]; exact hS.2.1)).moved hW.alike⟩⟩ rfl rfl hl.2.1 rfl (lv_room (by rw [am_cats]; exact hrl)) hdg ⟨hc, hs⟩) (kk.pure ok)
  · cases h
/-- behind a call -/
theorem am_callR {ls0 : Array Slot} {st0 rest : List Value} {Qa : State → Outcome → State → Prop} {mc ms : Nat} {free : Addr → Prop} {A0 : Nat → Prop} {H0 Hx : Heap} (hr : va_Run p l e R s m args below meth c Hx locs cells slots mc ms (F0 m pc ls0 st0) rest Qa free) (hS : va_S A0 H0 Hx locs) (hf : ∀ q, free q → A0 q)
    (hQ : ∀ st₀ o t, st₀.heap = Hx → Qa st₀ o t → Hx.size ≤ t.heap.size ∧ ∀ q : Nat, q < Hx.size → ¬ A0 q → t.heap[q]? = Hx[q]?)
    (kk : ∀ (v : Option Value) (st₀ t : State) (locs1 : List Loc), st₀.heap = Hx → s.WarmedH t.vm → Qa st₀ (.returned v) t → va_S A0 H0 t.heap locs1 → W p l e R s m args below meth c t.heap locs1 (cells + mc) (slots + ms) Q (F0 m (pc + 3) ls0 (v.toList ++ rest))) : W p l e R s m args below meth c Hx locs cells slots Q (F0 m pc ls0 st0) := by
  intro T hT Xs
  obtain ⟨v, st₀, t, T', L, h0, X', hL, e1, e2, hq, step⟩ := hr T hT Xs
  obtain ⟨hz, hk⟩ := hQ st₀ _ t h0 hq
  obtain ⟨t2, a1, b1⟩ := kk v st₀ t (locs ++ L) h0 (by rw [← e2]; exact X'.warmed) hq
    ⟨Nat.le_trans hS.1 hz, fun q h1 h2 => by rw [hk q (Nat.lt_of_lt_of_le h1 hS.1) h2]; exact hS.2.1 q h1 h2, fun q hq' => by
      rcases List.mem_append.mp hq' with h | h
      · exact hS.2.2 q h
      · exact hf _ (hL q h)⟩ T' e1 X'
  exact ⟨t2, step t2 a1, b1⟩
end AMR
