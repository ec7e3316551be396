/-! THE ABSTRACT MACHINE IS SOUND -/
section AMM
variable {z : Nat} {fr adV : Nat → Nat} {cA : FieldType → ClassId} {D : va_G} {X : am_X}
def am_S (z : Nat) (fr adV : Nat → Nat) (cA : FieldType → ClassId) (D : va_G) (X : am_X) (n : Nat) : Prop :=
  ∀ {mth pc : Nat} {ls : am_L} {st : List Value} {H H' : am_H} {v : Option Value}, am_run am_p am_g X n mth pc ls st H = some (v, H') →
    ∀ {p : Program} {l : Launch} {e : Env} {R : Room} {s : State} {m : MethodId} {args : Array Value} {below : List Frame} {meth : Method} {c : Code} {Q : State → Prop} {Hh : Heap} {locs : List Loc} {cls : Array Slot} {cells slots : Nat},
    am_cx p R s m args meth c z fr adV cA X mth → am_ok s z fr cA D mth ls H Hh locs cls cells → cells + (H'.1 - H.1) ≤ R.cells → slots + (H'.2.1 - H.2.1) ≤ R.slots →
    (∀ Hh' locs' cls' pc' ls', am_ok s z fr cA D mth ls' H' Hh' locs' cls' (cells + (H'.1 - H.1)) → am_end mth pc' v → W p l e R s m args below meth c Hh' locs' (cells + (H'.1 - H.1)) (slots + (H'.2.1 - H.2.1)) Q (F0 m pc' cls' (v.toList.map (am_cv z fr)))) →
    W p l e R s m args below meth c Hh locs cells slots Q (F0 m pc cls (st.map (am_cv z fr)))
/-- a method's contract, out of its run -/
theorem am_Met {n k : Nat} (ih : am_S z fr adV cA D X n) {as : List Value} {H H1 : am_H} {v : Option Value} (hr : am_run am_p am_g X n k 0 (am_entry (am_ml k) as) [] H = some (v, H1)) (l : Launch) (hlen : as.length ≤ am_ml k) (hk : k < am_NM) (hl : k ≠ am_law) : Met l (am_mn k) (.code (am_mn k) (am_by k) (am_ml k) (am_rt k) :: lw_g) { frames := am_rk k, cells := H1.1 - H.1, slots := H1.2.1 - H.2.1, locals := 40 * am_rk k } (am_Pc z fr adV cA D X as H) (am_Qc z fr cA D v H1) (H1.1 - H.1) (H1.2.1 - H.2.1) (fun q => z ≤ q) := by
  obtain ⟨f1, f2, f3, f4, f5, f6, f7, f8⟩ := am_mfacts hk
  refine Met.ofW (cc := am_by k) (maxL := am_ml k) (ret := am_rt k) f7 rfl ?_
  intro p e s m args below meth c s₁ B hml hv
  obtain ⟨rfl, hF, hcA, hP, hK, hwf, hsz⟩ := hv
  have hts0 := atoms_spec (ws := .code (am_mn k) (am_by k) (am_ml k) (am_rt k) :: lw_g) B.pre
  have hts : ∀ w ∈ lw_g, w.before _ s = true := fun w h => hts0 w (List.mem_cons_of_mem _ h)
  have hown : s.vm.findClass (am_nm (am_ow k)) = some m.cls := by rw [← f1]; exact findClass_of_methodNamed B.named
  have hlocks := B.notSynchronized
  have hin : (am_mn k).name = "<init>" → meth.name = "<init>" := fun h => by rw [← h]; exact (name_of_methodNamed B.named B.method).1
  rw [lg_entry_eq]
  have hmono := am_run_mono n hr
  refine ih (st := []) (cells := 0) (slots := 0) hr (locs := []) ⟨B.exec, B.bytes, hml, hown, hts, hin, hF, hcA, Nat.le_refl _, Nat.le_refl _⟩ ⟨hP, hK, hwf, va_S.rf, am_hl_entry z fr as (am_ml k) hlen, by omega⟩ (by rw [Nat.zero_add]; exact Nat.le_refl _) (by rw [Nat.zero_add]; exact Nat.le_refl _) (fun Hh' locs' cls' pc' ls' ok' he => ?_)
  rw [Nat.zero_add, Nat.zero_add]
  obtain ⟨hP', ⟨tys', hK', hcov'⟩, hwf', hS', -⟩ := ok'
  rcases he with ⟨x, ty, rfl, hrt, hn, hd⟩ | ⟨rfl, hrt, hd⟩
  · exact W.zret (v := x) (ty := ty) B.exec B.bytes (by rw [B.returns, hrt]) hn (fun t ht hW => ⟨rfl, by rw [ht]; exact hP', ⟨tys', va_K.moved hW.alike hK', hcov'⟩, hwf', hS'.F ht⟩) hS'.2.2 hd
  · exact W.vret B.exec B.bytes (by rw [B.returns, hrt]) (fun t ht hW => ⟨rfl, by rw [ht]; exact hP', ⟨tys', va_K.moved hW.alike hK', hcov'⟩, hwf', hS'.F ht⟩) hS'.2.2 hd
theorem am_sound (hX : am_bs X) : ∀ n, am_S z fr adV cA D X n := by
  intro n
  induction n with
  | zero =>
    intro mth pc ls st H H' v h
    cases h
  | succ n ih =>
    intro mth pc ls st H H' v h p l e R s m args below meth c Q Hh locs cls cells slots cx ok hrc hrs fin
    unfold am_run at h
    split at h
    · cases h
    · rename_i i hc
      split at h
      · cases h
      · rename_i pc1 ls1 st1 H1 hst
        have h1 := am_step_mono hst
        have h2 := am_run_mono n h
        dsimp only at h1
        refine am_1 hc hst cx ok hX (by dsimp only; omega) (by dsimp only; omega) (fun Hh1 locs1 cls1 cells1 slots1 e1 e2 ok1 => ?_)
        dsimp only at e1 e2
        have ec : cells1 + (H'.1 - H1.1) = cells + (H'.1 - H.1) := by omega
        have es : slots1 + (H'.2.1 - H1.2.1) = slots + (H'.2.1 - H.2.1) := by omega
        exact ih h cx ok1 (by rw [ec]; exact hrc) (by rw [es]; exact hrs) (by rw [ec, es]; exact fin)
      · rename_i v1 hst
        obtain ⟨he, hsv⟩ := am_step_ret hc hst
        cases h
        subst hsv
        have ec : cells + (H.1 - H.1) = cells := by omega
        have es : slots + (H.2.1 - H.2.1) = slots := by omega
        rw [ec, es] at fin
        exact fin Hh locs cls pc ls ok he
      · rename_i k as pc1 r hst
        split at h
        · cases h
        · rename_i v1 H1 hr
          have h1 := am_run_mono n hr
          have h2 := am_run_mono n h
          refine am_c hc hst cx ok h1.1 h1.2 (fun hlen hk hl => am_Met ih hr l hlen hk hl) (by omega) (by omega) (fun Hh1 locs1 ok1 => ?_)
          have ec : cells + (H1.1 - H.1) + (H'.1 - H1.1) = cells + (H'.1 - H.1) := by omega
          have es : slots + (H1.2.1 - H.2.1) + (H'.2.1 - H1.2.1) = slots + (H'.2.1 - H.2.1) := by omega
          exact ih h cx ok1 (by rw [ec]; exact hrc) (by rw [es]; exact hrs) (by rw [ec, es]; exact fin)
end AMM
