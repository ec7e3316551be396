/-! A RUN OF THE ABSTRACT MACHINE IS A RUN OF THE MACHINE -/
theorem am_run_mono {P : am_P} {G : am_G} {X : am_X} : ∀ (n : Nat) {mth pc : Nat} {ls : am_L} {st : List Value} {H H' : am_H} {v : Option Value}, am_run P G X n mth pc ls st H = some (v, H') → H.1 ≤ H'.1 ∧ H.2.1 ≤ H'.2.1 := by
  intro n
  induction n with
  | zero => intro mth pc ls st H H' v h; cases h
  | succ n ih =>
    intro mth pc ls st H H' v h
    unfold am_run at h
    split at h
    · cases h
    · split at h
      · cases h
      · rename_i hst
        have h1 := am_step_mono hst
        have h2 := ih h
        exact ⟨Nat.le_trans h1.1 h2.1, Nat.le_trans h1.2 h2.2⟩
      · cases h
        exact ⟨Nat.le_refl _, Nat.le_refl _⟩
      · split at h
        · cases h
        · rename_i hr
          have h1 := ih hr
          have h2 := ih h
          exact ⟨Nat.le_trans h1.1 h2.1, Nat.le_trans h1.2 h2.2⟩
theorem am_FO.same {z : Nat} {fr adV : Nat → Nat} {X : am_X} {s U : State} (h : am_FO z fr adV X s) (hv : U.vm = s.vm) (hh : U.heap = s.heap) : am_FO z fr adV X U := by
  obtain ⟨⟨h1, h2, h3⟩, h4, h5, h6, ⟨h7, h8⟩, h9, h10⟩ := h
  have hal : s.vm.Alike U.vm := by rw [hv]; exact Vm.Alike.refl _
  refine ⟨⟨by rw [hh]; exact h1.moved hal, h2, by rw [hh]; exact h3⟩, fun j => ⟨fun hj => ((h4 j).1 hj).same hv, (h4 j).2.at hal (fun q _ _ => by rw [hh])⟩, fun w hw hN => ?_, h6.moved hal, ⟨h7.moved hal, h8.moved hal⟩, by rw [hh]; exact h9.moved hal, by rw [hh]; exact h10.moved hal⟩
  have h5 := h5 w hw hN
  unfold am_isN at hN
  split at hN
  · exact va_Nw.same rfl hv.symm h5
  · exact va_Nw.same rfl hv.symm h5
  · cases hN
/-- a method's start and its end -/
def am_Pc (z : Nat) (fr adV : Nat → Nat) (cA : FieldType → ClassId) (D : va_G) (X : am_X) (as : List Value) (H : am_H) : Array Value → State → Prop := va_Pc (as.map (am_cv z fr)) (fun U => am_FO z fr adV X U ∧ (∀ ty k, U.vm.findClass ("[" ++ ty.toString) = some k → cA ty = k) ∧ va_P D am_cl (am_ws z fr cA H) U.heap ∧ (∃ tys, va_K D am_cl tys U ∧ am_cov cA tys H) ∧ am_wf H ∧ U.heap.size = z + H.1)
def am_Qc (z : Nat) (fr : Nat → Nat) (cA : FieldType → ClassId) (D : va_G) (v : Option Value) (H : am_H) : Array Value → State → Outcome → State → Prop := fun _ st o t => o = .returned (v.map (am_cv z fr)) ∧ va_P D am_cl (am_ws z fr cA H) t.heap ∧ (∃ tys, va_K D am_cl tys t ∧ am_cov cA tys H) ∧ am_wf H ∧ va_F (fun q => z ≤ q) st t
theorem am_Pc_blind {z : Nat} {fr adV : Nat → Nat} {cA : FieldType → ClassId} {D : va_G} {X : am_X} {as : List Value} {H : am_H} : FrameBlind (am_Pc z fr adV cA D X as H) := by
  intro a U g mk h
  obtain ⟨h1, h2, h3, h4, ⟨tys, h5, h6⟩, h7⟩ := h
  exact ⟨h1, h2.same rfl rfl, h3, h4, ⟨tys, va_K.moved (u := U) (U := U.calling g mk a) (Vm.Alike.refl U.vm) h5, h6⟩, h7⟩
/-- where and how a method ends -/
def am_end (mth pc : Nat) (v : Option Value) : Prop := (∃ x ty, v = some (.int x) ∧ am_rt mth = some ty ∧ narrow ty (.int x) = .int x ∧ decode (am_by mth) pc = .ok (.ireturn, 1)) ∨ (v = none ∧ am_rt mth = none ∧ decode (am_by mth) pc = .ok (.return_, 1))
theorem am_char01 {x : Int32} (h : 0 ≤ x ∧ x ≤ 65535) : narrow .char (.int x) = .int x := by
  have h0 : ¬ x < 0 := fun q => absurd h.1 (by rw [Int32.le_iff_toInt_le]; rw [Int32.lt_iff_toInt_lt] at q; omega)
  obtain ⟨k, hk, rfl⟩ := nI_of h0
  have h2 : k ≤ 65535 := (nI_leI hk (b := 65535) (by decide)).mp h.2
  exact (pk_charN (q := k) (by omega)).1
theorem am_step_ret {X : am_X} {mth pc : Nat} {i : am_I} {ls : am_L} {st : List Value} {H : am_H} {v : Option Value} (hc : am_cd mth pc = some i) (h : am_step am_g X mth i pc ls st H = some (.inr (.inl v))) : am_end mth pc v ∧ st = v.toList := by
  obtain ⟨hm, hck⟩ := am_dec hc
  obtain ⟨ln, hdg, hsw, hk⟩ := am_dec1 hck
  obtain ⟨ins, x, y, w⟩ := i
  dsimp only at hdg hsw
  by_cases h1 : ins = .ireturn
  · subst h1
    obtain rfl := hsw.resolve_left Bool.false_ne_true
    have h : am_ret (am_rt mth) st = some (.inr (.inl v)) := h
    unfold am_ret at h
    split at h
    · rename_i e1 e2
      cases h
      exact ⟨Or.inl ⟨_, _, rfl, e1, rfl, hdg⟩, rfl⟩
    · rename_i e1 e2
      split at h
      · rename_i hx
        cases h
        exact ⟨Or.inl ⟨_, _, rfl, e1, by rcases hx with rfl | rfl <;> rfl, hdg⟩, rfl⟩
      · cases h
    · rename_i e1 e2
      split at h
      · rename_i hx
        cases h
        exact ⟨Or.inl ⟨_, _, rfl, e1, am_char01 hx, hdg⟩, rfl⟩
      · cases h
    · cases h
  · by_cases h2 : ins = .return_
    · subst h2
      obtain rfl := hsw.resolve_left Bool.false_ne_true
      have h : (match am_rt mth, st with
        | none, [] => (some (.inr (.inl none)) : am_R)
        | _, _ => none) = some (.inr (.inl v)) := h
      split at h
      · rename_i e1 e2
        cases h
        exact ⟨Or.inr ⟨rfl, e1, hdg⟩, rfl⟩
      · cases h
    · exfalso
      unfold am_step at h
      split at h <;> (try simp only [am_nx, am_bin, am_div, am_un, am_iload, am_aload, am_istore, am_astore, am_iinc, am_j1, am_j2, am_jr, am_sw, am_getf, am_putf, am_ald, am_ast, am_aald, am_aast, am_alen, am_new, am_newa, am_newq, am_mna, am_copy, am_slen, am_schr, am_m1, am_m2, am_oini, am_call, am_ldc, am_pop, am_dup, am_dup2] at h) <;> (repeat' split at h) <;> first | (cases h; done) | (rename_i hq; exact h1 hq) | (rename_i hq; exact h2 hq) | (rename_i hq _; exact h1 hq) | (rename_i hq _ _; exact h2 hq) | (rename_i hq _ _ _; exact h2 hq) | skip
