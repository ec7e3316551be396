/-! REASONING ON THE ABSTRACT MACHINE: am_Go: from here the method ends, with Q -/
def am_Go (X : am_X) (m pc : Nat) (ls : am_L) (st : List Value) (H : am_H) (Q : Option Value → am_H → Prop) : Prop := ∃ n v H', am_run am_p am_g X n m pc ls st H = some (v, H') ∧ Q v H'
theorem am_run_more {X : am_X} : ∀ (n : Nat) {m pc : Nat} {ls : am_L} {st : List Value} {H : am_H} {r}, am_run am_p am_g X n m pc ls st H = some r → ∀ k, am_run am_p am_g X (n + k) m pc ls st H = some r := by
  intro n
  induction n with
  | zero => intro m pc ls st H r h k; cases h
  | succ n ih =>
    intro m pc ls st H r h k
    rw [show n + 1 + k = n + k + 1 by omega]
    unfold am_run at h ⊢
    split at h
    · cases h
    · rename_i i hc
      split at h
      · cases h
      · rename_i hst
        (try rw [hst])
        exact ih h k
      · rename_i hst
        (try rw [hst])
        exact h
      · rename_i hst
        (try rw [hst])
        (try dsimp only)
        split at h
        · cases h
        · rename_i hr
          rw [ih hr k]
          exact ih h k
def am_fin (X : am_X) (m : Nat) (ls : am_L) (H : am_H) (Q : Option Value → am_H → Prop) (r : am_R) : Prop := match r with
  | none => False
  | some (.inl (pc', ls', st', H')) => am_Go X m pc' ls' st' H' Q
  | some (.inr (.inl v)) => Q v H
  | some (.inr (.inr (k, as, pc', r))) => am_Go X k 0 (am_entry (am_ml k) as) [] H (fun v H1 => am_Go X m pc' ls (am_push v r) H1 Q)
def am_fo (X : am_X) (m pc : Nat) (ls : am_L) (st : List Value) (H : am_H) (Q : Option Value → am_H → Prop) (o : Option am_I) : Prop := match o with
  | none => False
  | some i => am_fin X m ls H Q (am_step am_g X m i pc ls st H)
theorem go_iff {X : am_X} {m pc : Nat} {ls : am_L} {st : List Value} {H : am_H} {Q : Option Value → am_H → Prop} : am_Go X m pc ls st H Q ↔ am_fo X m pc ls st H Q (am_cd m pc) := by
  constructor
  · rintro ⟨n, v, H', h, hQ⟩
    cases n with
    | zero => cases h
    | succ n =>
      unfold am_run at h
      unfold am_fo am_fin
      split at h
      · cases h
      · rename_i i hc
        have hc : am_cd m pc = some i := hc
        rw [hc]
        dsimp only
        split at h
        · cases h
        · rename_i hst
          rw [hst]
          exact ⟨n, v, H', h, hQ⟩
        · rename_i hst
          rw [hst]
          cases h
          exact hQ
        · rename_i hst
          rw [hst]
          dsimp only
          split at h
          · cases h
          · rename_i v1 H1 hr
            exact ⟨n, v1, H1, hr, n, v, H', h, hQ⟩
  · intro h
    unfold am_fo am_fin at h
    split at h
    · exact h.elim
    · rename_i i hc
      have hc : am_p.1 m pc = some i := hc
      split at h
      · exact h.elim
      · rename_i hst
        obtain ⟨n, v, H', h, hQ⟩ := h
        refine ⟨n + 1, v, H', ?_, hQ⟩
        unfold am_run
        rw [hc]
        dsimp only
        rw [hst]
        exact h
      · rename_i v hst
        refine ⟨1, v, H, ?_, h⟩
        unfold am_run
        rw [hc]
        dsimp only
        rw [hst]
      · rename_i k as pc' r hst
        obtain ⟨n1, v1, H1, h1, n2, v, H', h2, hQ⟩ := h
        refine ⟨n1 + n2 + 1, v, H', ?_, hQ⟩
        unfold am_run
        rw [hc]
        dsimp only
        rw [hst]
        dsimp only
        have h1 := am_run_more n1 h1 n2
        have h2 := am_run_more n2 h2 n1
        rw [Nat.add_comm n2 n1] at h2
        have h1 : am_run am_p am_g X (n1 + n2) k 0 (am_entry (am_p.2 k) as) [] H = some (v1, H1) := h1
        rw [h1]
        exact h2
/-- with stops: the places where the walk halts -/
def am_Gs (S : List Nat) (X : am_X) (m pc : Nat) (ls : am_L) (st : List Value) (H : am_H) (Q : Option Value → am_H → Prop) : Prop := am_Go X m pc ls st H Q
def am_fns (S : List Nat) (X : am_X) (m : Nat) (ls : am_L) (H : am_H) (Q : Option Value → am_H → Prop) (r : am_R) : Prop := match r with
  | none => False
  | some (.inl (pc', ls', st', H')) => am_Gs S X m pc' ls' st' H' Q
  | some (.inr (.inl v)) => Q v H
  | some (.inr (.inr (k, as, pc', r))) => am_Go X k 0 (am_entry (am_ml k) as) [] H (fun v H1 => am_Go X m pc' ls (am_push v r) H1 Q)
def am_fs (S : List Nat) (X : am_X) (m pc : Nat) (ls : am_L) (st : List Value) (H : am_H) (Q : Option Value → am_H → Prop) (o : Option am_I) : Prop := match o with
  | none => False
  | some i => am_fns S X m ls H Q (am_step am_g X m i pc ls st H)
theorem fs_eq {S : List Nat} {X : am_X} {m pc : Nat} {ls : am_L} {st : List Value} {H : am_H} {Q : Option Value → am_H → Prop} {o : Option am_I} : am_fs S X m pc ls st H Q o = am_fo X m pc ls st H Q o := by
  unfold am_fs am_fo am_fns am_fin am_Gs
  rfl
/-- the walk goes on from here, to the stops -/
theorem go_to (S : List Nat) {X : am_X} {m pc : Nat} {ls : am_L} {st : List Value} {H : am_H} {Q : Option Value → am_H → Prop} : am_Go X m pc ls st H Q = am_fs S X m pc ls st H Q (am_cd m pc) := by
  rw [fs_eq]
  exact propext go_iff
theorem gs_u {S : List Nat} {X : am_X} {m pc : Nat} {ls : am_L} {st : List Value} {H : am_H} {Q : Option Value → am_H → Prop} : am_Gs S X m pc ls st H Q = if pc ∈ S then am_Go X m pc ls st H Q else am_fs S X m pc ls st H Q (am_cd m pc) := by
  split
  · rfl
  · rw [← go_to S]
    rfl
theorem fns_if {S : List Nat} {X : am_X} {m : Nat} {ls : am_L} {H : am_H} {Q : Option Value → am_H → Prop} {c : Prop} {dc : Decidable c} {a b : am_R} : am_fns S X m ls H Q (if c then a else b) = if c then am_fns S X m ls H Q a else am_fns S X m ls H Q b := by
  split <;> rfl
theorem fns_nx {S : List Nat} {X : am_X} {m : Nat} {ls : am_L} {H : am_H} {Q : Option Value → am_H → Prop} {pc' : Nat} {ls' : am_L} {st' : List Value} {H' : am_H} : am_fns S X m ls H Q (am_nx pc' ls' st' H') = am_Gs S X m pc' ls' st' H' Q := rfl
theorem fns_no {S : List Nat} {X : am_X} {m : Nat} {ls : am_L} {H : am_H} {Q : Option Value → am_H → Prop} : am_fns S X m ls H Q none = False := rfl
theorem go_mono {X : am_X} {m pc : Nat} {ls : am_L} {st : List Value} {H : am_H} {Q Q' : Option Value → am_H → Prop} (h : am_Go X m pc ls st H Q) (hQ : ∀ v H, Q v H → Q' v H) : am_Go X m pc ls st H Q' := by
  obtain ⟨n, v, H', h, hq⟩ := h
  exact ⟨n, v, H', h, hQ v H' hq⟩
