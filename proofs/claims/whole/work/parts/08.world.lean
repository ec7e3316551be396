/-! THE ABSTRACT HEAP IN THE MACHINE'S: cell k lies at z + k; foreign references (script, texts) at fr j; the classes of arrays by cA. -/
def am_cv (z : Nat) (fr : Nat → Nat) (v : Value) : Value := match v with
  | .int x => .int x
  | .ref k => .ref (z + k)
  | .retAddr j => .ref (fr j)
  | _ => .null
def am_ce (z : Nat) (fr : Nat → Nat) (cA : FieldType → ClassId) (e : am_E) : va_E := match e with
  | .inl (ty, n, .inl f) => .inl (cA ty, n, .inl f)
  | .inl (ty, n, .inr f) => .inl (cA ty, n, .inr (.inr (.inr (.inr (fun i => (f i).map (fun k => z + k))))))
  | .inr (c, fs) => .inr (c, fs.map (am_cv z fr))
def am_ws (z : Nat) (fr : Nat → Nat) (cA : FieldType → ClassId) (H : am_H) : va_W := (List.range H.1).map (fun k => (z + k, am_ce z fr cA (H.2.2 k)))
theorem am_cv_cat (z : Nat) (fr : Nat → Nat) (v : Value) : (am_cv z fr v).category = 1 := by cases v <;> rfl
theorem am_cats (z : Nat) (fr : Nat → Nat) (l : List Value) : ((l.map (am_cv z fr)).map fun v => v.category).sum = l.length := by
  induction l with
  | nil => rfl
  | cons v l ih =>
    simp only [List.map_cons, List.sum_cons, List.length_cons]
    rw [am_cv_cat, ih]
    omega
theorem am_ws_get {z : Nat} {fr : Nat → Nat} {cA : FieldType → ClassId} {H : am_H} {k : Nat} (hk : k < H.1) : (am_ws z fr cA H)[k]? = some (z + k, am_ce z fr cA (H.2.2 k)) := by
  simp [am_ws, hk]
theorem am_ws_of {z : Nat} {fr : Nat → Nat} {cA : FieldType → ClassId} {H : am_H} {k : Nat} {q : Nat × va_E} (h : (am_ws z fr cA H)[k]? = some q) : k < H.1 ∧ q = (z + k, am_ce z fr cA (H.2.2 k)) := by
  by_cases hk : k < H.1
  · rw [am_ws_get hk] at h
    exact ⟨hk, (Option.some.inj h).symm⟩
  · simp [am_ws, List.getElem?_eq_none, hk] at h
theorem am_ws_set {z : Nat} {fr : Nat → Nat} {cA : FieldType → ClassId} {H : am_H} {k : Nat} (e : am_E) (s' : Nat) (hk : k < H.1) : (am_ws z fr cA H).set k (z + k, am_ce z fr cA e) = am_ws z fr cA (H.1, s', am_up H.2.2 k e) := by
  apply List.ext_getElem?
  intro i
  by_cases hi : i < H.1
  · rw [am_ws_get (H := (H.1, s', am_up H.2.2 k e)) hi]
    by_cases e1 : k = i
    · subst e1
      rw [List.getElem?_set_self (by simp [am_ws, hk])]
      simp [am_up]
    · rw [List.getElem?_set_ne e1, am_ws_get hi]
      simp [am_up, show ¬ i = k from fun q => e1 q.symm]
  · rw [List.getElem?_eq_none (by simp [am_ws]; omega), List.getElem?_eq_none (by simp [am_ws]; omega)]
theorem am_ws_push {z : Nat} {fr : Nat → Nat} {cA : FieldType → ClassId} {H : am_H} (e : am_E) (s' : Nat) : am_ws z fr cA H ++ [(z + H.1, am_ce z fr cA e)] = am_ws z fr cA (H.1 + 1, s', am_up H.2.2 H.1 e) := by
  unfold am_ws
  rw [List.range_succ, List.map_append]
  congr 1
  · apply List.map_congr_left
    intro k hk
    have hk := List.mem_range.mp hk
    simp [am_up, Nat.ne_of_lt hk]
  · simp [am_up]
theorem am_D {z : Nat} {fr : Nat → Nat} {cA : FieldType → ClassId} (H : am_H) : va_D (fun q => z ≤ q) (am_ws z fr cA H) := by
  refine ⟨fun i j p q hi hj h => ?_, fun k q hk => ?_⟩
  · obtain ⟨-, rfl⟩ := am_ws_of hi
    obtain ⟨-, rfl⟩ := am_ws_of hj
    have h : z + i = z + j := h
    omega
  · obtain ⟨-, rfl⟩ := am_ws_of hk
    exact Nat.le_add_right z k
/-- beyond its cells the heap holds nothing; what an array holds fits its type -/
def am_wf (H : am_H) : Prop := (∀ k, H.1 ≤ k → H.2.2 k = am_no) ∧ ∀ k ty n f, H.2.2 k = .inl (ty, n, .inl f) → ∀ i, fits ty (.int (f i)) = true
def am_cov (cA : FieldType → ClassId) (tys : List (ClassId × FieldType)) (H : am_H) : Prop := ∀ k ty n x, H.2.2 k = .inl (ty, n, x) → ∃ t : Nat, tys[t]? = some (cA ty, ty)
theorem am_wf_arr {H : am_H} (h : am_wf H) {k : Nat} {x} (e : H.2.2 k = .inl x) : k < H.1 := by
  rcases Nat.lt_or_ge k H.1 with q | q
  · exact q
  · rw [h.1 k q] at e
    cases e
theorem am_wf_obj {H : am_H} (h : am_wf H) {k c : Nat} {fs} (e : H.2.2 k = .inr (c, fs)) (hc : c < 1000) : k < H.1 := by
  rcases Nat.lt_or_ge k H.1 with q | q
  · exact q
  · rw [h.1 k q] at e
    cases e
    omega
/-- a cell that there is gets other contents -/
theorem am_wf_up {H : am_H} (h : am_wf H) {k : Nat} (hk : k < H.1) {e : am_E} (he : ∀ ty n f, e = .inl (ty, n, .inl f) → ∀ i, fits ty (.int (f i)) = true) (s' : Nat) : am_wf (H.1, s', am_up H.2.2 k e) := by
  refine ⟨fun j hj => ?_, fun j ty n f e1 => ?_⟩
  · have hj : H.1 ≤ j := hj
    show am_up H.2.2 k e j = am_no
    rw [am_up, if_neg (by omega)]
    exact h.1 j hj
  · have e1 : am_up H.2.2 k e j = .inl (ty, n, .inl f) := e1
    rw [am_up] at e1
    by_cases q : j = k
    · rw [if_pos q] at e1
      exact he ty n f e1
    · rw [if_neg q] at e1
      exact h.2 j ty n f e1
theorem am_wf_new {H : am_H} (h : am_wf H) {e : am_E} (he : ∀ ty n f, e = .inl (ty, n, .inl f) → ∀ i, fits ty (.int (f i)) = true) (s' : Nat) : am_wf (H.1 + 1, s', am_up H.2.2 H.1 e) := by
  refine ⟨fun j hj => ?_, fun j ty n f e1 => ?_⟩
  · have hj : H.1 + 1 ≤ j := hj
    show am_up H.2.2 H.1 e j = am_no
    rw [am_up, if_neg (by omega)]
    exact h.1 j (by omega)
  · have e1 : am_up H.2.2 H.1 e j = .inl (ty, n, .inl f) := e1
    rw [am_up] at e1
    by_cases q : j = H.1
    · rw [if_pos q] at e1
      exact he ty n f e1
    · rw [if_neg q] at e1
      exact h.2 j ty n f e1
theorem am_cov_up {cA : FieldType → ClassId} {tys : List (ClassId × FieldType)} {H : am_H} (h : am_cov cA tys H) {k : Nat} {e : am_E} (he : ∀ ty n x, e = .inl (ty, n, x) → ∃ t : Nat, tys[t]? = some (cA ty, ty)) (n' s' : Nat) : am_cov cA tys (n', s', am_up H.2.2 k e) := by
  intro j ty n x e1
  have e1 : am_up H.2.2 k e j = .inl (ty, n, x) := e1
  rw [am_up] at e1
  by_cases q : j = k
  · rw [if_pos q] at e1
    exact he ty n x e1
  · rw [if_neg q] at e1
    exact h j ty n x e1
theorem am_cov_app {cA : FieldType → ClassId} {tys : List (ClassId × FieldType)} {H : am_H} (h : am_cov cA tys H) (t2 : List (ClassId × FieldType)) : am_cov cA (tys ++ t2) H := fun k ty n x e => by
  obtain ⟨t, ht⟩ := h k ty n x e
  exact ⟨t, by rw [List.getElem?_append_left (List.getElem?_eq_some_iff.mp ht).1]; exact ht⟩
/-- the locals: those that are set lie in the machine's -/
def am_hl (z : Nat) (fr : Nat → Nat) (cls : Array Slot) (n : Nat) (ls : am_L) : Prop := ls.length = n ∧ cls.size = n ∧ lv_wf cls ∧ ∀ (i : Nat) (v : Value), ls[i]? = some (some v) → cls[i]? = some (Slot.val (am_cv z fr v))
def am_lv (z : Nat) (fr : Nat → Nat) (ls : am_L) : List (Nat × Value) := (List.range ls.length).filterMap (fun i => match ls[i]? with
  | some (some v) => some (i, am_cv z fr v)
  | _ => none)
theorem am_lv_mem {z : Nat} {fr : Nat → Nat} {ls : am_L} {i : Nat} {v : Value} (h : ls[i]? = some (some v)) : (i, am_cv z fr v) ∈ am_lv z fr ls := by
  refine List.mem_filterMap.mpr ⟨i, List.mem_range.mpr (List.getElem?_eq_some_iff.mp h).1, ?_⟩
  rw [h]
theorem am_hl_has {z : Nat} {fr : Nat → Nat} {cls : Array Slot} {n : Nat} {ls : am_L} (h : am_hl z fr cls n ls) : lv_has cls n (am_lv z fr ls) := by
  refine ⟨h.2.1, h.2.2.1, fun q hq => ?_⟩
  obtain ⟨i, -, hi⟩ := List.mem_filterMap.mp hq
  cases e : ls[i]? with
  | none => rw [e] at hi; cases hi
  | some o =>
    cases o with
    | none => rw [e] at hi; cases hi
    | some v =>
      rw [e] at hi
      cases hi
      exact h.2.2.2 i v e
theorem am_hl_set {z : Nat} {fr : Nat → Nat} {cls cls' : Array Slot} {n : Nat} {ls : am_L} {i : Nat} {v : Value} (h : am_hl z fr cls n ls) (hi : i < n) (h' : lv_has cls' n ((i, am_cv z fr v) :: (am_lv z fr ls).filter (fun q => !(q.1 == i) && !(q.1 + 1 == i && q.2.category == 2)))) : am_hl z fr cls' n (ls.set i (some v)) := by
  refine ⟨by rw [List.length_set]; exact h.1, h'.1, h'.2.1, fun j w hj => ?_⟩
  by_cases e : i = j
  · subst e
    rw [List.getElem?_set_self (by rw [h.1]; exact hi)] at hj
    cases hj
    exact h'.2.2 (i, am_cv z fr v) List.mem_cons_self
  · rw [List.getElem?_set_ne e] at hj
    refine h'.2.2 (j, am_cv z fr w) (List.mem_cons_of_mem _ (List.mem_filter.mpr ⟨am_lv_mem hj, ?_⟩))
    have : ¬ j = i := fun q => e q.symm
    simp [this, am_cv_cat]
theorem am_args (z : Nat) (fr : Nat → Nat) : ∀ (as : List Value) (i j : Nat) (v : Value), as[j]? = some v → (i + j, am_cv z fr v) ∈ lv_args i (as.map (am_cv z fr))
  | [], _, _, _, h => by simp at h
  | a :: as, i, 0, v, h => by
    rw [List.getElem?_cons_zero] at h
    cases h
    exact List.mem_cons_self
  | a :: as, i, j + 1, v, h => by
    rw [List.getElem?_cons_succ] at h
    have := am_args z fr as (i + 1) j v h
    rw [List.map_cons, lv_args, am_cv_cat, if_neg (by decide)]
    refine List.mem_cons_of_mem _ ?_
    rw [show i + (j + 1) = i + 1 + j by omega]
    exact this
theorem am_sl (z : Nat) (fr : Nat → Nat) (as : List Value) : (lg_sl (as.map (am_cv z fr))).length = as.length := by
  induction as with
  | nil => rfl
  | cons a as ih =>
    have e : lg_sl ((a :: as).map (am_cv z fr)) = Slot.val (am_cv z fr a) :: lg_sl (as.map (am_cv z fr)) := by
      simp only [lg_sl, List.map_cons, List.flatMap_cons, am_cv_cat]
      rfl
    rw [e, List.length_cons, ih, List.length_cons]
/-- a new frame's locals -/
theorem am_hl_entry (z : Nat) (fr : Nat → Nat) (as : List Value) (n : Nat) (hn : as.length ≤ n) : am_hl z fr ((lg_sl (as.map (am_cv z fr)) ++ List.replicate (n - (lg_sl (as.map (am_cv z fr))).length) Slot.unset).toArray) n (am_entry n as) := by
  have h := lv_entry (as.map (am_cv z fr)) (n := n) (by rw [am_sl]; exact hn)
  refine ⟨by simp [am_entry]; omega, h.1, h.2.1, fun i v hi => ?_⟩
  unfold am_entry at hi
  by_cases hl : i < as.length
  · rw [List.getElem?_append_left (by simpa using hl), List.getElem?_map] at hi
    cases ha : as[i]? with
    | none => rw [ha] at hi; cases hi
    | some w =>
      rw [ha] at hi
      cases hi
      have := am_args z fr as 0 i v ha
      rw [Nat.zero_add] at this
      exact h.2.2 _ this
  · rw [List.getElem?_append_right (by simpa using Nat.le_of_not_lt hl)] at hi
    have := List.eq_of_mem_replicate (List.mem_of_getElem? hi)
    cases this
/-- how much of the room the machine has taken -/
theorem am_Wsz {p : Program} {l : Launch} {e : Env} {R : Room} {s : State} {m : MethodId} {args : Array Value} {below : List Frame} {meth : Method} {c : Code} {H : Heap} {locs : List Loc} {cells slots : Nat} {Q : State → Prop} {g : JFrame} (k : H.size ≤ s.heap.size + cells → W p l e R s m args below meth c H locs cells slots Q g) : W p l e R s m args below meth c H locs cells slots Q g := fun T hT X => k (by rw [← hT]; exact X.same.2.2.1) T hT X
