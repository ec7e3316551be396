/-! new T[n][k]: an outer array, and its rows made one by one -/
theorem mn_f (z i : Nat) : updV (fun j => if j < i then Value.ref (z + 1 + j) else Value.null) i (.ref (z + 1 + i)) = fun j => if j < i + 1 then .ref (z + 1 + j) else .null := by
  funext j
  show (if j = i then Value.ref (z + 1 + i) else if j < i then Value.ref (z + 1 + j) else Value.null) = if j < i + 1 then .ref (z + 1 + j) else .null
  by_cases q : j = i
  · subst q
    rw [if_pos rfl, if_pos (by omega)]
  · rw [if_neg q]
    by_cases r : j < i
    · rw [if_pos r, if_pos (by omega)]
    · rw [if_neg r, if_neg (by omega)]
/-- i rows are made -/
def mn_st (U : State) (cO cI : ClassId) (N K : Nat) (dv : Value) : Nat → State
  | 0 => U.pushCell (arrV cO N (fun _ => .null))
  | i + 1 => ((mn_st U cO cI N K dv i).pushCell (arrV cI K (fun _ => dv))).setCell U.heap.size (arrV cO N (fun j => if j < i + 1 then .ref (U.heap.size + 1 + j) else .null))
theorem mn_st_at (U : State) (cO cI : ClassId) (N K : Nat) (dv : Value) : ∀ i, (mn_st U cO cI N K dv i).heap.size = U.heap.size + 1 + i ∧ (mn_st U cO cI N K dv i).heap[U.heap.size]? = some (arrV cO N (fun j => if j < i then .ref (U.heap.size + 1 + j) else .null)) ∧ (∀ a, a < U.heap.size → (mn_st U cO cI N K dv i).heap[a]? = U.heap[a]?) ∧ (∀ j, j < i → (mn_st U cO cI N K dv i).heap[U.heap.size + 1 + j]? = some (arrV cI K (fun _ => dv))) ∧ (mn_st U cO cI N K dv i).vm = U.vm ∧ (mn_st U cO cI N K dv i).slotsUsed = U.slotsUsed + N + i * K := by
  intro i
  induction i with
  | zero =>
    refine ⟨by simp [mn_st], ?_, fun a ha => State.heap_pushCell_of_lt _ _ ha, fun j hj => absurd hj (Nat.not_lt_zero j), rfl, by simp [mn_st, arrV_size]⟩
    show (U.pushCell _).heap[U.heap.size]? = _
    rw [State.heap_pushCell_size]
    simp
  | succ i ih =>
    obtain ⟨h1, h2, h3, h4, h5, h6⟩ := ih
    have hlt : U.heap.size < (mn_st U cO cI N K dv i).heap.size := by omega
    have hp : ((mn_st U cO cI N K dv i).pushCell (arrV cI K (fun _ => dv))).heap[U.heap.size]? = some (arrV cO N (fun j => if j < i then .ref (U.heap.size + 1 + j) else .null)) := by rw [State.heap_pushCell_of_lt (h := hlt)]; exact h2
    refine ⟨?_, State.heap_setCell_self hp, fun a ha => ?_, fun j hj => ?_, by simp [mn_st, h5], ?_⟩
    · simp [mn_st, State.setCell, h1]
      omega
    · show (((mn_st U cO cI N K dv i).pushCell _).setCell U.heap.size _).heap[a]? = _
      have ha2 : a < (mn_st U cO cI N K dv i).heap.size := by omega
      rw [State.heap_setCell_other (show U.heap.size ≠ a by omega), State.heap_pushCell_of_lt (h := ha2)]
      exact h3 a ha
    · show (((mn_st U cO cI N K dv i).pushCell _).setCell U.heap.size _).heap[U.heap.size + 1 + j]? = _
      rw [State.heap_setCell_other (show U.heap.size ≠ U.heap.size + 1 + j by omega)]
      by_cases e : j = i
      · subst e
        rw [← h1]
        exact State.heap_pushCell_size _ _
      · have hj2 : U.heap.size + 1 + j < (mn_st U cO cI N K dv i).heap.size := by omega
        rw [State.heap_pushCell_of_lt (h := hj2)]
        exact h4 j (by omega)
    · simp [mn_st, h6, arrV_size, Nat.succ_mul]
      omega
theorem mn_st_top (U : State) (f : JFrame) (cO cI : ClassId) (N K : Nat) (dv : Value) : ∀ i, mn_st (U.setTop f) cO cI N K dv i = (mn_st U cO cI N K dv i).setTop f := by
  intro i
  induction i with
  | zero => rfl
  | succ i ih =>
    unfold mn_st
    rw [ih]
    simp only [State.heap_setTop, State.pushCell_setTop, State.setCell_setTop]
section MN
variable {p : Program} {l : Launch} {e : Env} {R : Room} {s : State} {m : MethodId} {args : Array Value} {below : List Frame} {meth : Method} {c : Code} {T : State} {locs : List Loc} {cells slots : Nat}
theorem mn_stand (X : Stand p l e R s m args below meth c T locs cells slots) (cO cI : ClassId) (N K : Nat) (dv : Value) : ∀ i, i ≤ N → Stand p l e R s m args below meth c (mn_st T cO cI N K dv i) locs (cells + 1 + i) (slots + N + i * K) := by
  intro i
  induction i with
  | zero =>
    intro _
    have h := X.pushed (arrV cO N (fun _ => .null))
    rw [arrV_size] at h
    simpa [mn_st] using h
  | succ i ih =>
    intro hi
    obtain ⟨h1, h2, -, -, -, -⟩ := mn_st_at T cO cI N K dv i
    have X1 := (ih (by omega)).pushed (arrV cI K (fun _ => dv))
    rw [arrV_size] at X1
    have hlt : T.heap.size < (mn_st T cO cI N K dv i).heap.size := by omega
    have hp : ((mn_st T cO cI N K dv i).pushCell (arrV cI K (fun _ => dv))).heap[T.heap.size]? = some (arrV cO N (fun j => if j < i then .ref (T.heap.size + 1 + j) else .null)) := by rw [State.heap_pushCell_of_lt (h := hlt)]; exact h2
    have X2 := X1.stored hp i (.ref (T.heap.size + 1 + i))
    rw [arrV_store] at X2
    have X3 := X2.dropFresh (fun x hx => by
      rw [List.mem_singleton] at hx
      subst hx
      exact X.heapGrown)
    rw [mn_f] at X3
    have e1 : cells + 1 + i + 1 = cells + 1 + (i + 1) := by omega
    have e2 : slots + N + i * K + K = slots + N + (i + 1) * K := by rw [Nat.succ_mul]; omega
    rw [e1, e2] at X3
    exact X3
section
variable {E : CtlPost} {d : Bool} {acts : List Action} {U : State}
theorem mn_alloc {cN comp : ClassId} {k : Class} {ty : FieldType} {N : Nat} {v : Value} (hk : U.vm.classes[cN]? = some k) (hkd : k.kind = .array comp ty) (hl : ¬ N > e.platform.arrayLengthLimit) (hh : ¬ N * componentBytes ty > e.platform.maxHeapBytes) (hf : fits ty v = true) (hd : v.isDefault = true) (h1 : U.heap.size < e.platform.maxCells) (h2 : U.slotsUsed + N ≤ e.platform.maxSlots) {Q : Addr → Pre} (hQ : Q U.heap.size d acts (U.pushCell (arrV cN N (fun _ => v)))) : wp (Jvm.newArray cN N v) Q E e d acts U := by
  have hall : ((Array.replicate N v).all (·.isDefault)) = true := by
    rw [Array.all_replicate]
    split
    · rfl
    · exact hd
  have ha : allocActs (Array.replicate N v) U.heap.size acts = acts := by
    unfold allocActs
    rw [if_pos hall]
  have hfit : ∀ i w, (Array.replicate N v)[i]? = some w → U.fitsSlot cN .none i w = true := by
    intro i w hw
    rw [Array.getElem?_replicate] at hw
    split at hw
    · cases hw
      simp [State.fitsSlot, State.slotType?, hk, hkd, hf]
    · cases hw
  rw [← arrV_new] at hQ
  simp only [Jvm.newArray, Jvm.arrayFits, wp_bind', W.ask, W.ite, hl, if_false, wp_pure', W.theClass, hk, hkd, hh, W.alloc, W.stop, Option.some.injEq, exists_eq_left', Array.size_replicate, ha]
  rw [if_neg (by omega)]
  exact ⟨h1, h2, hfit, hQ⟩
theorem mn_make {cO cI cE : ClassId} {kO kI : Class} {tO tI : FieldType} {n k : Int32} (hO : U.vm.classes[cO]? = some kO) (kdO : kO.kind = .array cI tO) (hI : U.vm.classes[cI]? = some kI) (kdI : kI.kind = .array cE tI) (hn : ¬ n < 0) (hk : ¬ k < 0) (l1 : ¬ n.toNatClampNeg > e.platform.arrayLengthLimit) (b1 : ¬ n.toNatClampNeg * componentBytes tO > e.platform.maxHeapBytes) (l2 : ¬ k.toNatClampNeg > e.platform.arrayLengthLimit) (b2 : ¬ k.toNatClampNeg * componentBytes tI > e.platform.maxHeapBytes) (f0 : ∀ a, fits tO (.ref a) = true) (f1 : fits tO .null = true) (f2 : fits tI (defaultValue tI) = true) (f3 : (defaultValue tI).isDefault = true) (hc : U.heap.size + 1 + n.toNatClampNeg ≤ e.platform.maxCells) (hs : U.slotsUsed + n.toNatClampNeg + n.toNatClampNeg * k.toNatClampNeg ≤ e.platform.maxSlots) {Q : Addr → Pre} (hQ : ∀ d acts, Q U.heap.size d acts (mn_st U cO cI n.toNatClampNeg k.toNatClampNeg (defaultValue tI) n.toNatClampNeg)) : wp (multianewarray.make cO [n, k]) Q E e d acts U := by
  generalize hN : n.toNatClampNeg = N at *
  generalize hK : k.toNatClampNeg = K at *
  have hno : ([k].find? (· < 0)) = none := by simp [hk]
  have hNK : N ≤ N * K + N := Nat.le_add_left _ _
  rw [multianewarray.make]
  simp only [wp_bind', W.ite, hn, if_false, wp_pure', W.theClass, hO, kdO, Option.some.injEq, exists_eq_left', hN]
  refine mn_alloc hO kdO l1 b1 f1 rfl (by omega) (by omega) ?_
  simp only [hno, ite_self]
  rw [wp_bind', Std.Legacy.Range.forIn_eq_forIn_range']
  have hsz : ([:N] : Std.Legacy.Range).size = N := by simp [Std.Legacy.Range.size]
  rw [hsz]
  refine wp_forIn_inv (fun rest V => ∃ i, i ≤ N ∧ rest = List.range' i (N - i) ∧ V = mn_st U cO cI N K (defaultValue tI) i) _ _ ⟨0, Nat.zero_le _, rfl, rfl⟩ ?_ ?_
  · rintro x rest V d2 acts2 Q2 ⟨i, hi, hl, rfl⟩ hnext
    have hlt : i < N := by
      rcases Nat.lt_or_ge i N with q | q
      · exact q
      · rw [show N - i = 0 by omega] at hl
        cases hl
    rw [show N - i = (N - (i + 1)) + 1 by omega, List.range'_succ] at hl
    obtain ⟨rfl, hr⟩ := List.cons.inj hl
    obtain ⟨g1, g2, -, -, g5, g6⟩ := mn_st_at U cO cI N K (defaultValue tI) x
    have hmul : (x + 1) * K ≤ N * K := Nat.mul_le_mul_right K hlt
    rw [Nat.succ_mul] at hmul
    have hlt0 : U.heap.size < (mn_st U cO cI N K (defaultValue tI) x).heap.size := by omega
    simp only [wp_bind']
    rw [multianewarray.make]
    simp only [wp_bind', W.ite, hk, if_false, wp_pure', W.theClass, g5, hI, kdI, Option.some.injEq, exists_eq_left', hK]
    refine mn_alloc (by rw [g5]; exact hI) kdI l2 b2 f2 f3 (by omega) (by omega) ?_
    simp only [wp_bind', W.writeLoc, wp_pure']
    refine ⟨arrV cO N (fun j => if j < x then .ref (U.heap.size + 1 + j) else .null), by rw [State.heap_pushCell_of_lt (h := hlt0)]; exact g2, (fun q => by cases q), (by rw [arrV_size]; exact hlt), ?_, hnext _ _ _ ⟨x + 1, hlt, hr, ?_⟩⟩
    · simp [State.fitsSlot, State.slotType?, arrV, g5, hO, kdO, f0]
    · rw [arrV_store, g1]
      show _ = ((mn_st U cO cI N K (defaultValue tI) x).pushCell (arrV cI K (fun _ => defaultValue tI))).setCell U.heap.size (arrV cO N (fun j => if j < x + 1 then .ref (U.heap.size + 1 + j) else .null))
      rw [mn_f]
  · rintro V d2 acts2 ⟨i, hi, hl, rfl⟩
    have hiN : i = N := by
      rcases Nat.lt_or_ge i N with q | q
      · rw [show N - i = (N - (i + 1)) + 1 by omega, List.range'_succ] at hl
        cases hl
      · omega
    subst hiN
    simp only [wp_pure']
    exact hQ _ _
end
end MN
section MN
variable {E : CtlPost} {e : Env} {d : Bool} {acts : List Action} {U : State} {f : JFrame} {Q : Unit → Pre}
theorem mn_cold {index dm c : Nat} {vm' : Vm} (hs : U.topJava?.isSome) (hg : (Jvm.resolveClass f.method.cls index).Gives e.toSetting U.vm (.ok c) vm') (hr : vm'.classReady f.method.cls index c) (hsz : vm'.classes.size ≤ U.vm.classes.size := by no_record) : wp (multianewarray.sem index dm) Q E e d acts (U.setTop f) ↔ wp (multianewarray.sem index dm) Q E e d acts ((U.setVm vm').setTop f) := by
  simp only [multianewarray.sem, wp_bind']
  exact W.resolveClassAt_transfer (s := U.setTop f) (State.method?_setTop f hs) hg hr
theorem mn_top (cO cI : ClassId) (N K : Nat) (dv : Value) (hs : U.topJava?.isSome) : ∀ i, (mn_st U cO cI N K dv i).topJava?.isSome := by
  intro i
  induction i with
  | zero => exact hs
  | succ i ih => exact ih
theorem mn_ready {index : Nat} {cO cI cE : ClassId} {kO kI : Class} {tO tI : FieldType} {n k : Int32} {rest : List Value} (hs : U.topJava?.isSome) (hr : U.vm.classReady f.method.cls index cO) (hst : f.stack = .int k :: .int n :: rest) (hO : U.vm.classes[cO]? = some kO) (kdO : kO.kind = .array cI tO) (hI : U.vm.classes[cI]? = some kI) (kdI : kI.kind = .array cE tI) (hn : ¬ n < 0) (hk : ¬ k < 0) (l1 : ¬ n.toNatClampNeg > e.platform.arrayLengthLimit) (b1 : ¬ n.toNatClampNeg * componentBytes tO > e.platform.maxHeapBytes) (l2 : ¬ k.toNatClampNeg > e.platform.arrayLengthLimit) (b2 : ¬ k.toNatClampNeg * componentBytes tI > e.platform.maxHeapBytes) (f0 : ∀ a, fits tO (.ref a) = true) (f1 : fits tO .null = true) (f2 : fits tI (defaultValue tI) = true) (f3 : (defaultValue tI).isDefault = true) (hc : U.heap.size + 1 + n.toNatClampNeg ≤ e.platform.maxCells) (hsl : U.slotsUsed + n.toNatClampNeg + n.toNatClampNeg * k.toNatClampNeg ≤ e.platform.maxSlots) (hQ : ∀ d acts, Q () d acts ((mn_st U cO cI n.toNatClampNeg k.toNatClampNeg (defaultValue tI) n.toNatClampNeg).setTop { f with stack := .ref U.heap.size :: rest })) : wp (multianewarray.sem index 2) Q E e d acts (U.setTop f) := by
  simp only [multianewarray.sem, wp_bind', W.resolveClassAt_ready (State.method?_setTop f hs) hr, W.popN, State.topJava?_setTop' _ hs, Option.some.injEq, exists_eq_left']
  rw [if_neg (by decide)]
  refine ⟨[.int n, .int k], rest, rfl, hst, ?_⟩
  simp only [List.mapM_cons, List.mapM_nil, wp_bind', wp_pure', State.setTop_setTop]
  refine mn_make (U := U.setTop { f with stack := rest }) hO kdO hI kdI hn hk l1 b1 l2 b2 f0 f1 f2 f3 hc hsl (fun d2 acts2 => ?_)
  rw [mn_st_top]
  simp only [wp_bind', W.mark, W.pushRef, State.topJava?_setTop' _ (mn_top cO cI n.toNatClampNeg k.toNatClampNeg (defaultValue tI) hs n.toNatClampNeg), Option.some.injEq, exists_eq_left', State.setTop_setTop, State.heap_setTop]
  exact hQ _ _
end MN
section MW
variable {p : Program} {l : Launch} {e : Env} {R : Room} {s : State} {m : MethodId} {args : Array Value} {below : List Frame} {meth : Method} {c : Code} {H : Heap} {locs : List Loc} {cells slots : Nat} {Q : State → Prop}
theorem mn_W {cc : ByteArray} (hexec : p.tables.exec = Jvm.exec) (hb : c.code = cc) {own : String} {index : Nat} {t : FieldType} (hown : s.vm.findClass own = some m.cls) (hclink : (Cond.classLink own index ("[" ++ (FieldType.array t).toString)).before args s = true) (hover : (Cond.arrayOver (.array t)).before args s = true) (harr : (Cond.arrayClass t).before args s = true) (hts : (FieldType.array t).toString = "[" ++ t.toString) (hct : componentBytes t ≤ 8) (f2 : fits t (defaultValue t) = true) (f3 : (defaultValue t).isDefault = true)
    {g : JFrame} (hg : g.method = m) (hdg : decode cc g.pc = .ok (.multianewarray index 2, 4)) {n k : Int32} {rest : List Value} (hstack : g.stack = .int k :: .int n :: rest) (hn : ¬ n < 0) (hk : ¬ k < 0) (hN : n.toNatClampNeg ≤ 100000) (hK : k.toNatClampNeg ≤ 100000) (hcells : cells + (1 + n.toNatClampNeg) ≤ R.cells) (hslots : slots + (n.toNatClampNeg + n.toNatClampNeg * k.toNatClampNeg) ≤ R.slots)
    (kk : ∀ (cO cI : ClassId) (H1 : Heap), s.vm.findClass ("[" ++ (FieldType.array t).toString) = some cO → s.vm.findClass ("[" ++ t.toString) = some cI → ArrOfT s cO (.array t) → ArrOfT s cI t → H1.size = H.size + 1 + n.toNatClampNeg → H1[H.size]? = some (arrV cO n.toNatClampNeg (fun j => if j < n.toNatClampNeg then .ref (H.size + 1 + j) else .null)) → (∀ a, a < H.size → H1[a]? = H[a]?) → (∀ j, j < n.toNatClampNeg → H1[H.size + 1 + j]? = some (arrV cI k.toNatClampNeg (fun _ => defaultValue t))) →
      W p l e R s m args below meth c H1 locs (cells + 1 + n.toNatClampNeg) (slots + n.toNatClampNeg + n.toNatClampNeg * k.toNatClampNeg) Q { g with pc := g.pc + 4, stack := .ref H.size :: rest }) : W p l e R s m args below meth c H locs cells slots Q g := by
  intro T hT X
  subst hT; subst hb; subst hg
  have hpl : e.platform.magicAccessors = ({} : Platform).magicAccessors := by rw [X.admits.platform]
  obtain ⟨comp, cA, kA, hcomp, hidx, hkA, hkindA, hnameA⟩ := arrayOverA_spec hover
  obtain ⟨cI, kI, cE, hcI, hkI, hkindI⟩ := Cond.arrayClass_spec harr
  obtain ⟨cc', hfcc, hcl⟩ := Cond.classLink_spec hown hclink e.platform hpl
  cases hnameA.symm.trans hfcc
  rw [hts] at hcomp
  cases hcomp.symm.trans hcI
  obtain ⟨hg₁, hwarm₁, hready₁⟩ := State.classEntry (e := e) X.warmed hcl
  generalize T.vm.noted g.method.cls index (.cls cA) = vm₁ at hg₁ hwarm₁ hready₁
  have hal : s.vm.Alike vm₁ := hwarm₁.alike
  obtain ⟨kA₁, hkA₁, heA⟩ := hal.2.2 _ _ hkA
  obtain ⟨kI₁, hkI₁, heI⟩ := hal.2.2 _ _ hkI
  have hkindA₁ : kA₁.kind = .array comp (.array t) := by rw [heA]; exact hkindA
  have hkindI₁ : kI₁.kind = .array cE t := by rw [heI]; exact hkindI
  have hm1 : n.toNatClampNeg * 4 ≤ 400000 := Nat.mul_le_mul_right 4 hN
  have hm2 : k.toNatClampNeg * componentBytes t ≤ 100000 * 8 := Nat.mul_le_mul hK hct
  have l1 : ¬ n.toNatClampNeg > e.platform.arrayLengthLimit := by rw [Launch.admits_arrayLengthLimit X.admits]; omega
  have b1 : ¬ n.toNatClampNeg * componentBytes (.array t) > e.platform.maxHeapBytes := by
    rw [Launch.admits_maxHeapBytes X.admits]; show ¬ n.toNatClampNeg * 4 > 536870912; omega
  have l2 : ¬ k.toNatClampNeg > e.platform.arrayLengthLimit := by rw [Launch.admits_arrayLengthLimit X.admits]; omega
  have b2 : ¬ k.toNatClampNeg * componentBytes t > e.platform.maxHeapBytes := by rw [Launch.admits_maxHeapBytes X.admits]; omega
  have X₁ := X.noted hwarm₁
  have X₂ := mn_stand X₁ cA comp n.toNatClampNeg k.toNatClampNeg (defaultValue t) n.toNatClampNeg (Nat.le_refl _)
  obtain ⟨hr1, hr2⟩ := X.roomAbove hcells hslots
  obtain ⟨g1, g2, g3, g4, -, -⟩ := mn_st_at (T.setVm vm₁) cA comp n.toNatClampNeg k.toNatClampNeg (defaultValue t) n.toNatClampNeg
  obtain ⟨t', a1, b1'⟩ := kk cA comp (mn_st (T.setVm vm₁) cA comp n.toNatClampNeg k.toNatClampNeg (defaultValue t) n.toNatClampNeg).heap hnameA hcI (fun N z => ⟨(fun k h => by cases h), kA, hkA, comp, hkindA⟩) (fun N z => ⟨(fun k h => by cases h), kI, hkI, cE, hkindI⟩) g1 g2 g3 g4 _ rfl X₂
  refine ⟨t', ?_, b1'⟩
  jvm_step X.here [hexec, hdg, mn_cold (e := e) (U := T) (f := g) X.here.top hg₁ hready₁]
  refine mn_ready (e := e) (U := T.setVm vm₁) (f := g) X.here.top hready₁ hstack hkA₁ hkindA₁ hkI₁ hkindI₁ hn hk l1 b1 l2 b2 (fun a => rfl) rfl f2 f3 (by show T.heap.size + 1 + _ ≤ _; omega) (by show T.slotsUsed + _ + _ ≤ _; omega) (fun d2 acts2 => ?_)
  intro acts
  rw [afterInstr_ok]
  exact a1
end MW
section AMR
variable {p : Program} {l : Launch} {e : Env} {R : Room} {s : State} {m : MethodId} {args : Array Value} {below : List Frame} {meth : Method} {c : Code} {Q : State → Prop} {z : Nat} {fr adV : Nat → Nat} {cA : FieldType → ClassId} {D : va_G} {X : am_X} {mth pc : Nat} {ls : am_L} {st : List Value} {H : am_H} {Hh : Heap} {locs : List Loc} {cls : Array Slot} {cells slots : Nat}
/-- the heap behind new T[N][K] -/
def mn_H (ty : FieldType) (N K : Nat) (H : am_H) : am_H := (H.1 + 1 + N, H.2.1 + N + N * K, fun b => if b = H.1 then .inl (.array ty, N, .inr (fun i => if i < N then some (H.1 + 1 + i) else none)) else if H.1 < b ∧ b < H.1 + 1 + N then .inl (ty, K, .inl (fun _ => 0)) else H.2.2 b)
theorem mn_ok {ty : FieldType} {N K : Nat} {cO cI : ClassId} {H1 : Heap} (hp : ty = .int ∨ ty = .byte) (hcA : ∀ ty k, s.vm.findClass ("[" ++ ty.toString) = some k → cA ty = k) (ok : am_ok s z fr cA D mth ls H Hh locs cls cells) (hH : Hh.size = z + H.1) (e1 : s.vm.findClass ("[" ++ (FieldType.array ty).toString) = some cO) (e2 : s.vm.findClass ("[" ++ ty.toString) = some cI) (a1 : ArrOfT s cO (.array ty)) (a2 : ArrOfT s cI ty) (z1 : H1.size = Hh.size + 1 + N) (o1 : H1[Hh.size]? = some (arrV cO N (fun j => if j < N then .ref (Hh.size + 1 + j) else .null))) (old : ∀ a, a < Hh.size → H1[a]? = Hh[a]?) (rows : ∀ j, j < N → H1[Hh.size + 1 + j]? = some (arrV cI K (fun _ => defaultValue ty))) : am_ok s z fr cA D mth ls (mn_H ty N K H) H1 locs cls (cells + 1 + N) := by
  obtain ⟨hP, ⟨tys, hK, hcov⟩, hwf, hS, hl, hz⟩ := ok
  have hcO := hcA _ _ e1
  have hcI := hcA _ _ e2
  refine ⟨fun i q hq => ?_, ⟨tys ++ [(cO, .array ty), (cI, ty)], ⟨hK.1, fun k x hx => ?_⟩, fun k ty2 n2 x2 e3 => ?_⟩, ⟨fun k hk => ?_, fun k ty2 n2 f2 e3 i => ?_⟩, ⟨Nat.le_trans hS.1 (by omega), fun q h1 h2 => (old q (by have := hS.1; omega)).trans (hS.2.1 q h1 h2), hS.2.2⟩, hl, ?_⟩
  · obtain ⟨hi, rfl⟩ := am_ws_of hq
    have hi : i < H.1 + 1 + N := hi
    rcases Nat.lt_trichotomy i H.1 with y | y | y
    · have eH : (mn_H ty N K H).2.2 i = H.2.2 i := by
        show (if i = H.1 then _ else if H.1 < i ∧ i < H.1 + 1 + N then _ else H.2.2 i) = _
        rw [if_neg (by omega), if_neg (by omega)]
      rw [eH]
      exact (hP i _ (am_ws_get y)).kept (old (z + i) (by omega))
    · subst y
      have eH : (mn_H ty N K H).2.2 H.1 = .inl (.array ty, N, .inr (fun i => if i < N then some (H.1 + 1 + i) else none)) := if_pos rfl
      rw [eH]
      show H1[z + H.1]? = some (vp_cell _ _)
      rw [← hH, o1, vp_cell_q, hcO]
      congr 2
      funext j
      dsimp only
      by_cases q : j < N
      · rw [if_pos q, if_pos q]
        have ee : Hh.size + 1 + j = z + (H.1 + 1 + j) := by omega
        rw [ee]
        rfl
      · rw [if_neg q, if_neg q]
        rfl
    · have eH : (mn_H ty N K H).2.2 i = .inl (ty, K, .inl (fun _ => 0)) := by
        show (if i = H.1 then _ else if H.1 < i ∧ i < H.1 + 1 + N then _ else H.2.2 i) = _
        rw [if_neg (by omega), if_pos (by omega)]
      rw [eH]
      show H1[z + i]? = some (vp_cell _ _)
      have er := rows (i - H.1 - 1) (by omega)
      rw [show Hh.size + 1 + (i - H.1 - 1) = z + i by omega] at er
      rw [er, vp_cell_i, hcI]
      rcases hp with rfl | rfl <;> rfl
  · by_cases hl : k < tys.length
    · rw [List.getElem?_append_left hl] at hx
      exact hK.2 k x hx
    · rw [List.getElem?_append_right (by omega)] at hx
      have hz : k - tys.length < 2 := (List.getElem?_eq_some_iff.mp hx).1
      rcases (show k - tys.length = 0 ∨ k - tys.length = 1 by omega) with y | y
      · rw [y] at hx
        cases hx
        exact ⟨a1, e1⟩
      · rw [y] at hx
        cases hx
        refine ⟨a2, ?_⟩
        rcases hp with rfl | rfl <;> exact e2
  · have e3 : (if k = H.1 then (.inl (.array ty, N, .inr (fun i => if i < N then some (H.1 + 1 + i) else none)) : am_E) else if H.1 < k ∧ k < H.1 + 1 + N then .inl (ty, K, .inl (fun _ => 0)) else H.2.2 k) = .inl (ty2, n2, x2) := e3
    split at e3
    · cases e3
      refine ⟨tys.length, ?_⟩
      rw [List.getElem?_append_right (Nat.le_refl _), Nat.sub_self, hcO]
      rfl
    · split at e3
      · cases e3
        refine ⟨tys.length + 1, ?_⟩
        rw [List.getElem?_append_right (by omega), show tys.length + 1 - tys.length = 1 by omega, hcI]
        rfl
      · obtain ⟨t, ht⟩ := hcov k ty2 n2 x2 e3
        exact ⟨t, by rw [List.getElem?_append_left (List.getElem?_eq_some_iff.mp ht).1]; exact ht⟩
  · have hk : H.1 + 1 + N ≤ k := hk
    show (if k = H.1 then (.inl (.array ty, N, .inr (fun i => if i < N then some (H.1 + 1 + i) else none)) : am_E) else if H.1 < k ∧ k < H.1 + 1 + N then .inl (ty, K, .inl (fun _ => 0)) else H.2.2 k) = am_no
    rw [if_neg (by omega), if_neg (by omega)]
    exact hwf.1 k (by omega)
  · have e3 : (if k = H.1 then (.inl (.array ty, N, .inr (fun i => if i < N then some (H.1 + 1 + i) else none)) : am_E) else if H.1 < k ∧ k < H.1 + 1 + N then .inl (ty, K, .inl (fun _ => 0)) else H.2.2 k) = .inl (ty2, n2, .inl f2) := e3
    split at e3
    · cases e3
    · split at e3
      · cases e3
        rcases hp with rfl | rfl <;> rfl
      · exact hwf.2 k ty2 n2 f2 e3 i
  · show s.heap.size + (cells + 1 + N) = z + (H.1 + 1 + N)
    omega
theorem am_s_mna {ty : FieldType} {j d x : Nat} {q} (h : am_mna ty pc ls st H = some (.inl q)) (hp : (ty = .int ∧ x = 0) ∨ (ty = .byte ∧ ¬ x = 0)) (cx : am_cx p R s m args meth c z fr adV cA X mth) (ok : am_ok s z fr cA D mth ls H Hh locs cls cells) (hdg : decode (am_by mth) pc = .ok (.multianewarray j d, 4)) (hk : am_opk mth pc (.multianewarray j d, x, 0, 0) = true) (hrc : cells + (q.2.2.2.1 - H.1) ≤ R.cells) (hrs : slots + (q.2.2.2.2.1 - H.2.1) ≤ R.slots) (kk : am_K p l e R s m args below meth c Q z fr cA D mth H cells slots q) : W p l e R s m args below meth c Hh locs cells slots Q (F0 m pc cls (st.map (am_cv z fr))) := by
  obtain ⟨hx, hb, hml, hown, hts, hin, hF, hcA, hfr, hlo⟩ := cx
  have hk : (decide (d = 2) && am_w (.classLink (am_nm (am_ow mth)) j (if x = 0 then "[[I" else "[[B")) && am_w (.arrayClass (if x = 0 then .int else .byte))) = true := hk
  simp only [Bool.and_eq_true, decide_eq_true_eq] at hk
  obtain ⟨⟨rfl, w1⟩, w2⟩ := hk
  unfold am_mna at h
  split at h
  case h_2 => cases h
  rename_i k n r
  split at h
  · cases h
  rename_i hn
  obtain ⟨q1, q2, q3, q4⟩ := q
  obtain ⟨rfl, rfl, rfl, rfl⟩ := am_nx_inv h
  have hn0 : ¬ n < 0 := fun q => hn (Or.inl q)
  have hn1 := am_n100 hn0 (fun q => hn (Or.inr (Or.inl q)))
  have hk0 : ¬ k < 0 := fun q => hn (Or.inr (Or.inr (Or.inl q)))
  have hk1 := am_n100 hk0 (fun q => hn (Or.inr (Or.inr (Or.inr q))))
  have hrc : cells + (H.1 + 1 + n.toNatClampNeg - H.1) ≤ R.cells := hrc
  have hrs : slots + (H.2.1 + n.toNatClampNeg + n.toNatClampNeg * k.toNatClampNeg - H.2.1) ≤ R.slots := hrs
  refine am_Wsz fun hsz => ?_
  have hH : Hh.size = z + H.1 := by
    obtain ⟨hP, -, -, hS, -, hz⟩ := id ok
    rcases Nat.eq_zero_or_pos H.1 with y | y
    · have h1 := hS.1
      have h2 := hF.1.2.2
      omega
    · have : z + (H.1 - 1) < Hh.size := (hP (H.1 - 1) _ (am_ws_get (by omega))).lt
      omega
  have kk2 := fun (H1 : Heap) => kk H1 locs cls (cells + 1 + n.toNatClampNeg) (slots + n.toNatClampNeg + n.toNatClampNeg * k.toNatClampNeg) (by show _ = cells + (H.1 + 1 + n.toNatClampNeg - H.1); omega) (by show _ = slots + (H.2.1 + n.toNatClampNeg + n.toNatClampNeg * k.toNatClampNeg - H.2.1); omega)
  rcases hp with ⟨rfl, rfl⟩ | ⟨rfl, hx0⟩
  · refine mn_W (t := .int) hx hb hown (hts _ (am_w_in w1)) (by have := hF.2.2.2.2.1.1; exact this) (hts _ (am_w_in w2)) rfl (by decide) rfl rfl rfl hdg rfl hn0 hk0 hn1 hk1 (by omega) (by omega) (fun cO cI H1 e1 e2 a1 a2 z1 o1 old rows => ?_)
    have := kk2 H1 (mn_ok (Or.inl rfl) hcA ok hH e1 e2 a1 a2 z1 o1 old rows)
    rw [hH]
    exact this
  · rw [if_neg hx0] at w1 w2
    refine mn_W (t := .byte) hx hb hown (hts _ (am_w_in w1)) (by have := hF.2.2.2.2.1.2; exact this) (hts _ (am_w_in w2)) rfl (by decide) rfl rfl rfl hdg rfl hn0 hk0 hn1 hk1 (by omega) (by omega) (fun cO cI H1 e1 e2 a1 a2 z1 o1 old rows => ?_)
    have := kk2 H1 (mn_ok (Or.inr rfl) hcA ok hH e1 e2 a1 a2 z1 o1 old rows)
    rw [hH]
    exact this
end AMR
