/-! an array of 12 rows of 12 ints: what the instruction does, by its own meaning -/
def grd_O (c : ClassId) (h i : Nat) : Cell := arrV c 12 (fun j => if j < i then .ref (h + 1 + j) else .null)
def grd_I (c : ClassId) : Cell := arrV c 12 (fun _ => .int 0)
def grd_T (T : State) (cO cI : ClassId) : Nat → State
  | 0 => T.pushCell (grd_O cO T.heap.size 0)
  | i + 1 => ((grd_T T cO cI i).pushCell (grd_I cI)).setCell T.heap.size (grd_O cO T.heap.size (i + 1))
theorem arrV_cg {c : ClassId} {N : Nat} {f g : Nat → Value} (h : ∀ j, j < N → f j = g j) : arrV c N f = arrV c N g := by
  unfold arrV
  have e : (fun j : Fin N => f j.val) = fun j => g j.val := funext fun j => h j.val j.isLt
  rw [e]
theorem grd_O0 (c : ClassId) (h : Nat) : grd_O c h 0 = arrV c 12 (fun _ => .null) := arrV_cg (fun j _ => if_neg (Nat.not_lt_zero _))
theorem grd_Os (c : ClassId) (h i : Nat) : (grd_O c h i).setSlot i (.ref (h + 1 + i)) = grd_O c h (i + 1) := by
  unfold grd_O
  rw [arrV_store]
  refine arrV_cg (fun j _ => ?_)
  unfold updV
  by_cases hj : j = i
  · subst hj
    rw [if_pos rfl, if_pos (Nat.lt_succ_self _)]
  · rw [if_neg hj]; dsimp only
    by_cases hl : j < i
    · rw [if_pos hl, if_pos (by omega)]
    · rw [if_neg hl, if_neg (by omega)]
theorem grd_Oz (c : ClassId) (h i : Nat) : (grd_O c h i).slots.size = 12 := arrV_size _ _ _
theorem grd_Iz (c : ClassId) : (grd_I c).slots.size = 12 := arrV_size _ _ _
theorem grd_f (T : State) (cO cI : ClassId) : ∀ i, (grd_T T cO cI i).heap.size = T.heap.size + 1 + i ∧ (grd_T T cO cI i).heap[T.heap.size]? = some (grd_O cO T.heap.size i) ∧ (grd_T T cO cI i).vm = T.vm ∧ (grd_T T cO cI i).slotsUsed = T.slotsUsed + 12 + 12 * i ∧ (grd_T T cO cI i).topJava? = T.topJava?
  | 0 => by
    refine ⟨?_, ?_, rfl, ?_, rfl⟩
    · show (T.heap.push _).size = _
      rw [Array.size_push]
    · show (T.heap.push _)[T.heap.size]? = _
      rw [Array.getElem?_push_size]
    · show T.slotsUsed + (grd_O cO T.heap.size 0).slots.size = _
      rw [grd_Oz]
  | i + 1 => by
    obtain ⟨h1, h2, h3, h4, h5⟩ := grd_f T cO cI i
    refine ⟨?_, ?_, h3, ?_, h5⟩
    · show (((grd_T T cO cI i).heap.push _).setIfInBounds _ _).size = _
      rw [Array.size_setIfInBounds, Array.size_push, h1, Nat.add_assoc (T.heap.size + 1)]
    · show (((grd_T T cO cI i).heap.push _).setIfInBounds _ _)[T.heap.size]? = _
      rw [Array.getElem?_setIfInBounds_self_of_lt (by rw [Array.size_push, h1]; omega)]
    · show (grd_T T cO cI i).slotsUsed + (grd_I cI).slots.size = _
      rw [h4, grd_Iz]; omega
theorem grd_old (T : State) (cO cI : ClassId) {q : Nat} (hq : q < T.heap.size) : ∀ i, (grd_T T cO cI i).heap[q]? = T.heap[q]?
  | 0 => by
    show (T.heap.push _)[q]? = _
    rw [Array.getElem?_push_lt hq, Array.getElem?_eq_getElem hq]
  | i + 1 => by
    have h1 := (grd_f T cO cI i).1
    show (((grd_T T cO cI i).heap.push _).setIfInBounds _ _)[q]? = _
    rw [Array.getElem?_setIfInBounds_ne (by omega), Array.getElem?_push, if_neg (by omega)]
    exact grd_old T cO cI hq i
theorem grd_in (T : State) (cO cI : ClassId) : ∀ i j, j < i → (grd_T T cO cI i).heap[T.heap.size + 1 + j]? = some (grd_I cI)
  | 0, j, h => absurd h (Nat.not_lt_zero _)
  | i + 1, j, h => by
    have h1 := (grd_f T cO cI i).1
    show (((grd_T T cO cI i).heap.push _).setIfInBounds _ _)[T.heap.size + 1 + j]? = _
    rw [Array.getElem?_setIfInBounds_ne (by omega), Array.getElem?_push]
    by_cases hj : j = i
    · rw [if_pos (by omega)]
    · rw [if_neg (by omega)]
      exact grd_in T cO cI i j (by omega)
theorem grd_top (T : State) (f : JFrame) (cO cI : ClassId) : ∀ i, grd_T (T.setTop f) cO cI i = (grd_T T cO cI i).setTop f
  | 0 => rfl
  | i + 1 => by
    show ((grd_T (T.setTop f) cO cI i).pushCell _).setCell T.heap.size _ = _
    rw [grd_top T f cO cI i]
    rfl
theorem grd_stand {p : Program} {l : Launch} {e : Env} {R : Room} {s : State} {m : MethodId} {args : Array Value} {below : List Frame} {meth : Method} {c : Code} {T : State} {locs : List Loc} {cells slots : Nat} (X : Stand p l e R s m args below meth c T locs cells slots) (cO cI : ClassId) :
    ∀ i, Stand p l e R s m args below meth c (grd_T T cO cI i) locs (cells + (1 + i)) (slots + (12 + 12 * i))
  | 0 => by
    have h := X.pushed (grd_O cO T.heap.size 0)
    rw [grd_Oz] at h
    exact h
  | i + 1 => by
    have h := (grd_stand X cO cI i).pushed (grd_I cI)
    obtain ⟨f1, f2, -, -, -⟩ := grd_f T cO cI i
    have h2 := h.stored (a := T.heap.size) (cell := grd_O cO T.heap.size i) (by
      show ((grd_T T cO cI i).heap.push _)[T.heap.size]? = _
      rw [Array.getElem?_push, if_neg (by omega)]
      exact f2) i (.ref (T.heap.size + 1 + i))
    rw [grd_Os, grd_Iz] at h2
    have h3 := h2.dropFresh (fun x hx => by
      rw [List.mem_singleton.mp hx]
      exact X.heapGrown)
    rw [show cells + (1 + i) + 1 = cells + (1 + (i + 1)) by omega, show slots + (12 + 12 * i) + 12 = slots + (12 + 12 * (i + 1)) by omega] at h3
    exact h3
theorem grd_over {args : Array Value} {s : State} (h : (Cond.arrayOver (.array .int)).before args s = true) : ∃ (cI cO : ClassId) (k : Class), s.vm.findClass (FieldType.array .int).toString = some cI ∧ s.vm.findClass ("[" ++ (FieldType.array .int).toString) = some cO ∧ s.vm.classes[cO]? = some k ∧ k.kind = .array cI (.array .int) := by
  simp only [Cond.before, Cond.holds, Cond.value, beq_iff_eq] at h
  cases hc : s.vm.findClass (FieldType.array .int).toString with
  | none => rw [hc] at h; cases h
  | some cI =>
    rw [hc] at h
    simp only [Option.bind_some, Option.bind_eq_some_iff, Option.map_eq_some_iff] at h
    obtain ⟨cO, hi, k, hk, hb⟩ := h
    obtain ⟨hlt, hp, -⟩ := Array.findIdx?_eq_some_iff_getElem.mp hi
    rw [(Array.getElem?_eq_some_iff.mp hk).2] at hp
    cases hkd : k.kind with
    | array co ty =>
      rw [hkd] at hb hp
      simp only [Bool.and_eq_true, decide_eq_true_eq, beq_iff_eq] at hb hp
      exact ⟨cI, cO, k, rfl, hb.2, hk, by rw [hkd, hp, hb.1]⟩
    | _ => rw [hkd] at hb; cases hb
section GD
variable {E : CtlPost} {e : Env} {d : Bool} {acts : List Action} {s : State}
theorem grd_new {Q : Addr → Pre} {c comp : ClassId} {k : Class} {t : FieldType} {v : Value} (hk : s.vm.classes[c]? = some k) (hkd : k.kind = .array comp t) (h1 : ¬ 12 > e.platform.arrayLengthLimit) (h2 : ¬ 12 * componentBytes t > e.platform.maxHeapBytes) (hf : fits t v = true) (ha : s.heap.size < e.platform.maxCells) (hb : s.slotsUsed + 12 ≤ e.platform.maxSlots)
    (q : ∀ acts', Q s.heap.size d acts' (s.pushCell (arrV c 12 (fun _ => v)))) : wp (newArray c 12 v) Q E e d acts s := by
  simp only [newArray, arrayFits, wp_bind', Jvm.W.ask, Jvm.W.ite, h1, if_false, wp_pure', Jvm.W.theClass, hk, hkd, Option.some.injEq, exists_eq_left', h2, Jvm.W.alloc, Jvm.W.stop]
  rw [if_neg (by omega)]
  refine ⟨ha, by rw [Array.size_replicate]; exact hb, fun i w hw => ?_, ?_⟩
  · rw [Array.getElem?_replicate] at hw
    split at hw
    · cases hw
      simp [State.fitsSlot, State.slotType?, hk, hkd, hf]
    · cases hw
  · rw [arrV_new]
    exact q _
theorem grd_n12 : (nI 12).toNatClampNeg = 12 := (vp_inN rfl (show 12 < 13 by decide) (by decide)).2
theorem grd_neg : ¬ nI 12 < 0 := fun q => (vp_inN (n := 13) rfl (show 12 < 13 by decide) (by decide)).1 (Or.inl q)
theorem grd_one {Q : Addr → Pre} {cI cc : ClassId} {k : Class} (hk : s.vm.classes[cI]? = some k) (hkd : k.kind = .array cc .int) (h1 : ¬ 12 > e.platform.arrayLengthLimit) (h2 : ¬ 48 > e.platform.maxHeapBytes) (ha : s.heap.size < e.platform.maxCells) (hb : s.slotsUsed + 12 ≤ e.platform.maxSlots)
    (q : ∀ acts', Q s.heap.size d acts' (s.pushCell (grd_I cI))) : wp (multianewarray.make cI [nI 12]) Q E e d acts s := by
  simp only [multianewarray.make, wp_bind', Jvm.W.ite, grd_neg, if_false, wp_pure', Jvm.W.theClass, hk, hkd, Option.some.injEq, exists_eq_left', grd_n12]
  exact grd_new hk hkd h1 h2 rfl ha hb q
theorem grd_two {Q : Addr → Pre} {cO cI cc : ClassId} {kO kI : Class} (hO : s.vm.classes[cO]? = some kO) (hOk : kO.kind = .array cI (.array .int)) (hI : s.vm.classes[cI]? = some kI) (hIk : kI.kind = .array cc .int) (h1 : ¬ 12 > e.platform.arrayLengthLimit) (h2 : ¬ 48 > e.platform.maxHeapBytes) (ha : s.heap.size + 13 ≤ e.platform.maxCells) (hb : s.slotsUsed + 156 ≤ e.platform.maxSlots)
    (q : ∀ d' acts', Q s.heap.size d' acts' (grd_T s cO cI 12)) : wp (multianewarray.make cO [nI 12, nI 12]) Q E e d acts s := by
  rw [multianewarray.make]
  simp only [wp_bind', Jvm.W.ite, grd_neg, if_false, wp_pure', Jvm.W.theClass, hO, hOk, Option.some.injEq, exists_eq_left', grd_n12]
  refine grd_new hO hOk h1 h2 rfl (by omega) (by omega) (fun acts1 => ?_)
  have h0 : (nI 12 == 0) = false := by decide +kernel
  simp only [h0, Bool.false_eq_true, if_false, wp_pure']
  rw [← grd_O0 cO s.heap.size]
  simp only [Std.Legacy.Range.forIn_eq_forIn_range', wp_bind', wp_pure']
  refine wp_forIn_inv (I := fun r s' => ∃ i, r = List.range' i (12 - i) ∧ i ≤ 12 ∧ s' = grd_T s cO cI i) _ _ ⟨0, rfl, by omega, rfl⟩ (fun x rest s' d' acts' Q' hx hq => ?_) (fun s' d' acts' hx => ?_)
  · obtain ⟨i, hr, hi, rfl⟩ := hx
    have hlt : i < 12 := by
      rcases Nat.lt_or_ge i 12 with h | h
      · exact h
      · rw [show 12 - i = 0 by omega] at hr
        cases hr
    rw [show 12 - i = (12 - (i + 1)) + 1 by omega, List.range'_succ] at hr
    obtain ⟨rfl, rfl⟩ := List.cons.inj hr
    obtain ⟨f1, f2, f3, f4, -⟩ := grd_f s cO cI x
    simp only [wp_bind', wp_pure', Jvm.W.writeLoc]
    refine grd_one (by rw [f3]; exact hI) hIk h1 h2 (by rw [f1]; omega) (by rw [f4]; omega) (fun acts2 => ?_)
    refine ⟨grd_O cO s.heap.size x, ?_, fun z => (by cases z), by rw [grd_Oz]; exact hlt, ?_, ?_⟩
    · show ((grd_T s cO cI x).heap.push _)[s.heap.size]? = _
      rw [Array.getElem?_push, if_neg (by omega)]
      exact f2
    · show State.fitsSlot (grd_T s cO cI x) cO .none x (.ref _) = true
      simp [State.fitsSlot, State.slotType?, f3, hO, hOk, fits]
    · rw [f1, grd_Os]
      exact hq _ _ _ ⟨x + 1, rfl, by omega, rfl⟩
  · obtain ⟨i, hr, hi, rfl⟩ := hx
    have h12 : i = 12 := by
      have := congrArg List.length hr
      rw [List.length_range', List.length_nil] at this
      omega
    subst h12
    exact q _ _
theorem grd_sem {Q : Unit → Pre} {f : JFrame} {index : Nat} {cO cI cc : ClassId} {kO kI : Class} {rest : List Value} (hs : s.topJava?.isSome) (hr : s.vm.classReady f.method.cls index cO) (hst : f.stack = .int (nI 12) :: .int (nI 12) :: rest) (hO : s.vm.classes[cO]? = some kO) (hOk : kO.kind = .array cI (.array .int)) (hI : s.vm.classes[cI]? = some kI) (hIk : kI.kind = .array cc .int) (h1 : ¬ 12 > e.platform.arrayLengthLimit) (h2 : ¬ 48 > e.platform.maxHeapBytes) (ha : s.heap.size + 13 ≤ e.platform.maxCells) (hb : s.slotsUsed + 156 ≤ e.platform.maxSlots)
    (q : ∀ acts', Q () true acts' ((grd_T s cO cI 12).setTop { f with stack := .ref s.heap.size :: rest })) : wp (multianewarray.sem index 2) Q E e d acts (s.setTop f) := by
  simp only [multianewarray.sem, wp_bind']
  rw [Jvm.W.resolveClassAt_ready (State.method?_setTop f hs) hr]
  rw [wp_bind']
  refine (popN_top (args := [.int (nI 12), .int (nI 12)]) hs hst).mpr ?_
  simp only [List.mapM_cons, List.mapM_nil, wp_bind', wp_pure']
  refine grd_two (s := s.setTop { f with stack := rest }) hO hOk hI hIk h1 h2 ha hb (fun d' acts' => ?_)
  simp only [wp_bind', Jvm.W.mark, Jvm.W.pushRef]
  rw [grd_top]
  have ht : ((grd_T s cO cI 12).topJava?).isSome := by rw [(grd_f s cO cI 12).2.2.2.2]; exact hs
  refine ⟨_, State.topJava?_setTop' _ ht, ?_⟩
  rw [State.setTop_setTop]
  exact q _
theorem grd_cold {Q : Unit → Pre} {f : JFrame} {index : Nat} {cO : ClassId} {vm' : Vm} (hs : s.topJava?.isSome) (hg : (resolveClass f.method.cls index).Gives e.toSetting s.vm (.ok cO) vm') (hr : vm'.classReady f.method.cls index cO) (hsz : vm'.classes.size ≤ s.vm.classes.size)
    (q : wp (multianewarray.sem index 2) Q E e d acts ((s.setVm vm').setTop f)) : wp (multianewarray.sem index 2) Q E e d acts (s.setTop f) := by
  rw [multianewarray.sem, wp_bind'] at q ⊢
  exact (Jvm.W.resolveClassAt_transfer (s := s.setTop f) (State.method?_setTop f hs) hg hr hsz).mpr q
end GD
theorem grd_step {p : Program} {l : Launch} {e : Env} {R : Room} {s : State} {m : MethodId} {args : Array Value} {below : List Frame} {meth : Method} {c : Code} {T : State} {locs : List Loc} {cells slots : Nat} (X : Stand p l e R s m args below meth c T locs cells slots) (hexec : p.tables.exec = Jvm.exec) {own : String} {index : Nat}
    (hown : s.vm.findClass own = some m.cls) (hclink : (Cond.classLink own index ("[" ++ (FieldType.array .int).toString)).before args s = true) (hover : lx_AI s) (harr : (Cond.arrayClass .int).before args s = true)
    {g : JFrame} (hg : g.method = m) (hdg : decode c.code g.pc = .ok (.multianewarray index 2, 4)) {rest : List Value} (hstack : g.stack = .int (nI 12) :: .int (nI 12) :: rest) (hcells : cells + 13 ≤ R.cells) (hslots : slots + 156 ≤ R.slots) :
    ∃ (vm₁ : Vm) (cO cI : ClassId), s.vm.findClass ("[" ++ (FieldType.array .int).toString) = some cO ∧ s.vm.findClass (FieldType.array .int).toString = some cI ∧ Stand p l e R s m args below meth c (grd_T (T.setVm vm₁) cO cI 12) locs (cells + 13) (slots + 156) ∧
      ∀ target, Steps p.tables e below ((grd_T (T.setVm vm₁) cO cI 12).setTop { g with pc := g.pc + 4, stack := .ref T.heap.size :: rest }) target → Steps p.tables e below (T.setTop g) target := by
  subst hg
  have hpl : e.platform.magicAccessors = ({} : Platform).magicAccessors := by rw [X.admits.platform]
  obtain ⟨cI, cO, kO, hfI, hfO, hkO, hkdO⟩ := grd_over hover
  obtain ⟨cI', kI, cc, hfI', hkI, hkdI⟩ := Cond.arrayClass_spec harr
  have hsame : cI' = cI := Option.some.inj (hfI'.symm.trans hfI)
  subst hsame
  obtain ⟨cO', hfO', hcl⟩ := Cond.classLink_spec hown hclink e.platform hpl
  have hsame : cO' = cO := Option.some.inj (hfO'.symm.trans hfO)
  subst hsame
  obtain ⟨hg₁, hwarm₁, hready₁⟩ := State.classEntry (e := e) X.warmed hcl
  generalize T.vm.noted g.method.cls index (.cls cO') = vm₁ at hg₁ hwarm₁ hready₁
  have hal : s.vm.Alike vm₁ := hwarm₁.alike
  obtain ⟨kO₁, hkO₁, heO⟩ := hal.2.2 _ _ hkO
  obtain ⟨kI₁, hkI₁, heI⟩ := hal.2.2 _ _ hkI
  have hkdO₁ : kO₁.kind = .array cI' (.array .int) := by rw [heO]; exact hkdO
  have hkdI₁ : kI₁.kind = .array cc .int := by rw [heI]; exact hkdI
  have h1 : ¬ 12 > e.platform.arrayLengthLimit := by rw [Launch.admits_arrayLengthLimit X.admits]; omega
  have h2 : ¬ 48 > e.platform.maxHeapBytes := by rw [Launch.admits_maxHeapBytes X.admits]; omega
  obtain ⟨r1, r2⟩ := X.roomAbove hcells hslots
  refine ⟨vm₁, cO', cI', hfO, hfI, grd_stand (X.noted hwarm₁) cO' cI' 12, fun target hrest => ?_⟩
  refine Steps.instr (c := _) (by simpa using X.here) ?_
  simp only [hdg, hexec, wpRun]
  refine grd_cold X.here.top hg₁ hready₁ (by no_record) (grd_sem (s := T.setVm vm₁) X.here.top hready₁ hstack hkO₁ hkdO₁ hkI₁ hkdI₁ h1 h2 r1 r2 (fun acts' acts2 => ?_))
  have ht : ((grd_T (T.setVm vm₁) cO' cI' 12).topJava?).isSome := by rw [(grd_f (T.setVm vm₁) cO' cI' 12).2.2.2.2]; exact X.here.top
  simp [jvm, ht]
  exact hrest
