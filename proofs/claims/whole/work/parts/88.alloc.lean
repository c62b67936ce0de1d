/-! MAKING CELLS: the world as a list of cells -/
abbrev Ce : Type := Nat × Nat × List (Option Nat)
def gL (X : List Ce) : Gm := (fun i => ((X.getD i (0, 0, [])).1, (X.getD i (0, 0, [])).2.1, fun k => (X.getD i (0, 0, [])).2.2.getD k none), X.length)
theorem gL_at {X : List Ce} {i : Nat} {e : Ce} (h : X[i]? = some e) : (gL X).1 i = (e.1, e.2.1, fun k => e.2.2.getD k none) := by
  unfold gL
  dsimp only
  rw [List.getD_eq_getElem?_getD, h]
  rfl
theorem gL_lt {X : List Ce} {i : Nat} {e : Ce} (h : X[i]? = some e) : i < (gL X).2 := (List.getElem?_eq_some_iff.mp h).1
theorem isO_L {X : List Ce} {a ci : Nat} {rs : List (Option Nat)} (h : X[a]? = some (ci, clN ci, rs)) : IsO (gL X) a ci := by
  refine ⟨gL_lt h, ?_, ?_⟩ <;> rw [gL_at h]
theorem isA_L {X : List Ce} {a kd n : Nat} {rs : List (Option Nat)} (h : X[a]? = some (kd, n, rs)) (hn : n < 2147483648) : IsA (gL X) a kd n := by
  refine ⟨gL_lt h, ?_, ?_, hn⟩ <;> rw [gL_at h]
theorem rF_L {X : List Ce} {a k r : Nat} {e : Ce} (h : X[a]? = some e) (hr : e.2.2.getD k none = some r) : RF (gL X) a k r := by
  unfold RF
  rw [gL_at h]
  exact hr
/-- nothing stands yet in the cells from n on -/
def Zr (μ : Mm) (n : Nat) : Prop := ∀ i, n ≤ i → (∀ j, μ.1 i j = 0) ∧ ∀ j, μ.2 i j = 0
theorem Zr.le {μ : Mm} {n m : Nat} (h : Zr μ n) (hm : n ≤ m) : Zr μ m := fun i hi => h i (Nat.le_trans hm hi)
theorem Zr.w {μ : Mm} {n a k : Nat} {v : Int32} (h : Zr μ n) (ha : a < n) : Zr (wI μ a k v) n := fun i hi => ⟨fun j => (wI_n (by omega)).trans ((h i hi).1 j), (h i hi).2⟩
theorem wI_same {μ : Mm} {a k : Nat} {v : Int32} (h : μ.1 a k = v) : wI μ a k v = μ := by
  unfold wI
  refine Prod.ext (funext fun i => funext fun j => ?_) rfl
  dsimp only
  by_cases hq : i = a ∧ j = k
  · rw [if_pos hq, hq.1, hq.2, h]
  · rw [if_neg hq]
theorem wL_same {μ : Mm} {a k : Nat} {v : Int64} (h : μ.2 a k = v) : wL μ a k v = μ := by
  unfold wL
  refine Prod.ext rfl (funext fun i => funext fun j => ?_)
  dsimp only
  by_cases hq : i = a ∧ j = k
  · rw [if_pos hq, hq.1, hq.2, h]
  · rw [if_neg hq]
/-- all that the cells name is there -/
def WfL (X : List Ce) (n : Nat) : Prop := ∀ e ∈ X, ∀ r, some r ∈ e.2.2 → r < n
theorem WfL.le {X : List Ce} {n m : Nat} (h : WfL X n) (hm : n ≤ m) : WfL X m := fun e he r hr => Nat.lt_of_lt_of_le (h e he r hr) hm
theorem WfL.app {X Y : List Ce} {n : Nat} (h : WfL X n) (h2 : WfL Y n) : WfL (X ++ Y) n := fun e he r hr => (List.mem_append.mp he).elim (fun q => h e q r hr) (fun q => h2 e q r hr)
def Old (ls st : List Value) (n : Nat) : Prop := ∀ i : Nat, Value.ref i ∈ ls ++ st → i < n ∨ 1000000 ≤ i
def adU (ad q : Nat → Nat) (n M : Nat) : Nat → Nat := fun i => if n ≤ i ∧ i < n + M then q (i - n) else ad i
theorem adU_x (ad q : Nat → Nat) (n M : Nat) : AdX ad (adU ad q n M) n (n + M) := fun i hi => if_neg (by omega)
theorem adU_new (ad q : Nat → Nat) {n M j : Nat} (h : j < M) : adU ad q n M (n + j) = q j := by
  unfold adU
  rw [if_pos (by omega), Nat.add_sub_cancel_left]
theorem ob_ad {tc : Nat → ClassId} {ad ad' : Nat → Nat} {X E : List Ce} {μ : Mm} {i : Nat} (hi : i < X.length) (hw : WfL X X.length) (had : ∀ r, r < X.length → ad' r = ad r) : ob tc ad' (gL (X ++ E), μ) i = ob tc ad (gL X, μ) i := by
  obtain ⟨e, he⟩ : ∃ e, X[i]? = some e := ⟨_, List.getElem?_eq_getElem hi⟩
  have he2 : (X ++ E)[i]? = some e := by rw [List.getElem?_append_left hi]; exact he
  have hm : ∀ k, (e.2.2.getD k none).map ad' = (e.2.2.getD k none).map ad := fun k => by
    cases hq : e.2.2.getD k none with
    | none => rfl
    | some r =>
      have hr : some r ∈ e.2.2 := by
        rw [List.getD_eq_getElem?_getD] at hq
        cases hz : e.2.2[k]? with
        | none => rw [hz] at hq; cases hq
        | some z =>
          rw [hz] at hq
          cases hq
          exact List.mem_of_getElem? hz
      show some (ad' r) = some (ad r)
      rw [had r (hw e (List.mem_of_getElem? he) r hr)]
  have f : fv ad' (gL (X ++ E), μ) i = fv ad (gL X, μ) i := funext fun j => by
    unfold fv
    dsimp only
    rw [gL_at he, gL_at he2]
    dsimp only
    rw [hm j]
  unfold ob
  dsimp only
  rw [f, gL_at he, gL_at he2]
  dsimp only
  rw [funext hm]
theorem wsW_app {tc : Nat → ClassId} {ad q : Nat → Nat} {x : Nat → va_E} {X E : List Ce} {μ : Mm} (hw : WfL X X.length) (hx : ∀ j, j < E.length → x j = ob tc (adU ad q X.length E.length) (gL (X ++ E), μ) (X.length + j)) :
    wsW tc (adU ad q X.length E.length) (gL (X ++ E), μ) = wsW tc ad (gL X, μ) ++ (List.range E.length).map (fun j => (q j, x j)) := by
  have e1 : (gL (X ++ E)).2 = X.length + E.length := List.length_append
  unfold wsW
  dsimp only
  rw [e1, List.range_add, List.map_append, List.map_map]
  congr 1
  · apply List.map_congr_left
    intro i hi
    have hl := List.mem_range.mp hi
    have had : ∀ r, r < X.length → adU ad q X.length E.length r = ad r := fun r hr => if_neg (by omega)
    rw [had i hl, ob_ad hl hw had]
  · apply List.map_congr_left
    intro j hj
    have hl := List.mem_range.mp hj
    show (adU ad q X.length E.length (X.length + j), _) = _
    rw [adU_new ad q hl, hx j hl]
section JN
variable {mi mj : MI} {d : Nat} {lim lim' : Nat × Nat} {sc : Nat × (Nat → Int32)} {K K1 : Option Value → Wd → Prop} {cs : Nat × Nat} {pc nx idx n : Nat} {ls st As : List Value} {X E : List Ce} {μ : Mm}
theorem J_grown {p : Program} {l : Launch} {e : Env} {R : Room} {s : State} {m : MethodId} {args : Array Value} {below : List Frame} {meth : Method} {c : Code} {H H1 : Heap} {locs : List Loc} {D : va_G} {tc : Nat → ClassId} {ad q : Nat → Nat} {x : Nat → va_E} {A : Nat → Prop} {lr : Array Slot} {Q : State → Prop}
    (hC : Cx mi p s m args meth c) (hR : Rm d lim R) (hE : Ev D tc ad (gL X, μ) sc s A H locs) (hL : Lr mi.2.2.1 ad ls lr)
    (hret : ∀ (v : Option Value) (w' : Wd) (H' : Heap) (locs' : List Loc) (ad' : Nat → Nat) (lr' : Array Slot) (pc' : Nat) (cs' : Nat × Nat), K v w' → AdX ad ad' (gL X, μ).1.2 w'.1.2 → (gL X, μ).1.2 ≤ w'.1.2 → Ev D tc ad' w' sc s A H' locs' → cs'.1 ≤ lim.1 → cs'.2 ≤ lim.2 → RetI mi pc' v →
      W p l e R s m args below meth c H' locs' cs'.1 cs'.2 Q (F0 m pc' lr' (v.toList.map (trV ad'))))
    (hw : WfL X X.length) (h0 : 0 < E.length) (h6 : X.length + E.length ≤ 1000000) (hold : Old ls st X.length)
    (hx : ∀ j, j < E.length → x j = ob tc (adU ad q X.length E.length) (gL (X ++ E), μ) (X.length + j))
    (hP : va_P D cls7 (wsW tc ad (gL X, μ) ++ (List.range E.length).map (fun j => (q j, x j))) H1) (hD : va_D A (wsW tc ad (gL X, μ) ++ (List.range E.length).map (fun j => (q j, x j)))) (hS : va_S A s.heap H1 locs)
    (kk : J mi d lim sc K cs nx ls (.ref X.length :: st) (gL (X ++ E), μ)) : W p l e R s m args below meth c H1 locs cs.1 cs.2 Q (F0 m nx lr (.ref (q 0) :: st.map (trV ad))) := by
  have e1 : (gL (X ++ E)).2 = X.length + E.length := List.length_append
  have hax : AdX ad (adU ad q X.length E.length) X.length (X.length + E.length) := adU_x ad q _ _
  have htr : ∀ u, u ∈ ls ++ st → trV (adU ad q X.length E.length) u = trV ad u := fun u hu => by
    cases u with
    | ref i =>
      show Value.ref (adU ad q X.length E.length i) = Value.ref (ad i)
      rw [hax i ((hold i hu).imp id (fun z => Nat.le_trans h6 z))]
    | _ => rfl
  have hst : st.map (trV ad) = st.map (trV (adU ad q X.length E.length)) := List.map_congr_left (fun u hu => (htr u (List.mem_append.mpr (Or.inr hu))).symm)
  have hq0 : Value.ref (q 0) = trV (adU ad q X.length E.length) (.ref X.length) := by
    show Value.ref (q 0) = Value.ref (adU ad q X.length E.length X.length)
    have := adU_new ad q (n := X.length) h0
    rw [Nat.add_zero] at this
    rw [this]
  rw [← wsW_app hw hx] at hP hD
  rw [hst, hq0]
  obtain ⟨e1', e2, e3, e4, e5, e6, e7, e8⟩ := hE
  refine kk p l e R s m args below meth c H1 locs D tc (adU ad q X.length E.length) A lr Q hC hR ⟨e1', hP, hD, hS, e5, by rw [e1]; exact h6, e7.ad hax h6, e8.ad hax h6⟩ ⟨hL.1, hL.2.1, fun i u hi hu => ?_⟩ ?_
  · rw [htr u (List.mem_append.mpr (Or.inl (List.mem_of_getElem? hi)))]
    exact hL.2.2 i u hi hu
  · intro v2 w2 H2 locs2 ad2 lr2 pc2 cs2 g1 g2 g3
    rw [e1] at g2 g3
    exact hret v2 w2 H2 locs2 ad2 lr2 pc2 cs2 g1 (fun i hi => (g2 i (hi.imp (fun z => Nat.lt_of_lt_of_le z (Nat.le_add_right _ _)) id)).trans (hax i (hi.imp id (fun z => Nat.le_trans g3 z)))) (Nat.le_trans (Nat.le_add_right _ _) g3)
/-- which kind of array of numbers an instruction makes -/
def NA (t : ArrayType) (kd : Nat) : Prop := 10 ≤ kd ∧ kd < 13 ∧ Cond.arrayClass (newarray.typeOf t) ∈ lw_g ∧ (∀ n, n * componentBytes (newarray.typeOf t) ≤ n * 4) ∧ defaultValue (newarray.typeOf t) = .int 0 ∧ ∀ (tc : Nat → ClassId) (s : State) (D : va_G) (cA : ClassId), va_K D cls7 (tyL tc) s → va_RA s cA (newarray.typeOf t) → cA = tc kd
theorem na_i : NA .int 10 := ⟨by decide, by decide, lw_gm (by decide +kernel) rfl, fun n => Nat.le_refl _, rfl, fun tc s D cA h h2 => Option.some.inj ((show s.vm.findClass _ = some cA from h2).symm.trans (show s.vm.findClass _ = some (tc 10) from (h.2 0 (tc 10, .int) rfl).2))⟩
theorem na_b : NA .byte 11 := ⟨by decide, by decide, lw_gm (by decide +kernel) rfl, fun n => by show n * 1 ≤ n * 4; omega, rfl, fun tc s D cA h h2 => Option.some.inj ((show s.vm.findClass _ = some cA from h2).symm.trans (show s.vm.findClass _ = some (tc 11) from (h.2 1 (tc 11, .byte) rfl).2))⟩
theorem na_z : NA .boolean 12 := ⟨by decide, by decide, lw_gm (by decide +kernel) rfl, fun n => by show n * 1 ≤ n * 4; omega, rfl, fun tc s D cA h h2 => Option.some.inj ((show s.vm.findClass _ = some cA from h2).symm.trans (show s.vm.findClass _ = some (tc 12) from (h.2 2 (tc 12, .boolean) rfl).2))⟩
theorem J_newA {t : ArrayType} {kd : Nat} {i : Int32} (h : Dc mi pc (.newarray t) 2 nx) (hk : NA t kd) (hi : i = nI n) (hn : n < 100000) (hw : WfL X X.length) (hz : Zr μ X.length) (h6 : X.length + 1 ≤ 1000000) (hold : Old ls st X.length) (h1 : cs.1 + 1 ≤ lim.1) (h2 : cs.2 + n ≤ lim.2)
    (kk : J mi d lim sc K (cs.1 + 1, cs.2 + n) nx ls (.ref X.length :: st) (gL (X ++ [(kd, n, [])]), μ)) : J mi d lim sc K cs pc ls (.int i :: st) (gL X, μ) := by
  obtain ⟨hd, rfl⟩ := h
  obtain ⟨k1, k2, k3, k4, k5, k6⟩ := hk
  intro p l e R s m args below meth c H locs D tc ad A lr Q hC hR hE hL hret
  have hcl : i.toNatClampNeg = n := (vp_inN hi (Nat.lt_succ_self n) (by omega)).2
  have hneg : ¬ i < 0 := fun q => (vp_inN hi (Nat.lt_succ_self n) (by omega)).1 (Or.inl q)
  refine va_newa (a0 := (n, .inl fun _ => 0)) hC.1 hC.2.1 (hC.2.2.2.2.2.1 _ k3) rfl hE.1 hE.2.1 hE.2.2.1 hE.2.2.2.1 hE.2.2.2.2.1 (fun cA => by rw [vp_cell_i, k5]) hneg hcl (Nat.le_trans (k4 n) (by omega)) (Nat.le_trans h1 hR.2.2.1) (Nat.le_trans h2 hR.2.2.2) hd (fun q cA H1 hK hP hD hS => ?_)
  have hcA : cA = tc kd := k6 tc s D cA hE.1 (hK.2 6 (cA, _) rfl).2
  subst hcA
  refine J_grown (E := [(kd, n, [])]) (q := fun _ => q) (x := fun _ => .inl (tc kd, (n, .inl fun _ => 0))) hC hR hE hL hret hw Nat.one_pos h6 hold (fun j hj => ?_) hP hD hS kk
  have hj0 : j = 0 := Nat.lt_one_iff.mp hj
  subst hj0
  have hat : (X ++ [(kd, n, [])])[X.length + 0]? = some (kd, n, []) := by rw [Nat.add_zero, List.getElem?_append_right (Nat.le_refl _)]; simp
  rw [ob_i (w := (gL (X ++ [(kd, n, [])]), μ)) (isA_L hat (by omega)) k1 k2]
  rw [show (fun j => (gL (X ++ [(kd, n, [])]), μ).2.1 (X.length + 0) j) = fun _ => (0 : Int32) from funext fun j => (hz (X.length + 0) (Nat.le_refl _)).1 j]
/-- an array of references to objects of a class -/
def NQ (own : String) (idx kd cj : Nat) : Prop := 13 ≤ kd ∧ Cond.classLink own idx (clR cj) ∈ lw_g ∧ (∀ ad A U, Xs ad A U → va_AO (clR cj) U) ∧ ∀ (tc : Nat → ClassId) (s : State) (D : va_G) (cA : ClassId), va_K D cls7 (tyL tc) s → va_RA s cA (.object (clR cj)) → cA = tc kd
theorem J_newQ {kd cj : Nat} {i : Int32} (h : Dc mi pc (.anewarray idx) 3 nx) (hk : NQ mi.1.cls idx kd cj) (hi : i = nI n) (hn : n < 100000) (hw : WfL X X.length) (h6 : X.length + 1 ≤ 1000000) (hold : Old ls st X.length) (h1 : cs.1 + 1 ≤ lim.1) (h2 : cs.2 + n ≤ lim.2)
    (kk : J mi d lim sc K (cs.1 + 1, cs.2 + n) nx ls (.ref X.length :: st) (gL (X ++ [(kd, n, List.replicate n none)]), μ)) : J mi d lim sc K cs pc ls (.int i :: st) (gL X, μ) := by
  obtain ⟨hd, rfl⟩ := h
  obtain ⟨k1, k2, k3, k4⟩ := hk
  intro p l e R s m args below meth c H locs D tc ad A lr Q hC hR hE hL hret
  have hcl : i.toNatClampNeg = n := (vp_inN hi (Nat.lt_succ_self n) (by omega)).2
  have hneg : ¬ i < 0 := fun q => (vp_inN hi (Nat.lt_succ_self n) (by omega)).1 (Or.inl q)
  refine va_newq (C := clR cj) hC.1 hC.2.1 hC.2.2.2.2.1 (hC.2.2.2.2.2.1 _ k2) (k3 _ _ _ hE.2.2.2.2.2.2.1) hE.1 hE.2.1 hE.2.2.1 hE.2.2.2.1 hE.2.2.2.2.1 hneg hcl (by omega) (Nat.le_trans h1 hR.2.2.1) (Nat.le_trans h2 hR.2.2.2) hd (fun q cA H1 hK hP hD hS => ?_)
  have hcA : cA = tc kd := k4 tc s D cA hE.1 (hK.2 6 (cA, _) rfl).2
  subst hcA
  refine J_grown (E := [(kd, n, List.replicate n none)]) (q := fun _ => q) (x := fun _ => .inl (tc kd, (n, .inr (.inr (.inr (.inr fun _ => none)))))) hC hR hE hL hret hw Nat.one_pos h6 hold (fun j hj => ?_) hP hD hS kk
  have hj0 : j = 0 := Nat.lt_one_iff.mp hj
  subst hj0
  have hat : (X ++ [(kd, n, List.replicate n none)])[X.length + 0]? = some (kd, n, List.replicate n none) := by rw [Nat.add_zero, List.getElem?_append_right (Nat.le_refl _)]; simp
  rw [ob_r (w := (gL (X ++ [(kd, n, List.replicate n none)]), μ)) (isA_L hat (by omega)) k1]
  dsimp only
  rw [gL_at hat]
  dsimp only
  rw [show (fun j => ((List.replicate n (none : Option Nat)).getD j none).map (adU ad (fun _ => q) X.length [(kd, n, List.replicate n (none : Option Nat))].length)) = fun _ => none from funext fun j => by
    rw [List.getD_eq_getElem?_getD, List.getElem?_replicate]; split <;> rfl]
/-- an object of a class -/
def NO (own : String) (idx ci : Nat) : Prop := ci < 7 ∧ Cond.classLink own idx (clR ci) ∈ lw_g ∧ Cond.instantiable (clR ci) (clN ci) ∈ lw_g ∧ Cond.initialized (clR ci) ∈ lw_g
theorem fty_def {ci : Nat} (h : ci < 7) : ∀ j, j < clN ci → defaultValue (tyF ci j) = if fty ci j = 0 then .int 0 else if fty ci j = 1 then .long 0 else .null := by
  match ci, h with
  | 0, _ => decide +kernel
  | 1, _ => decide +kernel
  | 2, _ => decide +kernel
  | 3, _ => decide +kernel
  | 4, _ => decide +kernel
  | 5, _ => decide +kernel
  | 6, _ => decide +kernel
theorem J_newO {ci : Nat} (h : Dc mi pc (.new idx) 3 nx) (hk : NO mi.1.cls idx ci) (hw : WfL X X.length) (hz : Zr μ X.length) (h6 : X.length + 1 ≤ 1000000) (hold : Old ls st X.length) (h1 : cs.1 + 1 ≤ lim.1) (h2 : cs.2 + clN ci ≤ lim.2)
    (kk : J mi d lim sc K (cs.1 + 1, cs.2 + clN ci) nx ls (.ref X.length :: st) (gL (X ++ [(ci, clN ci, List.replicate (clN ci) none)]), μ)) : J mi d lim sc K cs pc ls st (gL X, μ) := by
  obtain ⟨hd, rfl⟩ := h
  obtain ⟨k1, k2, k3, k4⟩ := hk
  intro p l e R s m args below meth c H locs D tc ad A lr Q hC hR hE hL hret
  have hts := hC.2.2.2.2.2.1
  have hat : (X ++ [(ci, clN ci, List.replicate (clN ci) none)])[X.length]? = some (ci, clN ci, List.replicate (clN ci) none) := by rw [List.getElem?_append_right (Nat.le_refl _)]; simp
  have hfv : ∀ ad', (List.range (clN ci)).map (fv ad' (gL (X ++ [(ci, clN ci, List.replicate (clN ci) none)]), μ) X.length) = (List.range (clN ci)).map (fun j => if fty ci j = 0 then Value.int 0 else if fty ci j = 1 then .long 0 else .null) := fun ad' => by
    apply List.map_congr_left
    intro j _
    unfold fv
    dsimp only
    rw [gL_at hat]
    dsimp only
    rw [(hz X.length (Nat.le_refl _)).1 j, (hz X.length (Nat.le_refl _)).2 j, show (List.replicate (clN ci) (none : Option Nat)).getD j none = none from by rw [List.getD_eq_getElem?_getD, List.getElem?_replicate]; split <;> rfl]
    rfl
  refine va_new (C := clR ci) (T := clT ci) (N := clN ci) (fs := (List.range (clN ci)).map (fun j => if fty ci j = 0 then Value.int 0 else if fty ci j = 1 then .long 0 else .null)) hC.1 hC.2.1 hts (cl_in k1) (tyF ci) (clTy_ok k1) hC.2.2.2.2.1 (hts _ k2) (hts _ k3) (hts _ k4) hE.1 hE.2.1 hE.2.2.1 hE.2.2.2.1 hE.2.2.2.2.1 (cls7_at k1) (fun j hj => ?_) (Nat.le_trans h1 hR.2.2.1) (Nat.le_trans h2 hR.2.2.2) hd (fun q H1 hP hD hS => ?_)
  · rw [fty_def k1 j hj]
    unfold vp_V
    rw [List.getD_eq_getElem?_getD, List.getElem?_map, List.getElem?_range hj]
    rfl
  · refine J_grown (E := [(ci, clN ci, List.replicate (clN ci) none)]) (q := fun _ => q) (x := fun _ => .inr (ci, (List.range (clN ci)).map (fun j => if fty ci j = 0 then Value.int 0 else if fty ci j = 1 then .long 0 else .null))) hC hR hE hL hret hw Nat.one_pos h6 hold (fun j hj => ?_) hP hD hS kk
    have hj0 : j = 0 := Nat.lt_one_iff.mp hj
    subst hj0
    rw [Nat.add_zero, ob_o (w := (gL (X ++ [(ci, clN ci, List.replicate (clN ci) none)]), μ)) (isO_L hat) k1]
    exact congrArg (fun z => Sum.inr (ci, z)) (hfv _).symm
theorem gL_set_ne {a i : Nat} {e : Ce} (h : i ≠ a) : (gL (X.set a e)).1 i = (gL X).1 i := by
  unfold gL
  dsimp only
  rw [List.getD_eq_getElem?_getD, List.getD_eq_getElem?_getD, List.getElem?_set_ne (fun q => h q.symm)]
theorem ob_set {tc : Nat → ClassId} {ad : Nat → Nat} {a i : Nat} {e : Ce} (h : i ≠ a) : ob tc ad (gL (X.set a e), μ) i = ob tc ad (gL X, μ) i := by
  have f : fv ad (gL (X.set a e), μ) i = fv ad (gL X, μ) i := funext fun j => by
    unfold fv
    dsimp only
    rw [gL_set_ne h]
  unfold ob
  dsimp only
  rw [f, gL_set_ne h]
theorem getD_set {rs : List (Option Nat)} {k j : Nat} {v : Option Nat} (hk : k < rs.length) : (rs.set k v).getD j none = if j = k then v else rs.getD j none := by
  rw [List.getD_eq_getElem?_getD, List.getElem?_set, List.getD_eq_getElem?_getD]
  by_cases h : k = j
  · subst h
    rw [if_pos rfl, if_pos hk, if_pos rfl]
    rfl
  · rw [if_neg h, if_neg (fun q => h q.symm)]
theorem nar_ref (t : FieldType) (a : Nat) : narrow t (.ref a) = .ref a := by cases t <;> rfl
theorem fit_ref {t : FieldType} (a : Nat) (h : ftk t = 2) : fits t (.ref a) = true := by cases t <;> first | rfl | (exact absurd h (by decide))
/-- a final field of an object, put by its own constructor -/
def FR (mi : MI) (idx ci k : Nat) : Prop := FL mi.1.cls idx ci k 2 ∧ (clT ci k).2.2.2 = true ∧ (clT ci k).1 = mi.1.cls ∧ mi.1.name = "<init>"
theorem J_putR {a ci k r : Nat} {rs : List (Option Nat)} {X' : List Ce} (h : Dc mi pc (.putfield idx) 3 nx) (hl : FR mi idx ci k) (ho : X[a]? = some (ci, clN ci, rs)) (hk' : k < rs.length) (hX : X.set a (ci, clN ci, rs.set k (some r)) = X') (kk : J mi d lim sc K cs nx ls st (gL X', μ)) : J mi d lim sc K cs pc ls (.ref r :: .ref a :: st) (gL X, μ) := by
  obtain ⟨hd, rfl⟩ := h
  obtain ⟨⟨hc7, hk, ht, hlw⟩, hfin, hdec, hini⟩ := hl
  subst hX
  intro p l e R s m args below meth c H locs D tc ad A lr Q hC hR hE hL hret
  have hal : a < X.length := (List.getElem?_eq_some_iff.mp ho).1
  have ho' : (X.set a (ci, clN ci, rs.set k (some r)))[a]? = some (ci, clN ci, rs.set k (some r)) := by rw [List.getElem?_set, if_pos rfl, if_pos hal]
  refine va_putF (C := clR ci) (T := clT ci) (N := clN ci) (ref := (clT ci k).1) (v := .ref (ad r)) hC.1 hC.2.1 hC.2.2.2.2.2.1 (cl_in hc7) (tyF ci) (clTy_ok hc7) (clN_ok hc7) hC.2.2.2.2.1 hE.1 hE.2.1 hE.2.2.1 hE.2.2.2.1 a (fs := (List.range (clN ci)).map (fv ad (gL X, μ) a)) ?_ (cls7_at hc7) k hk (hC.2.2.2.2.2.1 _ hlw) (fun _ h => h) hfin (hC.2.2.2.2.2.2.2.trans hini) hdec (clTy_ok hc7 k hk) (nar_ref _ _) (fit_ref _ ht) (by simpa using hk) hd (fun H1 locs1 hP hD hS => ?_)
  · rw [wsW_at (gL_lt ho), ob_o (isO_L ho) hc7]
  · have hlen : (gL (X.set a (ci, clN ci, rs.set k (some r)))).2 = (gL X).2 := List.length_set
    refine kk p l e R s m args below meth c H1 locs1 D tc ad A lr Q hC hR (hE.put (w' := (gL (X.set a (ci, clN ci, rs.set k (some r))), μ)) hlen (fun i hi => ob_set hi) ?_ hP hD hS) hL ?_
    · rw [ob_o (w := (gL (X.set a (ci, clN ci, rs.set k (some r))), μ)) (isO_L ho') hc7]
      refine congrArg (fun z => Sum.inr (ci, z)) (map_set ?_ (fun j hj => ?_)).symm
      · unfold fv; dsimp only; rw [gL_at ho']; dsimp only; rw [show fty ci k = 2 from ht, if_neg (by decide), if_neg (by decide), getD_set hk', if_pos rfl]; rfl
      · unfold fv; dsimp only; rw [gL_at ho', gL_at ho]; dsimp only; rw [getD_set hk', if_neg hj]
    · rw [hlen]; exact hret
theorem J_astR {a kd cj r k t0 : Nat} {i : Int32} {rs rs2 : List (Option Nat)} {X' : List Ce} (h : Dc mi pc .aastore 1 nx) (hkd : 13 ≤ kd) (ht : ∀ tc, (tyL tc)[t0]? = some (tc kd, .object (clR cj))) (hc7 : cj < 7) (ho : X[a]? = some (kd, n, rs)) (hr : X[r]? = some (cj, clN cj, rs2)) (hn : n < 100000) (hi : i = nI k) (hk : k < n) (hk' : k < rs.length) (hX : X.set a (kd, n, rs.set k (some r)) = X') (kk : J mi d lim sc K cs nx ls st (gL X', μ)) :
    J mi d lim sc K cs pc ls (.ref r :: .int i :: .ref a :: st) (gL X, μ) := by
  obtain ⟨hd, rfl⟩ := h
  subst hX
  obtain ⟨h1, h2⟩ := vp_inN hi hk (by omega)
  intro p l e R s m args below meth c H locs D tc ad A lr Q hC hR hE hL hret
  have hal : a < X.length := (List.getElem?_eq_some_iff.mp ho).1
  have ho' : (X.set a (kd, n, rs.set k (some r)))[a]? = some (kd, n, rs.set k (some r)) := by rw [List.getElem?_set, if_pos rfl, if_pos hal]
  refine va_astq hC.1 hC.2.1 hE.1 hE.2.1 hE.2.2.1 hE.2.2.2.1 a t0 r cj (cA := tc kd) (r := (clR cj, clT cj, clN cj)) (f := fun j => (((gL X).1 a).2.2 j).map ad) (vs := (List.range (clN cj)).map (fv ad (gL X, μ) r)) ?_ (ht tc) ?_ (cls7_at hc7) h1 hd (fun H1 locs1 hP hD hS => ?_)
  · rw [wsW_at (gL_lt ho), ob_r (w := (gL X, μ)) (isA_L ho (by omega)) hkd]
  · rw [wsW_at (gL_lt hr), ob_o (isO_L hr) hc7]
  · have hlen : (gL (X.set a (kd, n, rs.set k (some r)))).2 = (gL X).2 := List.length_set
    rw [h2] at hP hD
    refine kk p l e R s m args below meth c H1 locs1 D tc ad A lr Q hC hR (hE.put (w' := (gL (X.set a (kd, n, rs.set k (some r))), μ)) hlen (fun i hi => ob_set hi) ?_ hP hD hS) hL ?_
    · rw [ob_r (w := (gL (X.set a (kd, n, rs.set k (some r))), μ)) (isA_L ho' (by omega)) hkd]
      refine congrArg (fun z => Sum.inl (tc kd, n, Sum.inr (Sum.inr (Sum.inr (Sum.inr z))))) (funext fun j => ?_)
      dsimp only
      rw [gL_at ho', gL_at ho]
      dsimp only
      rw [getD_set hk']
      unfold va_up
      by_cases hj : j = k
      · rw [if_pos hj, if_pos hj]; rfl
      · rw [if_neg hj, if_neg hj]
    · rw [hlen]; exact hret
/-- java.lang.Object's constructor -/
def OI (own : String) (idx : Nat) : Prop := Cond.methodLink own idx Lib.objectInit ∈ lw_g ∧ Cond.instanceMethod Lib.objectInit ∈ lw_g ∧ Cond.code Lib.objectInit ⟨#[0xb1]⟩ 1 none ∈ lw_g
theorem J_oinit {w : Wd} {a : Nat} (h : Dc mi pc (.invokespecial idx) 3 nx) (hl : OI mi.1.cls idx) (hst : (st.map fun v => v.category).sum ≤ 8) (kk : J mi d lim sc K cs nx ls st w) : J mi d lim sc K cs pc ls (.ref a :: st) w := by
  obtain ⟨hd, rfl⟩ := h
  intro p l e R s m args below meth c H locs D tc ad A lr Q hC hR hE hL hret
  have hts := hC.2.2.2.2.2.1
  refine W.objInit hC.1 hC.2.1 hC.2.2.2.2.1 (hts _ hl.1) (hts _ hl.2.1) (hts _ hl.2.2) rfl (hL.1.trans hC.2.2.2.1.symm) (a := ad a) (rest := st.map (trV ad)) rfl hd (Nat.le_trans (Nat.le_add_left 1 d) hR.1) ?_ (kk p l e R s m args below meth c H locs D tc ad A lr Q hC hR hE hL hret)
  have h64 := hR.2.1
  show 2 * 0 + ((st.map (trV ad)).map fun v => v.category).sum + 12 ≤ R.locals
  rw [tr_cats]
  omega
end JN
