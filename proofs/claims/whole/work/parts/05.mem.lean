/-! FIELDS AND ARRAYS -/
def wI (μ : Mm) (a k : Nat) (x : Int32) : Mm := (fun i j => if i = a ∧ j = k then x else μ.1 i j, μ.2)
def wL (μ : Mm) (a k : Nat) (x : Int64) : Mm := (μ.1, fun i j => if i = a ∧ j = k then x else μ.2 i j)
theorem wI_1 (μ : Mm) (a k : Nat) (x : Int32) (i j : Nat) : (wI μ a k x).1 i j = if i = a ∧ j = k then x else μ.1 i j := rfl
theorem wL_2 (μ : Mm) (a k : Nat) (x : Int64) (i j : Nat) : (wL μ a k x).2 i j = if i = a ∧ j = k then x else μ.2 i j := rfl
theorem wI_2 (μ : Mm) (a k : Nat) (x : Int32) : (wI μ a k x).2 = μ.2 := rfl
theorem wL_1 (μ : Mm) (a k : Nat) (x : Int64) : (wL μ a k x).1 = μ.1 := rfl
theorem wI_n {μ : Mm} {a k i j : Nat} {x : Int32} (h : ¬ (i = a ∧ j = k)) : (wI μ a k x).1 i j = μ.1 i j := if_neg h
theorem wL_n {μ : Mm} {a k i j : Nat} {x : Int64} (h : ¬ (i = a ∧ j = k)) : (wL μ a k x).2 i j = μ.2 i j := if_neg h
theorem wI_e (μ : Mm) (a k : Nat) (x : Int32) : (wI μ a k x).1 a k = x := if_pos ⟨rfl, rfl⟩
theorem wL_e (μ : Mm) (a k : Nat) (x : Int64) : (wL μ a k x).2 a k = x := if_pos ⟨rfl, rfl⟩
def IsO (G : Gm) (a ci : Nat) : Prop := a < G.2 ∧ (G.1 a).1 = ci ∧ (G.1 a).2.1 = clN ci
def IsA (G : Gm) (a kd n : Nat) : Prop := a < G.2 ∧ (G.1 a).1 = kd ∧ (G.1 a).2.1 = n ∧ n < 2147483648
def RF (G : Gm) (a k r : Nat) : Prop := (G.1 a).2.2 k = some r
theorem ob_o {tc : Nat → ClassId} {ad : Nat → Nat} {w : Wd} {a ci : Nat} (h : IsO w.1 a ci) (hc : ci < 7) : ob tc ad w a = .inr (ci, (List.range (clN ci)).map (fv ad w a)) := by
  unfold ob
  rw [h.2.1, if_pos (by omega), h.2.2]
theorem ob_i {tc : Nat → ClassId} {ad : Nat → Nat} {w : Wd} {a kd n : Nat} (h : IsA w.1 a kd n) (h1 : 10 ≤ kd) (h2 : kd < 13) : ob tc ad w a = .inl (tc kd, n, .inl (fun j => w.2.1 a j)) := by
  unfold ob
  rw [h.2.1, if_neg (by omega), if_pos h2, h.2.2.1]
theorem ob_r {tc : Nat → ClassId} {ad : Nat → Nat} {w : Wd} {a kd n : Nat} (h : IsA w.1 a kd n) (h1 : 13 ≤ kd) : ob tc ad w a = .inl (tc kd, n, .inr (.inr (.inr (.inr (fun j => ((w.1.1 a).2.2 j).map ad))))) := by
  unfold ob
  rw [h.2.1, if_neg (by omega), if_neg (by omega), h.2.2.1]
theorem ob_wI {tc : Nat → ClassId} {ad : Nat → Nat} {G : Gm} {μ : Mm} {a k i : Nat} {x : Int32} (h : i ≠ a) : ob tc ad (G, wI μ a k x) i = ob tc ad (G, μ) i := by
  have e : (fun j => (wI μ a k x).1 i j) = fun j => μ.1 i j := funext fun j => by rw [wI_1, if_neg (fun q => h q.1)]
  have f : fv ad (G, wI μ a k x) i = fv ad (G, μ) i := funext fun j => by
    unfold fv
    dsimp only
    rw [wI_n (fun q => h q.1), wI_2]
  unfold ob
  dsimp only
  rw [e, f]
theorem ob_wL {tc : Nat → ClassId} {ad : Nat → Nat} {G : Gm} {μ : Mm} {a k i : Nat} {x : Int64} (h : i ≠ a) : ob tc ad (G, wL μ a k x) i = ob tc ad (G, μ) i := by
  have f : fv ad (G, wL μ a k x) i = fv ad (G, μ) i := funext fun j => by
    unfold fv
    dsimp only
    rw [wL_n (fun q => h q.1), wL_1]
  unfold ob
  dsimp only
  rw [f, wL_1]
theorem map_set {N k : Nat} {f g : Nat → Value} {v : Value} (hk : g k = v) (ho : ∀ j, j ≠ k → g j = f j) : ((List.range N).map f).set k v = (List.range N).map g := by
  apply List.ext_getElem?
  intro j
  rw [List.getElem?_set]
  by_cases hj : k = j
  · subst hj
    by_cases hl : k < N
    · simp [hl, hk]
    · simp [hl]
  · rw [if_neg hj, List.getElem?_map, List.getElem?_map]
    by_cases hl : j < N
    · rw [List.getElem?_range hl]
      simp [ho j (fun h => hj h.symm)]
    · rw [List.getElem?_eq_none (by simpa using hl)]
      rfl
/-- a field's link: class ci, field k, its sort t (0 whole numbers, 1 longs, 2 references) -/
def FL (own : String) (idx ci k t : Nat) : Prop := ci < 7 ∧ k < clN ci ∧ fty ci k = t ∧ Cond.fieldLink own idx (clT ci k).1 (clT ci k).2.1 (clT ci k).2.2.1 ∈ lw_g
section JM
variable {mi : MI} {d : Nat} {lim : Nat × Nat} {sc : Nat × (Nat → Int32)} {K : Option Value → Wd → Prop} {cs : Nat × Nat} {pc nx : Nat} {ls st : List Value} {G : Gm} {μ : Mm}
theorem J_get {a idx ci k t : Nat} {v : Value} (h : Dc mi pc (.getfield idx) 3 nx) (hl : FL mi.1.cls idx ci k t) (ho : IsO G a ci) (hv : ∀ ad, fv ad (G, μ) a k = trV ad v) (kk : J mi d lim sc K cs nx ls (v :: st) (G, μ)) : J mi d lim sc K cs pc ls (.ref a :: st) (G, μ) := by
  obtain ⟨hd, rfl⟩ := h
  obtain ⟨hc7, hk, -, hlw⟩ := hl
  intro p l e R s m args below meth c H locs D tc ad A lr Q hC hR hE hL hret
  refine va_get (C := clR ci) (T := clT ci) (N := clN ci) (ref := (clT ci k).1) hC.1 hC.2.1 hC.2.2.2.2.2.1 (cl_in hc7) hC.2.2.2.2.1 hE.1 hE.2.1 a (fs := (List.range (clN ci)).map (fv ad (G, μ) a)) ?_ (cls7_at hc7) k hk (hC.2.2.2.2.2.1 _ hlw) (fun _ h => h) (v := trV ad v) ?_ hd (kk p l e R s m args below meth c H locs D tc ad A lr Q hC hR hE hL hret)
  · rw [wsW_at ho.1, ob_o ho hc7]
  · rw [List.getElem?_map, List.getElem?_range hk]
    exact congrArg some (hv ad)
theorem J_getI {a idx ci k : Nat} (h : Dc mi pc (.getfield idx) 3 nx) (hl : FL mi.1.cls idx ci k 0) (ho : IsO G a ci) (kk : J mi d lim sc K cs nx ls (.int (μ.1 a k) :: st) (G, μ)) : J mi d lim sc K cs pc ls (.ref a :: st) (G, μ) :=
  J_get h hl ho (fun ad => by unfold fv; dsimp only; rw [ho.2.1, if_pos hl.2.2.1]; rfl) kk
theorem J_getL {a idx ci k : Nat} (h : Dc mi pc (.getfield idx) 3 nx) (hl : FL mi.1.cls idx ci k 1) (ho : IsO G a ci) (kk : J mi d lim sc K cs nx ls (.long (μ.2 a k) :: st) (G, μ)) : J mi d lim sc K cs pc ls (.ref a :: st) (G, μ) :=
  J_get h hl ho (fun ad => by unfold fv; dsimp only; rw [ho.2.1, hl.2.2.1, if_neg (by decide), if_pos rfl]; rfl) kk
theorem J_getR {a idx ci k r : Nat} (h : Dc mi pc (.getfield idx) 3 nx) (hl : FL mi.1.cls idx ci k 2) (ho : IsO G a ci) (hr : RF G a k r) (kk : J mi d lim sc K cs nx ls (.ref r :: st) (G, μ)) : J mi d lim sc K cs pc ls (.ref a :: st) (G, μ) :=
  J_get h hl ho (fun ad => by unfold fv; dsimp only; rw [ho.2.1, hl.2.2.1, if_neg (by decide), if_neg (by decide), hr]; rfl) kk
/-- what stands behind a heap's change in one cell -/
theorem Ev.put {D : va_G} {tc : Nat → ClassId} {ad : Nat → Nat} {w w' : Wd} {s : State} {A : Nat → Prop} {H H1 : Heap} {locs locs1 : List Loc} {x : va_E} {a : Nat} (hE : Ev D tc ad w sc s A H locs) (hG : w'.1.2 = w.1.2) (ho : ∀ i, i ≠ a → ob tc ad w' i = ob tc ad w i) (hx : ob tc ad w' a = x)
    (hP : va_P D cls7 ((wsW tc ad w).set a (ad a, x)) H1) (hD : va_D A ((wsW tc ad w).set a (ad a, x))) (hS : va_S A s.heap H1 locs1) : Ev D tc ad w' sc s A H1 locs1 := by
  rw [wsW_set hG ho hx] at hP hD
  exact ⟨hE.1, hP, hD, hS, hE.2.2.2.2.1, by rw [hG]; exact hE.2.2.2.2.2.1, hE.2.2.2.2.2.2⟩
/-- a field that is put: not final -/
def FP (own : String) (idx ci k t : Nat) : Prop := FL own idx ci k t ∧ (clT ci k).2.2.2 = false
theorem J_putI {a idx ci k : Nat} {x : Int32} (h : Dc mi pc (.putfield idx) 3 nx) (hl : FP mi.1.cls idx ci k 0) (ho : IsO G a ci) (hn : narrow (tyF ci k) (.int x) = .int x) (hf : fits (tyF ci k) (.int x) = true) (kk : J mi d lim sc K cs nx ls st (G, wI μ a k x)) : J mi d lim sc K cs pc ls (.int x :: .ref a :: st) (G, μ) := by
  obtain ⟨hd, rfl⟩ := h
  obtain ⟨⟨hc7, hk, ht, hlw⟩, hfin⟩ := hl
  intro p l e R s m args below meth c H locs D tc ad A lr Q hC hR hE hL hret
  refine va_put (C := clR ci) (T := clT ci) (N := clN ci) (ref := (clT ci k).1) hC.1 hC.2.1 hC.2.2.2.2.2.1 (cl_in hc7) (tyF ci) (clTy_ok hc7) (clN_ok hc7) hC.2.2.2.2.1 hE.1 hE.2.1 hE.2.2.1 hE.2.2.2.1 a (fs := (List.range (clN ci)).map (fv ad (G, μ) a)) ?_ (cls7_at hc7) k hk (hC.2.2.2.2.2.1 _ hlw) (fun _ h => h) hfin (clTy_ok hc7 k hk) hn hf (by simpa using hk) hd (fun H1 locs1 hP hD hS => ?_)
  · rw [wsW_at ho.1, ob_o ho hc7]
  · refine kk p l e R s m args below meth c H1 locs1 D tc ad A lr Q hC hR (hE.put (w' := (G, wI μ a k x)) rfl (fun i hi => ob_wI hi) ?_ hP hD hS) hL hret
    rw [ob_o (w := (G, wI μ a k x)) ho hc7]
    refine congrArg (fun z => Sum.inr (ci, z)) (map_set ?_ (fun j hj => ?_)).symm
    · unfold fv; dsimp only; rw [ho.2.1, if_pos ht, wI_e]; rfl
    · unfold fv; dsimp only; rw [wI_n (fun q => hj q.2), wI_2]
theorem J_putL {a idx ci k : Nat} {x : Int64} (h : Dc mi pc (.putfield idx) 3 nx) (hl : FP mi.1.cls idx ci k 1) (ho : IsO G a ci) (hn : narrow (tyF ci k) (.long x) = .long x) (hf : fits (tyF ci k) (.long x) = true) (kk : J mi d lim sc K cs nx ls st (G, wL μ a k x)) : J mi d lim sc K cs pc ls (.long x :: .ref a :: st) (G, μ) := by
  obtain ⟨hd, rfl⟩ := h
  obtain ⟨⟨hc7, hk, ht, hlw⟩, hfin⟩ := hl
  intro p l e R s m args below meth c H locs D tc ad A lr Q hC hR hE hL hret
  refine va_put (C := clR ci) (T := clT ci) (N := clN ci) (ref := (clT ci k).1) hC.1 hC.2.1 hC.2.2.2.2.2.1 (cl_in hc7) (tyF ci) (clTy_ok hc7) (clN_ok hc7) hC.2.2.2.2.1 hE.1 hE.2.1 hE.2.2.1 hE.2.2.2.1 a (fs := (List.range (clN ci)).map (fv ad (G, μ) a)) ?_ (cls7_at hc7) k hk (hC.2.2.2.2.2.1 _ hlw) (fun _ h => h) hfin (clTy_ok hc7 k hk) hn hf (by simpa using hk) hd (fun H1 locs1 hP hD hS => ?_)
  · rw [wsW_at ho.1, ob_o ho hc7]
  · refine kk p l e R s m args below meth c H1 locs1 D tc ad A lr Q hC hR (hE.put (w' := (G, wL μ a k x)) rfl (fun i hi => ob_wL hi) ?_ hP hD hS) hL hret
    rw [ob_o (w := (G, wL μ a k x)) ho hc7]
    refine congrArg (fun z => Sum.inr (ci, z)) (map_set ?_ (fun j hj => ?_)).symm
    · unfold fv; dsimp only; rw [ho.2.1, if_neg (by rw [ht]; decide), if_pos ht, wL_e]; rfl
    · unfold fv; dsimp only; rw [wL_n (fun q => hj q.2), wL_1]
theorem vp_inN {i : Int32} {k n : Nat} (hi : i = nI k) (hk : k < n) (hn : n < 2147483648) : vp_in i n ∧ i.toNatClampNeg = k := by
  subst hi
  exact ⟨vp_in_nI hk (by omega), nI_clamp (by omega)⟩
theorem J_iald {a n k : Nat} {i : Int32} (h : Dc mi pc .iaload 1 nx) (ha : IsA G a 10 n) (hi : i = nI k) (hk : k < n) (kk : J mi d lim sc K cs nx ls (.int (μ.1 a k) :: st) (G, μ)) : J mi d lim sc K cs pc ls (.int i :: .ref a :: st) (G, μ) := by
  obtain ⟨hd, rfl⟩ := h
  obtain ⟨h1, h2⟩ := vp_inN hi hk ha.2.2.2
  intro p l e R s m args below meth c H locs D tc ad A lr Q hC hR hE hL hret
  refine va_iald hC.1 hC.2.1 hE.1 hE.2.1 a 0 (f := fun j => μ.1 a j) ?_ rfl h1 hd ?_
  · rw [wsW_at ha.1, ob_i ha (by omega) (by omega)]
  · rw [h2]
    exact kk p l e R s m args below meth c H locs D tc ad A lr Q hC hR hE hL hret
theorem J_bald {a n k : Nat} {i : Int32} (h : Dc mi pc .baload 1 nx) (ha : IsA G a 11 n) (hi : i = nI k) (hk : k < n) (kk : J mi d lim sc K cs nx ls (.int (μ.1 a k) :: st) (G, μ)) : J mi d lim sc K cs pc ls (.int i :: .ref a :: st) (G, μ) := by
  obtain ⟨hd, rfl⟩ := h
  obtain ⟨h1, h2⟩ := vp_inN hi hk ha.2.2.2
  intro p l e R s m args below meth c H locs D tc ad A lr Q hC hR hE hL hret
  refine va_bald hC.1 hC.2.1 hE.1 hE.2.1 a 1 (f := fun j => μ.1 a j) ?_ rfl h1 hd ?_
  · rw [wsW_at ha.1, ob_i ha (by omega) (by omega)]
  · rw [h2]
    exact kk p l e R s m args below meth c H locs D tc ad A lr Q hC hR hE hL hret
theorem J_zald {a n k : Nat} {i : Int32} (h : Dc mi pc .baload 1 nx) (ha : IsA G a 12 n) (hi : i = nI k) (hk : k < n) (kk : J mi d lim sc K cs nx ls (.int (μ.1 a k) :: st) (G, μ)) : J mi d lim sc K cs pc ls (.int i :: .ref a :: st) (G, μ) := by
  obtain ⟨hd, rfl⟩ := h
  obtain ⟨h1, h2⟩ := vp_inN hi hk ha.2.2.2
  intro p l e R s m args below meth c H locs D tc ad A lr Q hC hR hE hL hret
  refine va_zald hC.1 hC.2.1 hE.1 hE.2.1 a 2 (f := fun j => μ.1 a j) ?_ rfl h1 hd ?_
  · rw [wsW_at ha.1, ob_i ha (by omega) (by omega)]
  · rw [h2]
    exact kk p l e R s m args below meth c H locs D tc ad A lr Q hC hR hE hL hret
/-- a reference out of an array of them, all there -/
theorem J_aald {a n k r kd : Nat} {i : Int32} (h : Dc mi pc .aaload 1 nx) (ha : IsA G a kd n) (h13 : 13 ≤ kd) (h15 : kd ≤ 15) (hi : i = nI k) (hk : k < n) (hr : RF G a k r) (kk : J mi d lim sc K cs nx ls (.ref r :: st) (G, μ)) : J mi d lim sc K cs pc ls (.int i :: .ref a :: st) (G, μ) := by
  obtain ⟨hd, rfl⟩ := h
  obtain ⟨h1, h2⟩ := vp_inN hi hk ha.2.2.2
  intro p l e R s m args below meth c H locs D tc ad A lr Q hC hR hE hL hret
  have hw : (wsW tc ad (G, μ))[a]? = some (ad a, .inl (tc kd, n, .inr (.inr (.inr (.inr (fun j => ((G.1 a).2.2 j).map ad)))))) := by
    rw [wsW_at ha.1, ob_r ha h13]
  obtain ⟨ty, t0, ht, hty⟩ : ∃ (ty : FieldType) (t0 : Nat), (tyL tc)[t0]? = some (tc kd, ty) ∧ ty.isReference = true := by
    rcases (show kd = 13 ∨ kd = 14 ∨ kd = 15 by omega) with rfl | rfl | rfl
    · exact ⟨_, 3, rfl, rfl⟩
    · exact ⟨_, 4, rfl, rfl⟩
    · exact ⟨_, 5, rfl, rfl⟩
  have hlt : i.toNatClampNeg < n := by rw [h2]; exact hk
  have hP := hE.2.1 a _ hw
  refine W.aald (v := .ref (ad r)) hC.1 hC.2.1 (cell := vp_cell (tc kd) (n, .inr (.inr (.inr (.inr (fun j => ((G.1 a).2.2 j).map ad)))))) hP (by rw [vp_cell_q]; exact (hE.1.2 t0 _ ht).1 n _) hty (by rw [vp_cell_q]; exact fun q => by cases q) (by rw [vp_cell_q, arrV_size]; exact h1) (by rw [vp_cell_q, arrV_read _ _ hlt, h2]; show some (va_rf (((G.1 a).2.2 k).map ad)) = _; rw [hr]; rfl) rfl rfl hd (kk p l e R s m args below meth c H locs D tc ad A lr Q hC hR hE hL hret)
theorem upd_eq (f : Nat → Int32) (k : Nat) (x : Int32) : upd f k x = fun j => if j = k then x else f j := by
  funext j
  by_cases h : j = k
  · subst h; rw [pk_us, if_pos rfl]
  · rw [pk_un h, if_neg h]
theorem ob_wIa {tc : Nat → ClassId} {ad : Nat → Nat} {a kd n k : Nat} {x : Int32} (h : IsA G a kd n) (h1 : 10 ≤ kd) (h2 : kd < 13) : ob tc ad (G, wI μ a k x) a = .inl (tc kd, n, .inl (upd (fun j => μ.1 a j) k x)) := by
  rw [ob_i (w := (G, wI μ a k x)) h h1 h2, upd_eq]
  refine congrArg (fun z => Sum.inl (tc kd, n, Sum.inl z)) (funext fun j => ?_)
  rw [wI_1]
  by_cases e : j = k
  · rw [if_pos ⟨rfl, e⟩, if_pos e]
  · rw [if_neg (fun q => e q.2), if_neg e]
theorem J_iast {a n k : Nat} {i x : Int32} (h : Dc mi pc .iastore 1 nx) (ha : IsA G a 10 n) (hi : i = nI k) (hk : k < n) (kk : J mi d lim sc K cs nx ls st (G, wI μ a k x)) : J mi d lim sc K cs pc ls (.int x :: .int i :: .ref a :: st) (G, μ) := by
  obtain ⟨hd, rfl⟩ := h
  obtain ⟨h1, h2⟩ := vp_inN hi hk ha.2.2.2
  intro p l e R s m args below meth c H locs D tc ad A lr Q hC hR hE hL hret
  refine va_iast hC.1 hC.2.1 hE.1 hE.2.1 hE.2.2.1 hE.2.2.2.1 a 0 (f := fun j => μ.1 a j) ?_ rfl h1 hd (fun H1 locs1 hP hD hS => ?_)
  · rw [wsW_at ha.1, ob_i ha (by omega) (by omega)]
  · rw [h2] at hP hD
    exact kk p l e R s m args below meth c H1 locs1 D tc ad A lr Q hC hR (hE.put (w' := (G, wI μ a k x)) rfl (fun i hi => ob_wI hi) (ob_wIa ha (by omega) (by omega)) hP hD hS) hL hret
theorem J_bast {a n k : Nat} {i x : Int32} (h : Dc mi pc .bastore 1 nx) (ha : IsA G a 11 n) (hi : i = nI k) (hk : k < n) (kk : J mi d lim sc K cs nx ls st (G, wI μ a k x.toInt8.toInt32)) : J mi d lim sc K cs pc ls (.int x :: .int i :: .ref a :: st) (G, μ) := by
  obtain ⟨hd, rfl⟩ := h
  obtain ⟨h1, h2⟩ := vp_inN hi hk ha.2.2.2
  intro p l e R s m args below meth c H locs D tc ad A lr Q hC hR hE hL hret
  refine va_bast hC.1 hC.2.1 hE.1 hE.2.1 hE.2.2.1 hE.2.2.2.1 a 1 (f := fun j => μ.1 a j) ?_ rfl h1 hd (fun H1 locs1 hP hD hS => ?_)
  · rw [wsW_at ha.1, ob_i ha (by omega) (by omega)]
  · rw [h2, vp_nar_byte] at hP hD
    exact kk p l e R s m args below meth c H1 locs1 D tc ad A lr Q hC hR (hE.put (w' := (G, wI μ a k x.toInt8.toInt32)) rfl (fun i hi => ob_wI hi) (ob_wIa ha (by omega) (by omega)) hP hD hS) hL hret
theorem J_zast {a n k : Nat} {i x : Int32} (h : Dc mi pc .bastore 1 nx) (ha : IsA G a 12 n) (hi : i = nI k) (hk : k < n) (hx : vp_nar .boolean x = x) (kk : J mi d lim sc K cs nx ls st (G, wI μ a k x)) : J mi d lim sc K cs pc ls (.int x :: .int i :: .ref a :: st) (G, μ) := by
  obtain ⟨hd, rfl⟩ := h
  obtain ⟨h1, h2⟩ := vp_inN hi hk ha.2.2.2
  intro p l e R s m args below meth c H locs D tc ad A lr Q hC hR hE hL hret
  refine va_zast hC.1 hC.2.1 hE.1 hE.2.1 hE.2.2.1 hE.2.2.2.1 a 2 (f := fun j => μ.1 a j) ?_ rfl h1 hd (fun H1 locs1 hP hD hS => ?_)
  · rw [wsW_at ha.1, ob_i ha (by omega) (by omega)]
  · rw [h2, hx] at hP hD
    exact kk p l e R s m args below meth c H1 locs1 D tc ad A lr Q hC hR (hE.put (w' := (G, wI μ a k x)) rfl (fun i hi => ob_wI hi) (ob_wIa ha (by omega) (by omega)) hP hD hS) hL hret
theorem J_alen {a n kd : Nat} (h : Dc mi pc .arraylength 1 nx) (ha : IsA G a kd n) (h10 : 10 ≤ kd) (h15 : kd ≤ 15) (kk : J mi d lim sc K cs nx ls (.int (nI n) :: st) (G, μ)) : J mi d lim sc K cs pc ls (.ref a :: st) (G, μ) := by
  obtain ⟨hd, rfl⟩ := h
  intro p l e R s m args below meth c H locs D tc ad A lr Q hC hR hE hL hret
  obtain ⟨ty, t0, ht⟩ : ∃ (ty : FieldType) (t0 : Nat), (tyL tc)[t0]? = some (tc kd, ty) := by
    rcases (show kd = 10 ∨ kd = 11 ∨ kd = 12 ∨ kd = 13 ∨ kd = 14 ∨ kd = 15 by omega) with rfl | rfl | rfl | rfl | rfl | rfl
    · exact ⟨_, 0, rfl⟩
    · exact ⟨_, 1, rfl⟩
    · exact ⟨_, 2, rfl⟩
    · exact ⟨_, 3, rfl⟩
    · exact ⟨_, 4, rfl⟩
    · exact ⟨_, 5, rfl⟩
  obtain ⟨x, hx, hx1⟩ : ∃ x : vp_A, ob tc ad (G, μ) a = .inl (tc kd, x) ∧ x.1 = n := by
    by_cases h13 : kd < 13
    · exact ⟨_, ob_i ha h10 h13, rfl⟩
    · exact ⟨_, ob_r ha (by omega), rfl⟩
  refine va_alen hC.1 hC.2.1 hE.1 hE.2.1 a t0 (x := x) ?_ ht (v := nI n) ?_ hd (kk p l e R s m args below meth c H locs D tc ad A lr Q hC hR hE hL hret)
  · rw [wsW_at ha.1, hx]
  · rw [hx1]; rfl
end JM
