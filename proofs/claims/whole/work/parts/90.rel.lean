/-! CONSTRUCTORS: the object stands last, what it makes comes behind it -/
def sh (b : Nat) (Y : List Ce) : List Ce := Y.map (fun e => (e.1, e.2.1, e.2.2.map (Option.map (b + ·))))
def wfB (Y : List Ce) : Bool := Y.all (fun e => e.2.2.all (fun o => match o with | none => true | some r => decide (r < Y.length)))
theorem wfB_ok {Y : List Ce} (h : wfB Y = true) : WfL Y Y.length := fun e he r hr => by
  have h1 := List.all_eq_true.mp (List.all_eq_true.mp h e he) _ hr
  exact of_decide_eq_true h1
theorem sh_len (L Y : List Ce) : (L ++ sh L.length Y).length = L.length + Y.length := by
  rw [List.length_append]
  unfold sh
  rw [List.length_map]
theorem wf_sh {L Y : List Ce} (h : WfL L L.length) (hY : wfB Y = true) : WfL (L ++ sh L.length Y) (L ++ sh L.length Y).length := by
  rw [sh_len]
  refine (h.le (Nat.le_add_right _ _)).app (fun e he r hr => ?_)
  obtain ⟨e', he', rfl⟩ := List.mem_map.mp he
  obtain ⟨o, ho, hor⟩ := List.mem_map.mp hr
  cases o with
  | none => cases hor
  | some r' =>
    cases hor
    have := wfB_ok hY e' he' r' ho
    show L.length + r' < L.length + Y.length
    omega
theorem sh_at {L Y : List Ce} {i : Nat} {e : Ce} (h : Y[i]? = some e) : (L ++ sh L.length Y)[L.length + i]? = some (e.1, e.2.1, e.2.2.map (Option.map (L.length + ·))) := by
  rw [List.getElem?_append_right (Nat.le_add_right _ _), Nat.add_sub_cancel_left]
  unfold sh
  rw [List.getElem?_map, h]
  rfl
theorem sh_new {L Y Y' : List Ce} {k n : Nat} (h : Y ++ [(k, n, [])] = Y') : (L ++ sh L.length Y) ++ [(k, n, [])] = L ++ sh L.length Y' := by
  subst h
  unfold sh
  rw [List.map_append, List.append_assoc]
  rfl
theorem sh_obj (L : List Ce) (c n : Nat) : L ++ [(c, n, List.replicate n none)] = L ++ sh L.length [(c, n, List.replicate n none)] := by
  unfold sh
  rw [List.map_singleton, List.map_replicate]
  rfl
section RL
variable {mi : MI} {d : Nat} {lim : Nat × Nat} {sc : Nat × (Nat → Int32)} {K : Option Value → Wd → Prop} {cs : Nat × Nat} {pc nx idx n : Nat} {ls st : List Value} {L Y Y' : List Ce} {μ : Mm}
theorem R_newA {t : ArrayType} {kd r0 : Nat} {i : Int32} (h : Dc mi pc (.newarray t) 2 nx) (hk : NA t kd) (hi : i = nI n) (hn : n < 100000) (hL : WfL L L.length) (hy : wfB Y = true) (hz : Zr μ L.length) (h6 : L.length ≤ 100000) (h7 : Y.length ≤ 1000) (hold : Old ls st (L.length + 1)) (h0 : 0 < Y.length) (h1 : cs.1 + 1 ≤ lim.1) (h2 : cs.2 + n ≤ lim.2) (hY : Y ++ [(kd, n, [])] = Y') (hr : Y.length = r0)
    (kk : J mi d lim sc K (cs.1 + 1, cs.2 + n) nx ls (.ref (L.length + r0) :: st) (gL (L ++ sh L.length Y'), μ)) : J mi d lim sc K cs pc ls (.int i :: st) (gL (L ++ sh L.length Y), μ) := by
  have hlen := sh_len L Y
  refine J_newA h hk hi hn (wf_sh hL hy) (hz.le (by rw [hlen]; omega)) (by rw [hlen]; omega) (fun q hq => (hold q hq).imp (fun z => by rw [hlen]; omega) id) h1 h2 ?_
  rw [sh_new hY, hlen, hr]
  exact kk
theorem R_multi {Z : List Ce} {r0 : Nat} (h : Dc mi pc (.multianewarray idx 2) 4 nx) (hcl : Cond.classLink mi.1.cls idx ("[" ++ (FieldType.array .int).toString) ∈ lw_g) (hL : WfL L L.length) (hy : wfB Y = true) (hz : Zr μ L.length) (h6 : L.length ≤ 100000) (h7 : Y.length ≤ 1000) (hold : Old ls st (L.length + 1)) (h0 : 0 < Y.length) (h1 : cs.1 + 13 ≤ lim.1) (h2 : cs.2 + 156 ≤ lim.2) (hY : Y ++ Z = Y') (hZ : ∀ b, mulL (b + r0) = sh b Z) (hr : Y.length = r0)
    (kk : J mi d lim sc K (cs.1 + 13, cs.2 + 156) nx ls (.ref (L.length + r0) :: st) (gL (L ++ sh L.length Y'), μ)) : J mi d lim sc K cs pc ls (.int (nI 12) :: .int (nI 12) :: st) (gL (L ++ sh L.length Y), μ) := by
  have hlen := sh_len L Y
  refine J_multi h hcl (wf_sh hL hy) (hz.le (by rw [hlen]; omega)) (by rw [hlen]; omega) (fun q hq => (hold q hq).imp (fun z => by rw [hlen]; omega) id) h1 h2 ?_
  rw [hlen, hr, hZ, List.append_assoc, show sh L.length Y ++ sh L.length Z = sh L.length Y' by rw [← hY]; unfold sh; rw [List.map_append]]
  exact kk
theorem R_putR {ci k r0 : Nat} {rs : List (Option Nat)} (h : Dc mi pc (.putfield idx) 3 nx) (hl : FR mi idx ci k) (ho : Y[0]? = some (ci, clN ci, rs)) (hk : k < rs.length) (hY : Y.set 0 (ci, clN ci, rs.set k (some r0)) = Y') (kk : J mi d lim sc K cs nx ls st (gL (L ++ sh L.length Y'), μ)) : J mi d lim sc K cs pc ls (.ref (L.length + r0) :: .ref L.length :: st) (gL (L ++ sh L.length Y), μ) := by
  refine J_putR (rs := rs.map (Option.map (L.length + ·))) h hl (sh_at (i := 0) ho) (by rw [List.length_map]; exact hk) ?_ kk
  subst hY
  rw [List.set_append_right _ _ (Nat.le_refl _), Nat.sub_self]
  unfold sh
  rw [List.map_set, List.map_set]
  rfl
theorem R_put0 {ci k : Nat} {rs : List (Option Nat)} {x : Int32} (h : Dc mi pc (.putfield idx) 3 nx) (hl : FP mi.1.cls idx ci k 0) (ho : Y[0]? = some (ci, clN ci, rs)) (hn : narrow (tyF ci k) (.int x) = .int x) (hf : fits (tyF ci k) (.int x) = true) (hv : μ.1 L.length k = x) (kk : J mi d lim sc K cs nx ls st (gL (L ++ sh L.length Y), μ)) : J mi d lim sc K cs pc ls (.int x :: .ref L.length :: st) (gL (L ++ sh L.length Y), μ) :=
  J_putI h hl (isO_L (sh_at (i := 0) ho)) hn hf (by rw [wI_same hv]; exact kk)
theorem R_put0L {ci k : Nat} {rs : List (Option Nat)} {x : Int64} (h : Dc mi pc (.putfield idx) 3 nx) (hl : FP mi.1.cls idx ci k 1) (ho : Y[0]? = some (ci, clN ci, rs)) (hn : narrow (tyF ci k) (.long x) = .long x) (hf : fits (tyF ci k) (.long x) = true) (hv : μ.2 L.length k = x) (kk : J mi d lim sc K cs nx ls st (gL (L ++ sh L.length Y), μ)) : J mi d lim sc K cs pc ls (.long x :: .ref L.length :: st) (gL (L ++ sh L.length Y), μ) :=
  J_putL h hl (isO_L (sh_at (i := 0) ho)) hn hf (by rw [wL_same hv]; exact kk)
end RL
theorem old1 (b : Nat) : Old [.ref b] [.ref b] (b + 1) := fun i hi => Or.inl (by simp at hi; subst hi; exact Nat.lt_succ_self _)
theorem old2 (b : Nat) (x : Int32) : Old [.ref b, .int x] [.ref b] (b + 1) := fun i hi => Or.inl (by simp at hi; subst hi; exact Nat.lt_succ_self _)
/-- a constructor: the object stands last; behind it come Y's cells -/
def Ct (mi : MI) (d : Nat) (lim : Nat × Nat) (ci : Nat) (As : List Value) (L Y : List Ce) (μ μ' : Mm) : Prop := C mi d lim (.ref L.length :: As) (gL (L ++ [(ci, clN ci, List.replicate (clN ci) none)]), μ) (fun v w' => v = none ∧ w' = (gL (L ++ sh L.length Y), μ'))
