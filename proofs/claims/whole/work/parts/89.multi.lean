/-! an array of 12 rows of 12 ints -/
def mulL (b : Nat) : List Ce := (15, 12, (List.range 12).map (fun j => some (b + 1 + j))) :: List.replicate 12 (10, 12, [])
theorem va_D_many {A : Nat → Prop} {ws : va_W} {D : va_G} {cl : List vw_C} {H : Heap} (hD : va_D A ws) (hP : va_P D cl ws H) (M : Nat) (x : Nat → va_E) (hA : ∀ q, H.size ≤ q → A q) : va_D A (ws ++ (List.range M).map (fun j => (H.size + j, x j))) := by
  have key : ∀ (k : Nat) (q : Nat × va_E), (ws ++ (List.range M).map (fun j => (H.size + j, x j)))[k]? = some q → (ws[k]? = some q ∧ q.1 < H.size) ∨ (∃ j, k = ws.length + j ∧ q.1 = H.size + j) := by
    intro k q hk
    by_cases hl : k < ws.length
    · rw [List.getElem?_append_left hl] at hk
      exact Or.inl ⟨hk, (hP k q hk).lt⟩
    · rw [List.getElem?_append_right (by omega), List.getElem?_map] at hk
      obtain ⟨j, hj, rfl⟩ := Option.map_eq_some_iff.mp hk
      have hj2 : j = k - ws.length := by
        have := (List.getElem?_eq_some_iff.mp hj).2
        rw [List.getElem_range] at this
        exact this.symm
      exact Or.inr ⟨j, by omega, rfl⟩
  refine ⟨fun i j a b hi hj hab => ?_, fun k q hk => ?_⟩
  · rcases key i a hi with ⟨h1, l1⟩ | ⟨u, h1, l1⟩ <;> rcases key j b hj with ⟨h2, l2⟩ | ⟨v, h2, l2⟩
    · exact hD.1 i j a b h1 h2 hab
    · omega
    · omega
    · omega
  · rcases key k q hk with ⟨h1, l1⟩ | ⟨u, h1, l1⟩
    · exact hD.2 k q h1
    · exact hA _ (by omega)
section JM
variable {mi : MI} {d : Nat} {lim : Nat × Nat} {sc : Nat × (Nat → Int32)} {K : Option Value → Wd → Prop} {cs : Nat × Nat} {pc nx idx : Nat} {ls st : List Value} {X : List Ce} {μ : Mm}
theorem J_multi (h : Dc mi pc (.multianewarray idx 2) 4 nx) (hcl : Cond.classLink mi.1.cls idx ("[" ++ (FieldType.array .int).toString) ∈ lw_g) (hw : WfL X X.length) (hz : Zr μ X.length) (h6 : X.length + 13 ≤ 1000000) (hold : Old ls st X.length) (h1 : cs.1 + 13 ≤ lim.1) (h2 : cs.2 + 156 ≤ lim.2)
    (kk : J mi d lim sc K (cs.1 + 13, cs.2 + 156) nx ls (.ref X.length :: st) (gL (X ++ mulL X.length), μ)) : J mi d lim sc K cs pc ls (.int (nI 12) :: .int (nI 12) :: st) (gL X, μ) := by
  obtain ⟨hd, rfl⟩ := h
  intro p l e R s m args below meth c H locs D tc ad A lr Q hC hR hE hL hret
  have hts := hC.2.2.2.2.2.1
  intro T hT X0
  obtain ⟨hr1, hr2⟩ := (⟨hR.2.2.1, hR.2.2.2⟩ : lim.1 ≤ R.cells ∧ lim.2 ≤ R.slots)
  obtain ⟨vm₁, cA, comp, hfA, hfC, X1, step⟩ := grd_step (rest := st.map (trV ad)) X0 hC.1 hC.2.2.2.2.1 (hts _ hcl) hE.2.2.2.2.2.2.1.2.2.2.2.2.1.2 (hts _ na_i.2.2.1) (g := F0 m pc lr ((Value.int (nI 12) :: .int (nI 12) :: st).map (trV ad))) rfl (by rw [hC.2.1]; exact hd) rfl (by omega) (by omega)
  have hcA : cA = tc 15 := Option.some.inj (hfA.symm.trans (show s.vm.findClass _ = some (tc 15) from (hE.1.2 5 (tc 15, .array .int) rfl).2))
  have hco : comp = tc 10 := Option.some.inj (hfC.symm.trans (show s.vm.findClass _ = some (tc 10) from (hE.1.2 0 (tc 10, .int) rfl).2))
  subst hcA hco
  obtain ⟨f1, f2, -, -, -⟩ := grd_f (T.setVm vm₁) (tc 15) (tc 10) 12
  have fo : ∀ q : Nat, q < T.heap.size → (grd_T (T.setVm vm₁) (tc 15) (tc 10) 12).heap[q]? = T.heap[q]? := fun q hq => grd_old (T.setVm vm₁) (tc 15) (tc 10) hq 12
  have fi : ∀ j, j < 12 → (grd_T (T.setVm vm₁) (tc 15) (tc 10) 12).heap[T.heap.size + 1 + j]? = some (grd_I (tc 10)) := fun j hj => grd_in (T.setVm vm₁) (tc 15) (tc 10) 12 j hj
  generalize grd_T (T.setVm vm₁) (tc 15) (tc 10) 12 = T1 at f1 f2 fo fi X1 step
  have f1' : T1.heap.size = T.heap.size + 13 := f1
  have f2' : T1.heap[T.heap.size]? = some (grd_O (tc 15) T.heap.size 12) := f2
  subst hT
  have hlen : (mulL X.length).length = 13 := rfl
  have hk : ∀ (k : Nat) (x : Nat × va_E), (wsW tc ad (gL X, μ))[k]? = some x → T1.heap[x.1]? = T.heap[x.1]? := fun k x hx => fo x.1 ((hE.2.1 k x hx).lt)
  have hS := hE.2.2.2.1
  have hW1 := J_grown (cs := (cs.1 + 13, cs.2 + 156)) (nx := pc + 4) (E := mulL X.length) (q := fun j => T.heap.size + j) (x := fun j => ob tc (adU ad (fun j => T.heap.size + j) X.length (mulL X.length).length) (gL (X ++ mulL X.length), μ) (X.length + j)) (H1 := T1.heap) hC hR hE hL hret hw (by rw [hlen]; decide) (by rw [hlen]; exact h6) hold (fun _ _ => rfl) ((hE.2.1.kept hk).app (fun k x hx => ?_)) (va_D_many hE.2.2.1 hE.2.1 _ _ (fun q hq => hE.2.2.2.2.1 q (Nat.le_trans hS.1 hq))) ⟨Nat.le_trans hS.1 (by omega), fun x g1 g2 => (fo x (Nat.lt_of_lt_of_le g1 hS.1)).trans (hS.2.1 x g1 g2), hS.2.2⟩ kk
  · obtain ⟨t, a1, b1⟩ := hW1 T1 rfl X1
    exact ⟨t, step t a1, b1⟩
  · rw [List.getElem?_map] at hx
    obtain ⟨j, hj, rfl⟩ := Option.map_eq_some_iff.mp hx
    have hj13 : j < 13 := by
      have := List.mem_range.mp (List.mem_of_getElem? hj)
      rw [hlen] at this
      exact this
    show va_at D cls7 (T.heap.size + j, ob tc _ _ (X.length + j)) T1.heap
    rcases Nat.eq_zero_or_pos j with rfl | hpos
    · have hat : (X ++ mulL X.length)[X.length + 0]? = some (15, 12, (List.range 12).map (fun j => some (X.length + 1 + j))) := by rw [Nat.add_zero, List.getElem?_append_right (Nat.le_refl _), Nat.sub_self]; rfl
      rw [ob_r (w := (gL (X ++ mulL X.length), μ)) (isA_L hat (by decide)) (by decide)]
      show T1.heap[T.heap.size]? = some (vp_cell _ _)
      rw [f2', grd_O, vp_cell_q]
      refine congrArg some (arrV_cg (fun i hi => ?_))
      dsimp only
      rw [if_pos hi, gL_at hat]
      dsimp only
      rw [List.getD_eq_getElem?_getD, List.getElem?_map, List.getElem?_range hi]
      show _ = Value.ref (adU ad (fun j => T.heap.size + j) X.length (mulL X.length).length (X.length + 1 + i))
      rw [Nat.add_assoc X.length, adU_new ad _ (by rw [hlen]; omega), Nat.add_assoc]
    · have hat : (X ++ mulL X.length)[X.length + j]? = some (10, 12, []) := by
        rw [List.getElem?_append_right (Nat.le_add_right _ _), Nat.add_sub_cancel_left]
        unfold mulL
        obtain ⟨j', rfl⟩ : ∃ j', j = j' + 1 := ⟨j - 1, by omega⟩
        rw [List.getElem?_cons_succ, List.getElem?_replicate, if_pos (by omega)]
      rw [ob_i (w := (gL (X ++ mulL X.length), μ)) (isA_L hat (by decide)) (by decide) (by decide)]
      show T1.heap[T.heap.size + j]? = some (vp_cell _ _)
      rw [show T.heap.size + j = T.heap.size + 1 + (j - 1) by omega, fi (j - 1) (by omega), vp_cell_i]
      rw [grd_I]
      refine congrArg some (arrV_cg (fun i _ => ?_))
      dsimp only
      rw [(hz (X.length + j) (Nat.le_add_right _ _)).1 i]
end JM
