/-! PROGRAM: CASES cut, aimed, weighed; DEEDS undone; a Program taken from another -/
theorem cs_ext {a c : List Cs} (hl : a.length = c.length) (h : ∀ k, k < a.length → cg a k = cg c k) : a = c := by
  apply List.ext_getElem hl
  intro k h1 h2
  have := h k h1
  unfold cg at this
  rw [List.getD_eq_getElem?_getD, List.getD_eq_getElem?_getD, List.getElem?_eq_getElem h1, List.getElem?_eq_getElem h2] at this
  exact this
theorem cg_set {cs : List Cs} {i k : Nat} {v : Cs} (hi : i < cs.length) : cg (cs.set i v) k = if k = i then v else cg cs k := by
  unfold cg
  rw [List.getD_eq_getElem?_getD, List.getD_eq_getElem?_getD, List.getElem?_set]
  by_cases h : k = i
  · subst h
    rw [if_pos rfl, if_pos rfl, if_pos hi]
    rfl
  · rw [if_neg h, if_neg (fun q => h q.symm)]
theorem lo_lt {cs : List Cs} (ho : OkC cs) : ∀ k k', k < k' → k' < cs.length → (cg cs k).2.1 < (cg cs k').1
  | k, 0, h, _ => absurd h (Nat.not_lt_zero k)
  | k, k' + 1, h, hl => by
    have h1 := ho.2 k' hl
    by_cases e : k = k'
    · subst e; exact h1
    · have h2 := lo_lt ho k k' (by omega) (by omega)
      have h3 := (ho.1 k' (by omega)).1
      exact Int32.lt_trans h2 (Int32.lt_of_le_of_lt h3 h1)
theorem lo_mono {cs : List Cs} (ho : OkC cs) {k k' : Nat} (h : k < k') (hl : k' < cs.length) : (cg cs k).1 < (cg cs k').1 := Int32.lt_of_le_of_lt (ho.1 k (by omega)).1 (lo_lt ho k k' h hl)
theorem posF_is {cs : List Cs} {lo : Int32} {p : Nat} : ∀ n, p ≤ n → (∀ k, p ≤ k → k < n → lo < (cg cs k).1) → (p = 0 ∨ ¬ lo < (cg cs (p - 1)).1) → posF cs lo n = p
  | 0, h, _, _ => by show 0 = p; omega
  | n + 1, h, h1, h2 => by
    rw [posF_succ]
    by_cases e : p = n + 1
    · subst e
      exact if_neg (h2.resolve_left (by omega))
    · rw [if_pos (h1 n (by omega) (by omega))]
      exact posF_is n (by omega) (fun k a c => h1 k a (by omega)) h2
theorem ins_era {cs : List Cs} (ho : OkC cs) {i : Nat} (hi : i < cs.length) : insF (cs.eraseIdx i) (cg cs i) = cs := by
  have hel : (cs.eraseIdx i).length = cs.length - 1 := List.length_eraseIdx_of_lt hi
  have hp : posF (cs.eraseIdx i) (cg cs i).1 (cs.eraseIdx i).length = i := by
    refine posF_is _ (by omega) (fun k h1 h2 => ?_) ?_
    · rw [cg_era, if_neg (by omega)]
      exact lo_mono ho (by omega) (by omega)
    · by_cases e : i = 0
      · exact Or.inl e
      · refine Or.inr (fun q => ?_)
        rw [cg_era, if_pos (by omega)] at q
        exact absurd (lo_mono ho (k := i - 1) (k' := i) (by omega) hi) (Int32.not_lt.mpr (Int32.le_of_lt q))
  unfold insF
  rw [hp]
  refine cs_ext (by rw [insA_len (by omega)]; omega) (fun k hk => ?_)
  rw [insA_len (by omega)] at hk
  rw [cg_insA (by omega), cg_era, cg_era]
  by_cases h1 : k < i
  · rw [if_pos h1, if_pos h1]
  · rw [if_neg h1]
    by_cases h2 : k = i
    · rw [if_pos h2, h2]
    · rw [if_neg h2, if_neg (by omega), show k - 1 + 1 = k by omega]
theorem setA_len (cs : List Cs) (i a : Nat) : (setA cs i a).length = cs.length := List.length_set
theorem setW_len (cs : List Cs) (i a : Nat) : (setW cs i a).length = cs.length := List.length_set
theorem setA_back {cs : List Cs} {i a : Nat} (hi : i < cs.length) : setA (setA cs i a) i (cg cs i).2.2.1 = cs := by
  refine cs_ext (by rw [setA_len, setA_len]) (fun k _ => ?_)
  have h1 : cg (setA cs i a) i = ((cg cs i).1, (cg cs i).2.1, a, (cg cs i).2.2.2) := (cg_set hi).trans (if_pos rfl)
  unfold setA at h1 ⊢
  rw [cg_set (by rw [List.length_set]; exact hi), h1]
  by_cases e : k = i
  · rw [if_pos e, e]
  · rw [if_neg e, cg_set hi, if_neg e]
theorem setW_back {cs : List Cs} {i a : Nat} (hi : i < cs.length) : setW (setW cs i a) i (cg cs i).2.2.2 = cs := by
  refine cs_ext (by rw [setW_len, setW_len]) (fun k _ => ?_)
  have h1 : cg (setW cs i a) i = ((cg cs i).1, (cg cs i).2.1, (cg cs i).2.2.1, a) := (cg_set hi).trans (if_pos rfl)
  unfold setW at h1 ⊢
  rw [cg_set (by rw [List.length_set]; exact hi), h1]
  by_cases e : k = i
  · rw [if_pos e, e]
  · rw [if_neg e, cg_set hi, if_neg e]
theorem AbC.setA {μ : Mm} {b : Nat} {cs : List Cs} (h : AbC μ b cs) {i : Nat} (hi : i < cs.length) (a : Nat) : AbC (wI μ (b + 3) i (nI a)) b (setA cs i a) := by
  refine AbC.of ?_ (by rw [setA_len]; exact h.2.1) (fun j hj k hk => ?_)
  · rw [wI_n (by omega), setA_len]; exact h.1
  · rw [setA_len] at hk
    have hc := cg_set (cs := cs) (k := k) (v := ((cg cs i).1, (cg cs i).2.1, a, (cg cs i).2.2.2)) hi
    by_cases e : k = i
    · subst e
      rw [if_pos rfl] at hc
      by_cases e2 : j = 2
      · subst e2
        rw [wI_e]
        exact (congrArg (fun z => nI z.2.2.1) hc).symm
      · rw [wI_n (by omega), h.j j hj k hk]
        match j, hj with
        | 0, _ => exact (congrArg (fun z => z.1) hc).symm
        | 1, _ => exact (congrArg (fun z => z.2.1) hc).symm
        | 2, _ => omega
        | 3, _ => exact (congrArg (fun z => nI z.2.2.2) hc).symm
    · rw [if_neg e] at hc
      rw [wI_n (by omega), h.j j hj k hk]
      exact valF_c hc.symm j
theorem AbC.setW {μ : Mm} {b : Nat} {cs : List Cs} (h : AbC μ b cs) {i : Nat} (hi : i < cs.length) (a : Nat) : AbC (wI μ (b + 4) i (nI a)) b (setW cs i a) := by
  refine AbC.of ?_ (by rw [setW_len]; exact h.2.1) (fun j hj k hk => ?_)
  · rw [wI_n (by omega), setW_len]; exact h.1
  · rw [setW_len] at hk
    have hc := cg_set (cs := cs) (k := k) (v := ((cg cs i).1, (cg cs i).2.1, (cg cs i).2.2.1, a)) hi
    by_cases e : k = i
    · subst e
      rw [if_pos rfl] at hc
      by_cases e2 : j = 3
      · subst e2
        rw [wI_e]
        exact (congrArg (fun z => nI z.2.2.2) hc).symm
      · rw [wI_n (by omega), h.j j hj k hk]
        match j, hj with
        | 0, _ => exact (congrArg (fun z => z.1) hc).symm
        | 1, _ => exact (congrArg (fun z => z.2.1) hc).symm
        | 2, _ => exact (congrArg (fun z => nI z.2.2.1) hc).symm
        | 3, _ => omega
    · rw [if_neg e] at hc
      rw [wI_n (by omega), h.j j hj k hk]
      exact valF_c hc.symm j
def Ppg (b : Nat) (c k : Nat) : Prop := Pcs b c k ∨ Pdd b c k
theorem rd_ce {μ : Mm} {a0 sp a1 dp n k : Nat} {x : Int32} (h : dp ≤ k) (h2 : k < dp + n) (he : μ.1 a0 (sp + (k - dp)) = x) : (cpI μ a0 sp a1 dp n).1 a1 k = x := (cpI_e h h2).trans he
section PR
variable {G : Gm} {μ : Mm} {b d : Nat} {cs : List Cs} {hs : List (List Cs)}
theorem p_cutCase (hP : IsP G b) (hc : AbC μ b cs) (ho : OkC cs) (hh : AbH μ b cs hs) (h40 : hs.length < 40) {i : Nat} (hi : i < cs.length) : Sv mX1_cutCase (d+2) [.ref b, .int (nI i)] G μ (fun μ' => AbC μ' b (cs.eraseIdx i) ∧ AbH μ' b (cs.eraseIdx i) (hs ++ [cs]) ∧ Fr μ μ' (Ppg b)) := by
  have hP0 := hP
  obtain ⟨hO, -⟩ := hP
  refine Sv_of (ls := [.ref b, .int (nI i)]) (by decide +kernel) (Nat.le_of_ble_eq_true rfl) rfl ?_
  refine J_aload_n (i := 0) qX1_cutCase_0 rfl rfl ?_
  refine J_pushI qX1_cutCase_1 ?_
  refine J_iload_n (i := 1) qX1_cutCase_2 rfl rfl ?_
  refine J_vv2 qX1_cutCase_3 kX1_72 (by assumption) (p_noteDeed hP0 hc hh.1 h40 2 hi) (Nat.le_of_ble_eq_true rfl) (fun ν hr => ?_)
  obtain rfl := hr
  refine J_aload_n (i := 0) qX1_cutCase_6 rfl rfl ?_
  refine J_iload_n (i := 1) qX1_cutCase_7 rfl rfl ?_
  refine J_vv1 qX1_cutCase_8 kX1_76 (by assumption) (p_remove hP0 (hc.fr recM_fr (fun _ _ => pdd_pcs)) hi) (Nat.le_of_ble_eq_true rfl) (fun ν hr => ?_)
  obtain ⟨hc2, hF⟩ := hr
  refine Jv_ret qX1_cutCase_11 ?_
  have hel : (cs.eraseIdx i).length = cs.length - 1 := List.length_eraseIdx_of_lt hi
  have hr6 : ∀ j, j < 6 → ν.1 (b + 5 + j) hs.length = recV 2 i cs j := fun j hj => (hF.1 _ _ (fun q => pcs_pdd q (Or.inl ⟨by omega, by omega⟩))).trans (recM_e hj)
  refine ⟨hc2, AbH.push hh h40 (fun j hj e he => ?_) ?_ ?_, Fr.tr (recM_fr.mono (fun _ _ => Or.inr)) (hF.mono (fun _ _ => Or.inl))⟩
  · rw [hF.1 _ _ (fun q => pcs_pdd q (Or.inl ⟨by omega, by omega⟩))]
    exact recM_n (by omega) (by omega)
  · rw [hF.1 _ _ (fun q => pcs_pdd q (Or.inr ⟨rfl, rfl⟩))]
    exact wI_e _ _ _ _
  · refine Or.inr (Or.inr (Or.inl ⟨hr6 0 (by omega), by have := hc.2.1; omega, (cg cs i).2.2.1, (cg cs i).2.2.2, hr6 4 (by omega), hr6 5 (by omega), ?_⟩))
    have e1 : ν.1 (b + 7) hs.length = (cg cs i).1 := hr6 2 (by omega)
    have e2 : ν.1 (b + 8) hs.length = (cg cs i).2.1 := hr6 3 (by omega)
    rw [e1, e2]
    exact (ins_era ho hi).symm
theorem p_aimCase (hP : IsP G b) (hc : AbC μ b cs) (hh : AbH μ b cs hs) (h40 : hs.length < 40) {i : Nat} (hi : i < cs.length) (a : Nat) : Sv mX1_aimCase (d+2) [.ref b, .int (nI i), .int (nI a)] G μ (fun μ' => AbC μ' b (setA cs i a) ∧ AbH μ' b (setA cs i a) (hs ++ [cs]) ∧ Fr μ μ' (Ppg b)) := by
  have hP0 := hP
  obtain ⟨hO, ⟨r0, r1, r2, r3⟩, -, ⟨a1, a2, a3, a4⟩, -⟩ := hP
  have h12 := hc.2.1
  refine Sv_of (ls := [.ref b, .int (nI i), .int (nI a)]) (by decide +kernel) (Nat.le_of_ble_eq_true rfl) rfl ?_
  refine J_aload_n (i := 0) qX1_aimCase_0 rfl rfl ?_
  refine J_pushI qX1_aimCase_1 ?_
  refine J_iload_n (i := 1) qX1_aimCase_2 rfl rfl ?_
  refine J_vv2 qX1_aimCase_3 kX1_72 (by assumption) (p_noteDeed hP0 hc hh.1 h40 3 hi) (Nat.le_of_ble_eq_true rfl) (fun ν hr => ?_)
  obtain rfl := hr
  refine J_aload_n (i := 0) qX1_aimCase_6 rfl rfl ?_
  refine J_getR qX1_aimCase_7 fX1_18 (by assumption) (by assumption) ?_
  refine J_iload_n (i := 1) qX1_aimCase_10 rfl rfl ?_
  refine J_iload_n (i := 2) qX1_aimCase_11 rfl rfl ?_
  refine J_iast qX1_aimCase_12 (by assumption) rfl (by omega) ?_
  refine Jv_ret qX1_aimCase_13 ?_
  have hr6 : ∀ j, j < 6 → (wI (recM μ b hs.length 3 i cs) (b + 3) i (nI a)).1 (b + 5 + j) hs.length = recV 3 i cs j := fun j hj => (wI_n (by omega)).trans (recM_e hj)
  refine ⟨(hc.fr recM_fr (fun _ _ => pdd_pcs)).setA hi a, AbH.push hh h40 (fun j hj e he => ?_) ?_ ?_, Fr.w (recM_fr.mono (fun _ _ => Or.inr)) (Or.inl (Or.inl ⟨by omega, by omega⟩))⟩
  · rw [wI_n (by omega)]
    exact recM_n (by omega) (by omega)
  · rw [wI_n (by omega)]
    exact wI_e _ _ _ _
  · exact Or.inr (Or.inr (Or.inr (Or.inl ⟨hr6 0 (by omega), i, (cg cs i).2.2.1, by rw [setA_len]; exact hi, hr6 1 (by omega), hr6 4 (by omega), (setA_back hi).symm⟩)))
theorem p_weighCase (hP : IsP G b) (hc : AbC μ b cs) (hh : AbH μ b cs hs) (h40 : hs.length < 40) {i : Nat} (hi : i < cs.length) (a : Nat) : Sv mX1_weighCase (d+2) [.ref b, .int (nI i), .int (nI a)] G μ (fun μ' => AbC μ' b (setW cs i a) ∧ AbH μ' b (setW cs i a) (hs ++ [cs]) ∧ Fr μ μ' (Ppg b)) := by
  have hP0 := hP
  obtain ⟨hO, ⟨r0, r1, r2, r3⟩, -, ⟨a1, a2, a3, a4⟩, -⟩ := hP
  have h12 := hc.2.1
  refine Sv_of (ls := [.ref b, .int (nI i), .int (nI a)]) (by decide +kernel) (Nat.le_of_ble_eq_true rfl) rfl ?_
  refine J_aload_n (i := 0) qX1_weighCase_0 rfl rfl ?_
  refine J_pushI qX1_weighCase_1 ?_
  refine J_iload_n (i := 1) qX1_weighCase_2 rfl rfl ?_
  refine J_vv2 qX1_weighCase_3 kX1_72 (by assumption) (p_noteDeed hP0 hc hh.1 h40 4 hi) (Nat.le_of_ble_eq_true rfl) (fun ν hr => ?_)
  obtain rfl := hr
  refine J_aload_n (i := 0) qX1_weighCase_6 rfl rfl ?_
  refine J_getR qX1_weighCase_7 fX1_21 (by assumption) (by assumption) ?_
  refine J_iload_n (i := 1) qX1_weighCase_10 rfl rfl ?_
  refine J_iload_n (i := 2) qX1_weighCase_11 rfl rfl ?_
  refine J_iast qX1_weighCase_12 (by assumption) rfl (by omega) ?_
  refine Jv_ret qX1_weighCase_13 ?_
  have hr6 : ∀ j, j < 6 → (wI (recM μ b hs.length 4 i cs) (b + 4) i (nI a)).1 (b + 5 + j) hs.length = recV 4 i cs j := fun j hj => (wI_n (by omega)).trans (recM_e hj)
  refine ⟨(hc.fr recM_fr (fun _ _ => pdd_pcs)).setW hi a, AbH.push hh h40 (fun j hj e he => ?_) ?_ ?_, Fr.w (recM_fr.mono (fun _ _ => Or.inr)) (Or.inl (Or.inl ⟨by omega, by omega⟩))⟩
  · rw [wI_n (by omega)]
    exact recM_n (by omega) (by omega)
  · rw [wI_n (by omega)]
    exact wI_e _ _ _ _
  · exact Or.inr (Or.inr (Or.inr (Or.inr ⟨hr6 0 (by omega), i, (cg cs i).2.2.2, by rw [setW_len]; exact hi, hr6 1 (by omega), hr6 5 (by omega), (setW_back hi).symm⟩)))
theorem p_undoLatest (hP : IsP G b) {pv : List Cs} (hc : AbC μ b cs) (hh : AbH μ b cs (hs ++ [pv])) : Sv mX1_undoLatest (d+2) [.ref b] G μ (fun μ' => AbC μ' b pv ∧ AbH μ' b pv hs ∧ Fr μ μ' (Ppg b)) := by
  have hP0 := hP
  obtain ⟨hO, ⟨r0, r1, r2, r3⟩, ⟨r6, r7, r8, r9, r10, r11⟩, ⟨a1, a2, a3, a4⟩, ⟨a5, a6, a7, a8, a9, a10⟩⟩ := hP
  have hd : μ.1 b 12 = nI (hs.length + 1) := by rw [hh.1]; simp
  have h40 : hs.length + 1 ≤ 40 := by have := hh.2.1; simp at this; omega
  have h12 := hc.2.1
  refine Sv_of (ls := [.ref b, .null]) (by decide +kernel) (Nat.le_of_ble_eq_true rfl) rfl ?_
  refine J_aload_n (i := 0) qX1_undoLatest_0 rfl rfl ?_
  refine J_getIe qX1_undoLatest_1 fX1_49 (by assumption) (by (repeat first | with_reducible exact wI_e _ _ _ _ | (with_reducible apply rd_s; focus omega) | (with_reducible apply rd_c; focus omega) | (with_reducible apply rd_k; focus omega) | with_reducible exact rd_e (by omega)); first | done | assumption | rfl) ?_
  refine J_pushI qX1_undoLatest_4 ?_
  first | with_reducible refine J_icmp_ge_n qX1_undoLatest_5 (by omega) (by omega) (fun c => ?_) (fun c => ?_) | refine J_icmp_ge qX1_undoLatest_5 (fun c => ?_) (fun c => ?_)
  · have hF0 : Fr μ (wI μ b 12 (nI (hs.length + 1 - 1))) (Pdd b) := Fr.w Fr.rf (Or.inr ⟨rfl, rfl⟩)
    have hcν := hc.fr hF0 (fun _ _ => pdd_pcs)
    have hrec : ∀ ν : Mm, Fr (wI μ b 12 (nI (hs.length + 1 - 1))) ν (Pcs b) → AbH ν b pv hs ∧ Fr μ ν (Ppg b) := fun ν hF => by
      refine ⟨AbH.pop hh (fun j hj e he => ?_) ?_, Fr.tr (hF0.mono (fun _ _ => Or.inr)) (hF.mono (fun _ _ => Or.inl))⟩
      · rw [hF.1 _ _ (fun q => pcs_pdd q (Or.inl ⟨by omega, by omega⟩))]
        exact wI_n (by omega)
      · rw [hF.1 _ _ (fun q => pcs_pdd q (Or.inr ⟨rfl, rfl⟩))]
        exact wI_e _ _ _ _
    rcases hh.top with ⟨e0, rfl⟩ | ⟨e0, i, hi, e1, rfl⟩ | ⟨e0, hl, a, w, e1, e2, rfl⟩ | ⟨e0, i, a, hi, e1, e2, rfl⟩ | ⟨e0, i, w, hi, e1, e2, rfl⟩
    · refine J_aload_n (i := 0) qX1_undoLatest_9 rfl rfl ?_
      refine J_dup qX1_undoLatest_10 rfl ?_
      refine J_getIe qX1_undoLatest_11 fX1_49 (by assumption) (by (repeat first | with_reducible exact wI_e _ _ _ _ | (with_reducible apply rd_s; focus omega) | (with_reducible apply rd_c; focus omega) | (with_reducible apply rd_k; focus omega) | with_reducible exact rd_e (by omega)); first | done | assumption | rfl) ?_
      refine J_pushI qX1_undoLatest_14 ?_
      first | with_reducible refine J_isub_n qX1_undoLatest_15 (by omega) ?_ | refine J_isub qX1_undoLatest_15 ?_
      refine J_putI qX1_undoLatest_16 fX1_49p (by assumption) rfl rfl ?_
      refine J_aload_n (i := 0) qX1_undoLatest_19 rfl rfl ?_
      refine J_getR qX1_undoLatest_20 fX1_34 (by assumption) (by assumption) ?_
      refine J_aload_n (i := 0) qX1_undoLatest_23 rfl rfl ?_
      refine J_getIe qX1_undoLatest_24 fX1_49 (by assumption) (by (repeat first | with_reducible exact wI_e _ _ _ _ | (with_reducible apply rd_s; focus omega) | (with_reducible apply rd_c; focus omega) | (with_reducible apply rd_k; focus omega) | with_reducible exact rd_e (by omega)); first | done | assumption | rfl) ?_
      refine J_ialde qX1_undoLatest_27 (by assumption) rfl (by omega) (by (repeat first | with_reducible exact wI_e _ _ _ _ | (with_reducible apply rd_s; focus omega) | (with_reducible apply rd_c; focus omega) | (with_reducible apply rd_k; focus omega) | with_reducible exact rd_e (by omega)); first | done | assumption | rfl) ?_
      refine J_ist1 qX1_undoLatest_28 (Nat.le_of_ble_eq_true rfl) rfl ?_
      refine J_aload_n (i := 0) qX1_undoLatest_29 rfl rfl ?_
      refine J_getR qX1_undoLatest_30 fX1_31 (by assumption) (by assumption) ?_
      refine J_aload_n (i := 0) qX1_undoLatest_33 rfl rfl ?_
      refine J_getIe qX1_undoLatest_34 fX1_49 (by assumption) (by (repeat first | with_reducible exact wI_e _ _ _ _ | (with_reducible apply rd_s; focus omega) | (with_reducible apply rd_c; focus omega) | (with_reducible apply rd_k; focus omega) | with_reducible exact rd_e (by omega)); first | done | assumption | rfl) ?_
      refine J_ialde qX1_undoLatest_37 (by assumption) rfl (by omega) (by (repeat first | with_reducible exact wI_e _ _ _ _ | (with_reducible apply rd_s; focus omega) | (with_reducible apply rd_c; focus omega) | (with_reducible apply rd_k; focus omega) | with_reducible exact rd_e (by omega)); first | done | assumption | rfl) ?_
      refine J_tabOut (tgt := 156) qX1_undoLatest_38 (by decide) (by decide) ?_
      refine Jv_ret qX1_undoLatest_156 ?_
      exact ⟨hcν, hrec _ Fr.rf⟩
    · refine J_aload_n (i := 0) qX1_undoLatest_9 rfl rfl ?_
      refine J_dup qX1_undoLatest_10 rfl ?_
      refine J_getIe qX1_undoLatest_11 fX1_49 (by assumption) (by (repeat first | with_reducible exact wI_e _ _ _ _ | (with_reducible apply rd_s; focus omega) | (with_reducible apply rd_c; focus omega) | (with_reducible apply rd_k; focus omega) | with_reducible exact rd_e (by omega)); first | done | assumption | rfl) ?_
      refine J_pushI qX1_undoLatest_14 ?_
      first | with_reducible refine J_isub_n qX1_undoLatest_15 (by omega) ?_ | refine J_isub qX1_undoLatest_15 ?_
      refine J_putI qX1_undoLatest_16 fX1_49p (by assumption) rfl rfl ?_
      refine J_aload_n (i := 0) qX1_undoLatest_19 rfl rfl ?_
      refine J_getR qX1_undoLatest_20 fX1_34 (by assumption) (by assumption) ?_
      refine J_aload_n (i := 0) qX1_undoLatest_23 rfl rfl ?_
      refine J_getIe qX1_undoLatest_24 fX1_49 (by assumption) (by (repeat first | with_reducible exact wI_e _ _ _ _ | (with_reducible apply rd_s; focus omega) | (with_reducible apply rd_c; focus omega) | (with_reducible apply rd_k; focus omega) | with_reducible exact rd_e (by omega)); first | done | assumption | rfl) ?_
      refine J_ialde qX1_undoLatest_27 (by assumption) rfl (by omega) (by (repeat first | with_reducible exact wI_e _ _ _ _ | (with_reducible apply rd_s; focus omega) | (with_reducible apply rd_c; focus omega) | (with_reducible apply rd_k; focus omega) | with_reducible exact rd_e (by omega)); first | done | assumption | rfl) ?_
      refine J_ist1 qX1_undoLatest_28 (Nat.le_of_ble_eq_true rfl) rfl ?_
      refine J_aload_n (i := 0) qX1_undoLatest_29 rfl rfl ?_
      refine J_getR qX1_undoLatest_30 fX1_31 (by assumption) (by assumption) ?_
      refine J_aload_n (i := 0) qX1_undoLatest_33 rfl rfl ?_
      refine J_getIe qX1_undoLatest_34 fX1_49 (by assumption) (by (repeat first | with_reducible exact wI_e _ _ _ _ | (with_reducible apply rd_s; focus omega) | (with_reducible apply rd_c; focus omega) | (with_reducible apply rd_k; focus omega) | with_reducible exact rd_e (by omega)); first | done | assumption | rfl) ?_
      refine J_ialde qX1_undoLatest_37 (by assumption) rfl (by omega) (by (repeat first | with_reducible exact wI_e _ _ _ _ | (with_reducible apply rd_s; focus omega) | (with_reducible apply rd_c; focus omega) | (with_reducible apply rd_k; focus omega) | with_reducible exact rd_e (by omega)); first | done | assumption | rfl) ?_
      refine J_tabIn (tgt := 68) qX1_undoLatest_38 (by decide) (by decide) rfl (by decide) ?_
      refine J_aload_n (i := 0) qX1_undoLatest_68 rfl rfl ?_
      refine J_iload_n (i := 1) qX1_undoLatest_69 rfl rfl ?_
      refine J_vv1 qX1_undoLatest_70 kX1_76 (by assumption) (p_remove hP0 hcν hi) (Nat.le_of_ble_eq_true rfl) (fun ν hr => ?_)
      obtain ⟨hc2, hF⟩ := hr
      refine J_goto qX1_undoLatest_73 ?_
      refine Jv_ret qX1_undoLatest_156 ?_
      exact ⟨hc2, hrec _ hF⟩
    · refine J_aload_n (i := 0) qX1_undoLatest_9 rfl rfl ?_
      refine J_dup qX1_undoLatest_10 rfl ?_
      refine J_getIe qX1_undoLatest_11 fX1_49 (by assumption) (by (repeat first | with_reducible exact wI_e _ _ _ _ | (with_reducible apply rd_s; focus omega) | (with_reducible apply rd_c; focus omega) | (with_reducible apply rd_k; focus omega) | with_reducible exact rd_e (by omega)); first | done | assumption | rfl) ?_
      refine J_pushI qX1_undoLatest_14 ?_
      first | with_reducible refine J_isub_n qX1_undoLatest_15 (by omega) ?_ | refine J_isub qX1_undoLatest_15 ?_
      refine J_putI qX1_undoLatest_16 fX1_49p (by assumption) rfl rfl ?_
      refine J_aload_n (i := 0) qX1_undoLatest_19 rfl rfl ?_
      refine J_getR qX1_undoLatest_20 fX1_34 (by assumption) (by assumption) ?_
      refine J_aload_n (i := 0) qX1_undoLatest_23 rfl rfl ?_
      refine J_getIe qX1_undoLatest_24 fX1_49 (by assumption) (by (repeat first | with_reducible exact wI_e _ _ _ _ | (with_reducible apply rd_s; focus omega) | (with_reducible apply rd_c; focus omega) | (with_reducible apply rd_k; focus omega) | with_reducible exact rd_e (by omega)); first | done | assumption | rfl) ?_
      refine J_ialde qX1_undoLatest_27 (by assumption) rfl (by omega) (by (repeat first | with_reducible exact wI_e _ _ _ _ | (with_reducible apply rd_s; focus omega) | (with_reducible apply rd_c; focus omega) | (with_reducible apply rd_k; focus omega) | with_reducible exact rd_e (by omega)); first | done | assumption | rfl) ?_
      refine J_ist1 qX1_undoLatest_28 (Nat.le_of_ble_eq_true rfl) rfl ?_
      refine J_aload_n (i := 0) qX1_undoLatest_29 rfl rfl ?_
      refine J_getR qX1_undoLatest_30 fX1_31 (by assumption) (by assumption) ?_
      refine J_aload_n (i := 0) qX1_undoLatest_33 rfl rfl ?_
      refine J_getIe qX1_undoLatest_34 fX1_49 (by assumption) (by (repeat first | with_reducible exact wI_e _ _ _ _ | (with_reducible apply rd_s; focus omega) | (with_reducible apply rd_c; focus omega) | (with_reducible apply rd_k; focus omega) | with_reducible exact rd_e (by omega)); first | done | assumption | rfl) ?_
      refine J_ialde qX1_undoLatest_37 (by assumption) rfl (by omega) (by (repeat first | with_reducible exact wI_e _ _ _ _ | (with_reducible apply rd_s; focus omega) | (with_reducible apply rd_c; focus omega) | (with_reducible apply rd_k; focus omega) | with_reducible exact rd_e (by omega)); first | done | assumption | rfl) ?_
      refine J_tabIn (tgt := 76) qX1_undoLatest_38 (by decide) (by decide) rfl (by decide) ?_
      refine J_aload_n (i := 0) qX1_undoLatest_76 rfl rfl ?_
      refine J_aload_n (i := 0) qX1_undoLatest_77 rfl rfl ?_
      refine J_getR qX1_undoLatest_78 fX1_37 (by assumption) (by assumption) ?_
      refine J_aload_n (i := 0) qX1_undoLatest_81 rfl rfl ?_
      refine J_getIe qX1_undoLatest_82 fX1_49 (by assumption) (by (repeat first | with_reducible exact wI_e _ _ _ _ | (with_reducible apply rd_s; focus omega) | (with_reducible apply rd_c; focus omega) | (with_reducible apply rd_k; focus omega) | with_reducible exact rd_e (by omega)); first | done | assumption | rfl) ?_
      refine J_ialde qX1_undoLatest_85 (by assumption) rfl (by omega) (by (repeat first | with_reducible exact wI_e _ _ _ _ | (with_reducible apply rd_s; focus omega) | (with_reducible apply rd_c; focus omega) | (with_reducible apply rd_k; focus omega) | with_reducible exact rd_e (by omega)); first | done | assumption | rfl) ?_
      refine J_aload_n (i := 0) qX1_undoLatest_86 rfl rfl ?_
      refine J_getR qX1_undoLatest_87 fX1_40 (by assumption) (by assumption) ?_
      refine J_aload_n (i := 0) qX1_undoLatest_90 rfl rfl ?_
      refine J_getIe qX1_undoLatest_91 fX1_49 (by assumption) (by (repeat first | with_reducible exact wI_e _ _ _ _ | (with_reducible apply rd_s; focus omega) | (with_reducible apply rd_c; focus omega) | (with_reducible apply rd_k; focus omega) | with_reducible exact rd_e (by omega)); first | done | assumption | rfl) ?_
      refine J_ialde qX1_undoLatest_94 (by assumption) rfl (by omega) (by (repeat first | with_reducible exact wI_e _ _ _ _ | (with_reducible apply rd_s; focus omega) | (with_reducible apply rd_c; focus omega) | (with_reducible apply rd_k; focus omega) | with_reducible exact rd_e (by omega)); first | done | assumption | rfl) ?_
      refine J_aload_n (i := 0) qX1_undoLatest_95 rfl rfl ?_
      refine J_getR qX1_undoLatest_96 fX1_43 (by assumption) (by assumption) ?_
      refine J_aload_n (i := 0) qX1_undoLatest_99 rfl rfl ?_
      refine J_getIe qX1_undoLatest_100 fX1_49 (by assumption) (by (repeat first | with_reducible exact wI_e _ _ _ _ | (with_reducible apply rd_s; focus omega) | (with_reducible apply rd_c; focus omega) | (with_reducible apply rd_k; focus omega) | with_reducible exact rd_e (by omega)); first | done | assumption | rfl) ?_
      refine J_ialde qX1_undoLatest_103 (by assumption) rfl (by omega) (by (repeat first | with_reducible exact wI_e _ _ _ _ | (with_reducible apply rd_s; focus omega) | (with_reducible apply rd_c; focus omega) | (with_reducible apply rd_k; focus omega) | with_reducible exact rd_e (by omega)); first | done | assumption | rfl) ?_
      refine J_aload_n (i := 0) qX1_undoLatest_104 rfl rfl ?_
      refine J_getR qX1_undoLatest_105 fX1_46 (by assumption) (by assumption) ?_
      refine J_aload_n (i := 0) qX1_undoLatest_108 rfl rfl ?_
      refine J_getIe qX1_undoLatest_109 fX1_49 (by assumption) (by (repeat first | with_reducible exact wI_e _ _ _ _ | (with_reducible apply rd_s; focus omega) | (with_reducible apply rd_c; focus omega) | (with_reducible apply rd_k; focus omega) | with_reducible exact rd_e (by omega)); first | done | assumption | rfl) ?_
      refine J_ialde qX1_undoLatest_112 (by assumption) rfl (by omega) (by (repeat first | with_reducible exact wI_e _ _ _ _ | (with_reducible apply rd_s; focus omega) | (with_reducible apply rd_c; focus omega) | (with_reducible apply rd_k; focus omega) | with_reducible exact rd_e (by omega)); first | done | assumption | rfl) ?_
      refine J_vi4 qX1_undoLatest_113 kX1_68 (by assumption) (p_insert hP0 hcν _ _ a w hl) (Nat.le_of_ble_eq_true rfl) (fun r ν hr => ?_)
      obtain ⟨rfl, hc2, hF⟩ := hr
      refine J_pop qX1_undoLatest_116 rfl ?_
      refine J_goto qX1_undoLatest_117 ?_
      refine Jv_ret qX1_undoLatest_156 ?_
      exact ⟨hc2, hrec _ hF⟩
    · refine J_aload_n (i := 0) qX1_undoLatest_9 rfl rfl ?_
      refine J_dup qX1_undoLatest_10 rfl ?_
      refine J_getIe qX1_undoLatest_11 fX1_49 (by assumption) (by (repeat first | with_reducible exact wI_e _ _ _ _ | (with_reducible apply rd_s; focus omega) | (with_reducible apply rd_c; focus omega) | (with_reducible apply rd_k; focus omega) | with_reducible exact rd_e (by omega)); first | done | assumption | rfl) ?_
      refine J_pushI qX1_undoLatest_14 ?_
      first | with_reducible refine J_isub_n qX1_undoLatest_15 (by omega) ?_ | refine J_isub qX1_undoLatest_15 ?_
      refine J_putI qX1_undoLatest_16 fX1_49p (by assumption) rfl rfl ?_
      refine J_aload_n (i := 0) qX1_undoLatest_19 rfl rfl ?_
      refine J_getR qX1_undoLatest_20 fX1_34 (by assumption) (by assumption) ?_
      refine J_aload_n (i := 0) qX1_undoLatest_23 rfl rfl ?_
      refine J_getIe qX1_undoLatest_24 fX1_49 (by assumption) (by (repeat first | with_reducible exact wI_e _ _ _ _ | (with_reducible apply rd_s; focus omega) | (with_reducible apply rd_c; focus omega) | (with_reducible apply rd_k; focus omega) | with_reducible exact rd_e (by omega)); first | done | assumption | rfl) ?_
      refine J_ialde qX1_undoLatest_27 (by assumption) rfl (by omega) (by (repeat first | with_reducible exact wI_e _ _ _ _ | (with_reducible apply rd_s; focus omega) | (with_reducible apply rd_c; focus omega) | (with_reducible apply rd_k; focus omega) | with_reducible exact rd_e (by omega)); first | done | assumption | rfl) ?_
      refine J_ist1 qX1_undoLatest_28 (Nat.le_of_ble_eq_true rfl) rfl ?_
      refine J_aload_n (i := 0) qX1_undoLatest_29 rfl rfl ?_
      refine J_getR qX1_undoLatest_30 fX1_31 (by assumption) (by assumption) ?_
      refine J_aload_n (i := 0) qX1_undoLatest_33 rfl rfl ?_
      refine J_getIe qX1_undoLatest_34 fX1_49 (by assumption) (by (repeat first | with_reducible exact wI_e _ _ _ _ | (with_reducible apply rd_s; focus omega) | (with_reducible apply rd_c; focus omega) | (with_reducible apply rd_k; focus omega) | with_reducible exact rd_e (by omega)); first | done | assumption | rfl) ?_
      refine J_ialde qX1_undoLatest_37 (by assumption) rfl (by omega) (by (repeat first | with_reducible exact wI_e _ _ _ _ | (with_reducible apply rd_s; focus omega) | (with_reducible apply rd_c; focus omega) | (with_reducible apply rd_k; focus omega) | with_reducible exact rd_e (by omega)); first | done | assumption | rfl) ?_
      refine J_tabIn (tgt := 120) qX1_undoLatest_38 (by decide) (by decide) rfl (by decide) ?_
      refine J_aload_n (i := 0) qX1_undoLatest_120 rfl rfl ?_
      refine J_getR qX1_undoLatest_121 fX1_18 (by assumption) (by assumption) ?_
      refine J_iload_n (i := 1) qX1_undoLatest_124 rfl rfl ?_
      refine J_aload_n (i := 0) qX1_undoLatest_125 rfl rfl ?_
      refine J_getR qX1_undoLatest_126 fX1_43 (by assumption) (by assumption) ?_
      refine J_aload_n (i := 0) qX1_undoLatest_129 rfl rfl ?_
      refine J_getIe qX1_undoLatest_130 fX1_49 (by assumption) (by (repeat first | with_reducible exact wI_e _ _ _ _ | (with_reducible apply rd_s; focus omega) | (with_reducible apply rd_c; focus omega) | (with_reducible apply rd_k; focus omega) | with_reducible exact rd_e (by omega)); first | done | assumption | rfl) ?_
      refine J_ialde qX1_undoLatest_133 (by assumption) rfl (by omega) (by (repeat first | with_reducible exact wI_e _ _ _ _ | (with_reducible apply rd_s; focus omega) | (with_reducible apply rd_c; focus omega) | (with_reducible apply rd_k; focus omega) | with_reducible exact rd_e (by omega)); first | done | assumption | rfl) ?_
      refine J_iast qX1_undoLatest_134 (by assumption) rfl (by omega) ?_
      refine J_goto qX1_undoLatest_135 ?_
      refine Jv_ret qX1_undoLatest_156 ?_
      exact ⟨hcν.setA hi a, hrec _ (Fr.w Fr.rf (Or.inl ⟨by omega, by omega⟩))⟩
    · refine J_aload_n (i := 0) qX1_undoLatest_9 rfl rfl ?_
      refine J_dup qX1_undoLatest_10 rfl ?_
      refine J_getIe qX1_undoLatest_11 fX1_49 (by assumption) (by (repeat first | with_reducible exact wI_e _ _ _ _ | (with_reducible apply rd_s; focus omega) | (with_reducible apply rd_c; focus omega) | (with_reducible apply rd_k; focus omega) | with_reducible exact rd_e (by omega)); first | done | assumption | rfl) ?_
      refine J_pushI qX1_undoLatest_14 ?_
      first | with_reducible refine J_isub_n qX1_undoLatest_15 (by omega) ?_ | refine J_isub qX1_undoLatest_15 ?_
      refine J_putI qX1_undoLatest_16 fX1_49p (by assumption) rfl rfl ?_
      refine J_aload_n (i := 0) qX1_undoLatest_19 rfl rfl ?_
      refine J_getR qX1_undoLatest_20 fX1_34 (by assumption) (by assumption) ?_
      refine J_aload_n (i := 0) qX1_undoLatest_23 rfl rfl ?_
      refine J_getIe qX1_undoLatest_24 fX1_49 (by assumption) (by (repeat first | with_reducible exact wI_e _ _ _ _ | (with_reducible apply rd_s; focus omega) | (with_reducible apply rd_c; focus omega) | (with_reducible apply rd_k; focus omega) | with_reducible exact rd_e (by omega)); first | done | assumption | rfl) ?_
      refine J_ialde qX1_undoLatest_27 (by assumption) rfl (by omega) (by (repeat first | with_reducible exact wI_e _ _ _ _ | (with_reducible apply rd_s; focus omega) | (with_reducible apply rd_c; focus omega) | (with_reducible apply rd_k; focus omega) | with_reducible exact rd_e (by omega)); first | done | assumption | rfl) ?_
      refine J_ist1 qX1_undoLatest_28 (Nat.le_of_ble_eq_true rfl) rfl ?_
      refine J_aload_n (i := 0) qX1_undoLatest_29 rfl rfl ?_
      refine J_getR qX1_undoLatest_30 fX1_31 (by assumption) (by assumption) ?_
      refine J_aload_n (i := 0) qX1_undoLatest_33 rfl rfl ?_
      refine J_getIe qX1_undoLatest_34 fX1_49 (by assumption) (by (repeat first | with_reducible exact wI_e _ _ _ _ | (with_reducible apply rd_s; focus omega) | (with_reducible apply rd_c; focus omega) | (with_reducible apply rd_k; focus omega) | with_reducible exact rd_e (by omega)); first | done | assumption | rfl) ?_
      refine J_ialde qX1_undoLatest_37 (by assumption) rfl (by omega) (by (repeat first | with_reducible exact wI_e _ _ _ _ | (with_reducible apply rd_s; focus omega) | (with_reducible apply rd_c; focus omega) | (with_reducible apply rd_k; focus omega) | with_reducible exact rd_e (by omega)); first | done | assumption | rfl) ?_
      refine J_tabIn (tgt := 138) qX1_undoLatest_38 (by decide) (by decide) rfl (by decide) ?_
      refine J_aload_n (i := 0) qX1_undoLatest_138 rfl rfl ?_
      refine J_getR qX1_undoLatest_139 fX1_21 (by assumption) (by assumption) ?_
      refine J_iload_n (i := 1) qX1_undoLatest_142 rfl rfl ?_
      refine J_aload_n (i := 0) qX1_undoLatest_143 rfl rfl ?_
      refine J_getR qX1_undoLatest_144 fX1_46 (by assumption) (by assumption) ?_
      refine J_aload_n (i := 0) qX1_undoLatest_147 rfl rfl ?_
      refine J_getIe qX1_undoLatest_148 fX1_49 (by assumption) (by (repeat first | with_reducible exact wI_e _ _ _ _ | (with_reducible apply rd_s; focus omega) | (with_reducible apply rd_c; focus omega) | (with_reducible apply rd_k; focus omega) | with_reducible exact rd_e (by omega)); first | done | assumption | rfl) ?_
      refine J_ialde qX1_undoLatest_151 (by assumption) rfl (by omega) (by (repeat first | with_reducible exact wI_e _ _ _ _ | (with_reducible apply rd_s; focus omega) | (with_reducible apply rd_c; focus omega) | (with_reducible apply rd_k; focus omega) | with_reducible exact rd_e (by omega)); first | done | assumption | rfl) ?_
      refine J_iast qX1_undoLatest_152 (by assumption) rfl (by omega) ?_
      refine J_goto qX1_undoLatest_153 ?_
      refine Jv_ret qX1_undoLatest_156 ?_
      exact ⟨hcν.setW hi w, hrec _ (Fr.w Fr.rf (Or.inl ⟨by omega, by omega⟩))⟩
  · omega
end PR
