/-! COMPONENT: deeds -/
theorem OkP.push {cs cs' : List Cs} {hs : List (List Cs)} (h : OkP (cs, hs)) (h40 : hs.length < 40) (ho : OkC cs') (hl : cs'.length ≤ 12) : OkP (cs', hs ++ [cs]) :=
  ⟨ho, hl, by show (hs ++ [cs]).length ≤ 40; rw [List.length_append]; simp only [List.length_cons, List.length_nil]; omega, fun x hx => by
    rcases List.mem_append.mp hx with q | q
    · exact h.2.2.2 x q
    · rw [List.mem_singleton.mp q]; exact ⟨h.1, h.2.1⟩⟩
theorem RelX.prog {μ μ' : Mm} {s : St} {g : Pg} (h : RelX μ s) (hF : ∀ c k, ¬ ((3 ≤ c ∧ c ≤ 13) ∨ (c = 0 ∧ k = 11)) → μ'.1 c k = μ.1 c k) (hG : μ'.2 = μ.2) (hC : AbC μ' 3 g.1) (hH : AbH μ' 3 g.1 g.2) (hO : OkP g) (h5 : μ'.1 3 5 = μ.1 3 5) (h11 : μ'.1 0 11 = nI 1) : RelX μ' (uPrg s g) ∧ FrX μ μ' := by
  obtain ⟨h1, h2, h3, h4, h6, -, h7⟩ := (RelX_eq μ s).mp h
  have ag : ∀ lo hi, 13 < lo → Ag μ μ' lo hi := fun lo hi a c k x y => hF _ _ (by omega)
  refine ⟨(RelX_eq _ _).mpr ⟨h1.ag (ag _ _ (by omega)), h2.ag (ag _ _ (by omega)), ⟨hC, hH, hO, h5.trans h3.2.2.2⟩, h4.ag (ag _ _ (by omega)) (ag _ _ (by omega)), ⟨?_, ?_, ?_, fun f hf => ?_⟩, Or.inl h11, h7⟩, fun c k hc => hF _ _ (by omega), fun c k hc => by rw [hG]⟩
  · rw [hF _ _ (by omega)]; exact h6.1
  · rw [hG]; exact h6.2.1
  · rw [hF _ _ (by omega)]; exact h6.2.2.1
  · rw [hF _ _ (by omega)]; exact h6.2.2.2 f hf
theorem ppg_no {c k : Nat} (z : ¬ ((3 ≤ c ∧ c ≤ 13) ∨ (c = 0 ∧ k = 11))) : ¬ Ppg 3 c k := fun y => by unfold Ppg Pcs Pdd at y; omega
theorem ppg_5 : ¬ Ppg 3 3 5 := fun y => by unfold Ppg Pcs Pdd at y; omega
/-- planIsOld is set behind the change -/
theorem RelX.prog1 {μ μ' : Mm} {s : St} {g : Pg} (h : RelX μ s) (hF : Fr μ μ' (Ppg 3)) (hC : AbC μ' 3 g.1) (hH : AbH μ' 3 g.1 g.2) (hO : OkP g) : RelX (wI μ' 0 11 (nI 1)) (uPrg s g) ∧ FrX μ (wI μ' 0 11 (nI 1)) := by
  have ag : Ag μ' (wI μ' 0 11 (nI 1)) 3 13 := fun c k x y => wI_n (by omega)
  exact h.prog (fun c k z => by rw [wI_n (by omega)]; exact hF.1 _ _ (ppg_no z)) hF.2 (hC.ag ag) (hH.ag ag) hO (by rw [wI_n (by omega)]; exact hF.1 _ _ ppg_5) (wI_e _ _ _ _)
def addS (s : St) (lo hi a w : Int32) : Int32 × St :=
  if hi < lo ∨ hasB 8 a = false ∨ hasB 10 w = false then (-1, s) else if freeB (sP s).1 lo hi = false then (-4, s) else if 12 ≤ (sP s).1.length ∨ 40 ≤ (sP s).2.length then (-2, s)
  else (nI (posF (sP s).1 lo (sP s).1.length), uPrg s (insF (sP s).1 (lo, hi, ix a, ix w), (sP s).2 ++ [(sP s).1]))
def cutS (s : St) (i : Int32) : Int32 × St :=
  if hasB (sP s).1.length i = false then (-1, s) else if 40 ≤ (sP s).2.length then (-2, s) else (nI ((sP s).1.length - 1), uPrg s ((sP s).1.eraseIdx (ix i), (sP s).2 ++ [(sP s).1]))
def aimS (s : St) (i a : Int32) : Int32 × St :=
  if hasB (sP s).1.length i = false ∨ hasB 8 a = false then (-1, s) else if nI (cg (sP s).1 (ix i)).2.2.1 = a then (-4, s) else if 40 ≤ (sP s).2.length then (-2, s) else (nI (cg (sP s).1 (ix i)).2.2.1, uPrg s (setA (sP s).1 (ix i) (ix a), (sP s).2 ++ [(sP s).1]))
def weighS (s : St) (i a : Int32) : Int32 × St :=
  if hasB (sP s).1.length i = false ∨ hasB 10 a = false then (-1, s) else if nI (cg (sP s).1 (ix i)).2.2.2 = a then (-4, s) else if 40 ≤ (sP s).2.length then (-2, s) else (nI (cg (sP s).1 (ix i)).2.2.2, uPrg s (setW (sP s).1 (ix i) (ix a), (sP s).2 ++ [(sP s).1]))
def backF (g : Pg) (m : Nat) : Pg := ((g.2 ++ [g.1]).getD m [], g.2.take m)
def undoS (s : St) (n : Int32) : Int32 × St :=
  if hasB ((sP s).2.length + 1) n = false then (-1, s) else (nI ((sP s).2.length - ix n), uPrg s (backF (sP s) (ix n)))
def keepS (s : St) (k : Int32) : Int32 × St :=
  if hasB 3 k = false then (-1, s) else (nI (sP s).2.length, uKep s (ix k) (some (sP s)))
def onS (s : St) (k : Int32) : Int32 × St :=
  if hasB 3 k = false then (-1, s) else match sKp s (ix k) with
    | none => (-3, uFnd s 1)
    | some g => (nI g.2.length, uPrg s g)
def reachS (s : St) (x : Int32) : Int32 × St :=
  if ownF (sP s).1 x < 0 then (-9, s) else (nI (cg (sP s).1 (ix (ownF (sP s).1 x))).2.2.1, uAsk s (ownF (sP s).1 x))
theorem back_all (g : Pg) : backF g g.2.length = g := by
  unfold backF
  rw [List.take_length, gd_new]
theorem back_cs {g : Pg} {m : Nat} (h : m < g.2.length) : (backF g m).1 = g.2.getD m [] := gd_old h
theorem back_succ {g : Pg} {m : Nat} (h : m < g.2.length) : (backF g (m + 1)).2 = (backF g m).2 ++ [(backF g m).1] := by
  rw [back_cs h]
  show g.2.take (m + 1) = g.2.take m ++ [g.2.getD m []]
  rw [List.take_succ_eq_append_getElem h, List.getD_eq_getElem?_getD, List.getElem?_eq_getElem h]
  rfl
theorem back_ok {g : Pg} (h : OkP g) {m : Nat} (hm : m ≤ g.2.length) : OkP (backF g m) := by
  by_cases e : m = g.2.length
  · rw [e, back_all]; exact h
  · have h1 : (backF g m).1 ∈ g.2 := by
      rw [back_cs (by omega), List.getD_eq_getElem?_getD, List.getElem?_eq_getElem (by omega)]
      exact List.getElem_mem _
    refine ⟨(h.2.2.2 _ h1).1, (h.2.2.2 _ h1).2, ?_, fun x hx => h.2.2.2 x (List.mem_of_mem_take hx)⟩
    show (g.2.take m).length ≤ 40
    have := h.2.2.1
    rw [List.length_take]
    omega
theorem own_c (cs : List Cs) (x : Int32) : ∀ f k, ownA cs x f k = -1 ∨ ∃ i, k ≤ i ∧ i < k + f ∧ ownA cs x f k = nI i
  | 0, _ => Or.inl rfl
  | f + 1, k => by
    unfold ownA
    by_cases c : (cg cs k).1 ≤ x ∧ x ≤ (cg cs k).2.1
    · rw [if_pos c]; exact Or.inr ⟨k, Nat.le_refl _, by omega, rfl⟩
    · rw [if_neg c]
      rcases own_c cs x f (k + 1) with q | ⟨i, h1, h2, h3⟩
      · exact Or.inl q
      · exact Or.inr ⟨i, by omega, by omega, h3⟩
theorem own_is (cs : List Cs) (x : Int32) : ownF cs x = -1 ∨ ∃ i, i < cs.length ∧ ownF cs x = nI i := by
  rcases own_c cs x cs.length 0 with q | ⟨i, h1, h2, h3⟩
  · exact Or.inl q
  · exact Or.inr ⟨i, by omega, h3⟩
theorem onS_n {s : St} {j : Nat} (hb : hasB 3 (nI j) = true) (hj : j < 3) (ho : sKp s j = none) : onS s (nI j) = (-3, uFnd s 1) := by
  unfold onS; rw [if_neg (by rw [hb]; decide), ix_n (by omega), ho]
theorem onS_s {s : St} {j : Nat} {g : Pg} (hb : hasB 3 (nI j) = true) (hj : j < 3) (ho : sKp s j = some g) : onS s (nI j) = (nI g.2.length, uPrg s g) := by
  unfold onS; rw [if_neg (by rw [hb]; decide), ix_n (by omega), ho]
section XX
variable {G : Gm} {μ : Mm} {d : Nat} {s : St}
theorem x_add (hL : LayX G) (h : RelX μ s) (lo hi a w : Int32) : Si mX5_add (d+3) [.ref 0, .int lo, .int hi, .int a, .int w] G μ (fun q μ' => q = (addS s lo hi a w).1 ∧ RelX μ' (addS s lo hi a w).2 ∧ FrX μ μ') := by
  obtain ⟨hO, ⟨q0, q1, q2, q3, q4, q5, q6, q7, q8, q9, q10⟩, -, -, -, -, hp3, -⟩ := hL
  have hpo := hp3.1
  obtain ⟨x1, x2, x3, x4⟩ := h.2.2.1
  obtain ⟨k1, k2, k3, k4⟩ := x3
  have m1 := x1.1
  have m2 := x2.1
  have bad : (hi < lo ∨ hasB 8 a = false ∨ hasB 10 w = false) → J mX5_add (d+3) (0, 0) s0 (Ki G (fun q μ' => q = (addS s lo hi a w).1 ∧ RelX μ' (addS s lo hi a w).2 ∧ FrX μ μ')) (0, 0) 20 [.ref 0, .int lo, .int hi, .int a, .int w] [] (G, μ) := fun hb => by
    rw [show addS s lo hi a w = (-1, s) from if_pos hb]
    refine J_pushI qX5_add_20 ?_
    refine Ji_ret qX5_add_21 ?_
    exact ⟨rfl, h, FrX.rf⟩
  refine Si_of (ls := [.ref 0, .int lo, .int hi, .int a, .int w]) (by decide +kernel) (Nat.le_of_ble_eq_true rfl) rfl ?_
  refine J_iload_n (i := 1) qX5_add_0 rfl rfl ?_
  refine J_iload_n (i := 2) qX5_add_1 rfl rfl ?_
  refine J_icmp_gt qX5_add_2 (fun c1 => bad (Or.inl c1)) (fun c1 => ?_)
  refine J_iload_n (i := 3) qX5_add_5 rfl rfl ?_
  refine J_si1 qX5_add_6 kX5_151 (x_isAim a) (Nat.le_of_ble_eq_true rfl) (fun v1 μ' hr => ?_)
  obtain ⟨rfl, rfl⟩ := hr
  cases hb : hasB 8 a with
  | false =>
    first | refine J_if_eq qX5_add_9 (fun _ => ?_) (fun c => absurd b2i_f0 c) | refine J_if_eq qX5_add_9 (fun c => absurd c b2i_t0) (fun _ => ?_)
    exact bad (Or.inr (Or.inl hb))
  | true =>
    first | refine J_if_eq qX5_add_9 (fun _ => ?_) (fun c => absurd b2i_f0 c) | refine J_if_eq qX5_add_9 (fun c => absurd c b2i_t0) (fun _ => ?_)
    refine J_iload (i := 4) qX5_add_12 rfl ?_
    refine J_si1 qX5_add_14 kX5_154 (x_isWeight w) (Nat.le_of_ble_eq_true rfl) (fun v1 μ' hr => ?_)
    obtain ⟨rfl, rfl⟩ := hr
    cases hb2 : hasB 10 w with
    | false =>
      first | refine J_if_ne qX5_add_17 (fun c => absurd b2i_f0 c) (fun _ => ?_) | refine J_if_ne qX5_add_17 (fun _ => ?_) (fun c => absurd c b2i_t0)
      exact bad (Or.inr (Or.inr hb2))
    | true =>
      first | refine J_if_ne qX5_add_17 (fun c => absurd b2i_f0 c) (fun _ => ?_) | refine J_if_ne qX5_add_17 (fun _ => ?_) (fun c => absurd c b2i_t0)
      have hno : ¬ (hi < lo ∨ hasB 8 a = false ∨ hasB 10 w = false) := by rw [hb, hb2]; simp [c1]
      clear bad
      refine J_aload_n (i := 0) qX5_add_22 rfl rfl ?_
      refine J_getR qX5_add_23 fX5_21 (by assumption) (by assumption) ?_
      refine J_iload_n (i := 1) qX5_add_26 rfl rfl ?_
      refine J_iload_n (i := 2) qX5_add_27 rfl rfl ?_
      refine J_vi2 qX5_add_28 kX5_157 (by assumption) (p_isFree (d := d + 2) hp3 x1 lo hi) (Nat.le_of_ble_eq_true rfl) (fun v1 μ' hr => ?_)
      obtain ⟨rfl, rfl⟩ := hr
      cases hf : freeB (sP s).1 lo hi with
      | false =>
        first | refine J_if_ne qX5_add_31 (fun c => absurd b2i_f0 c) (fun _ => ?_) | refine J_if_ne qX5_add_31 (fun _ => ?_) (fun c => absurd c b2i_t0)
        rw [show addS s lo hi a w = (-4, s) from (if_neg hno).trans (if_pos hf)]
        refine J_pushI qX5_add_34 ?_
        refine Ji_ret qX5_add_36 ?_
        exact ⟨rfl, h, FrX.rf⟩
      | true =>
        first | refine J_if_ne qX5_add_31 (fun c => absurd b2i_f0 c) (fun _ => ?_) | refine J_if_ne qX5_add_31 (fun _ => ?_) (fun c => absurd c b2i_t0)
        have e1 : addS s lo hi a w = if 12 ≤ (sP s).1.length ∨ 40 ≤ (sP s).2.length then (-2, s) else (nI (posF (sP s).1 lo (sP s).1.length), uPrg s (insF (sP s).1 (lo, hi, ix a, ix w), (sP s).2 ++ [(sP s).1])) := (if_neg hno).trans (if_neg (by rw [hf]; decide))
        rw [e1]
        obtain ⟨aa, ha, rfl⟩ := hasB_of (by omega) hb
        obtain ⟨ww, hw, rfl⟩ := hasB_of (by omega) hb2
        rw [ix_n (by omega), ix_n (by omega)]
        refine J_aload_n (i := 0) qX5_add_37 rfl rfl ?_
        refine J_getR qX5_add_38 fX5_21 (by assumption) (by assumption) ?_
        refine J_getIe qX5_add_41 fX5_135 (by assumption) (by (repeat first | with_reducible exact wI_e _ _ _ _ | (with_reducible apply rd_s; focus omega) | (with_reducible apply rd_c; focus omega) | (with_reducible apply rd_k; focus omega) | with_reducible exact rd_e (by omega)); first | done | assumption | rfl) ?_
        refine J_pushI qX5_add_44 ?_
        first | with_reducible refine J_icmp_ge_n qX5_add_46 (by omega) (by omega) (fun c2 => ?_) (fun c2 => ?_) | refine J_icmp_ge qX5_add_46 (fun c2 => ?_) (fun c2 => ?_)
        · rw [if_pos (Or.inl c2)]
          refine J_pushI qX5_add_61 ?_
          refine Ji_ret qX5_add_63 ?_
          exact ⟨rfl, h, FrX.rf⟩
        · refine J_aload_n (i := 0) qX5_add_49 rfl rfl ?_
          refine J_getR qX5_add_50 fX5_21 (by assumption) (by assumption) ?_
          refine J_getIe qX5_add_53 fX5_160 (by assumption) (by (repeat first | with_reducible exact wI_e _ _ _ _ | (with_reducible apply rd_s; focus omega) | (with_reducible apply rd_c; focus omega) | (with_reducible apply rd_k; focus omega) | with_reducible exact rd_e (by omega)); first | done | assumption | rfl) ?_
          refine J_pushI qX5_add_56 ?_
          first | with_reducible refine J_icmp_lt_n qX5_add_58 (by omega) (by omega) (fun c3 => ?_) (fun c3 => ?_) | refine J_icmp_lt qX5_add_58 (fun c3 => ?_) (fun c3 => ?_)
          · rw [if_neg (by omega)]
            have ag : Ag μ (wI μ 0 11 (nI 1)) 3 13 := fun c k x y => wI_n (by omega)
            refine J_aload_n (i := 0) qX5_add_64 rfl rfl ?_
            refine J_pushI qX5_add_65 ?_
            refine J_putI qX5_add_66 fX5_64p (by assumption) rfl rfl ?_
            refine J_aload_n (i := 0) qX5_add_69 rfl rfl ?_
            refine J_getR qX5_add_70 fX5_21 (by assumption) (by assumption) ?_
            refine J_iload_n (i := 1) qX5_add_73 rfl rfl ?_
            refine J_iload_n (i := 2) qX5_add_74 rfl rfl ?_
            refine J_iload_n (i := 3) qX5_add_75 rfl rfl ?_
            refine J_iload (i := 4) qX5_add_76 rfl ?_
            refine J_vi4 qX5_add_78 kX5_163 (by assumption) (p_addCase (d := d) hp3 (x1.ag ag) (x2.ag ag) lo hi aa ww (by omega) c3) (Nat.le_of_ble_eq_true rfl) (fun v1 ν hr => ?_)
            obtain ⟨rfl, g1, g2, g3⟩ := hr
            refine Ji_ret qX5_add_81 ?_
            refine ⟨rfl, h.prog (g := (insF (sP s).1 (lo, hi, aa, ww), (sP s).2 ++ [(sP s).1])) (fun c k z => ?_) g3.2 g1 g2 (OkP.push ⟨k1, k2, k3, k4⟩ c3 (ok_ins k1 (i32_nlt c1) hf ha hw) (by rw [insF_len]; omega)) ?_ ?_⟩
            · rw [g3.1 _ _ (ppg_no z), wI_n (by omega)]
            · rw [g3.1 _ _ ppg_5, wI_n (by omega)]
            · rw [g3.1 _ _ (fun y => by unfold Pcs Pdd at y; omega), wI_e]
          · rw [if_pos (Or.inr c3)]
            refine J_pushI qX5_add_61 ?_
            refine Ji_ret qX5_add_63 ?_
            exact ⟨rfl, h, FrX.rf⟩
theorem x_cut (hL : LayX G) (h : RelX μ s) (i : Int32) : Si mX5_cut (d+3) [.ref 0, .int i] G μ (fun q μ' => q = (cutS s i).1 ∧ RelX μ' (cutS s i).2 ∧ FrX μ μ') := by
  obtain ⟨hO, ⟨q0, q1, q2, q3, q4, q5, q6, q7, q8, q9, q10⟩, -, -, -, -, hp3, -⟩ := hL
  have hpo := hp3.1
  obtain ⟨x1, x2, x3, x4⟩ := h.2.2.1
  obtain ⟨k1, k2, k3, k4⟩ := x3
  have m2 := x2.1
  refine Si_of (ls := [.ref 0, .int i]) (by decide +kernel) (Nat.le_of_ble_eq_true rfl) rfl ?_
  refine J_aload_n (i := 0) qX5_cut_0 rfl rfl ?_
  refine J_getR qX5_cut_1 fX5_21 (by assumption) (by assumption) ?_
  refine J_iload_n (i := 1) qX5_cut_4 rfl rfl ?_
  refine J_vi1 qX5_cut_5 kX5_147 (by assumption) (p_has (d := d + 2) hp3 x1 i) (Nat.le_of_ble_eq_true rfl) (fun v1 μ' hr => ?_)
  obtain ⟨rfl, rfl⟩ := hr
  cases hb : hasB (sP s).1.length i with
  | false =>
    first | refine J_if_ne qX5_cut_8 (fun c => absurd b2i_f0 c) (fun _ => ?_) | refine J_if_ne qX5_cut_8 (fun _ => ?_) (fun c => absurd c b2i_t0)
    rw [show cutS s i = (-1, s) from if_pos hb]
    refine J_pushI qX5_cut_11 ?_
    refine Ji_ret qX5_cut_12 ?_
    exact ⟨rfl, h, FrX.rf⟩
  | true =>
    first | refine J_if_ne qX5_cut_8 (fun c => absurd b2i_f0 c) (fun _ => ?_) | refine J_if_ne qX5_cut_8 (fun _ => ?_) (fun c => absurd c b2i_t0)
    have e1 : cutS s i = if 40 ≤ (sP s).2.length then (-2, s) else (nI ((sP s).1.length - 1), uPrg s ((sP s).1.eraseIdx (ix i), (sP s).2 ++ [(sP s).1])) := if_neg (by rw [hb]; decide)
    rw [e1]
    obtain ⟨k, hk, rfl⟩ := hasB_of (by omega) hb
    rw [ix_n (by omega)]
    refine J_aload_n (i := 0) qX5_cut_13 rfl rfl ?_
    refine J_getR qX5_cut_14 fX5_21 (by assumption) (by assumption) ?_
    refine J_getIe qX5_cut_17 fX5_160 (by assumption) (by (repeat first | with_reducible exact wI_e _ _ _ _ | (with_reducible apply rd_s; focus omega) | (with_reducible apply rd_c; focus omega) | (with_reducible apply rd_k; focus omega) | with_reducible exact rd_e (by omega)); first | done | assumption | rfl) ?_
    refine J_pushI qX5_cut_20 ?_
    first | with_reducible refine J_icmp_lt_n qX5_cut_22 (by omega) (by omega) (fun c1 => ?_) (fun c1 => ?_) | refine J_icmp_lt qX5_cut_22 (fun c1 => ?_) (fun c1 => ?_)
    · rw [if_neg (by omega)]
      refine J_aload_n (i := 0) qX5_cut_28 rfl rfl ?_
      refine J_getR qX5_cut_29 fX5_21 (by assumption) (by assumption) ?_
      refine J_iload_n (i := 1) qX5_cut_32 rfl rfl ?_
      refine J_vv1 qX5_cut_33 kX5_167 (by assumption) (p_cutCase (d := d) hp3 x1 k1 x2 c1 hk) (Nat.le_of_ble_eq_true rfl) (fun ν hr => ?_)
      obtain ⟨g1, g2, g3⟩ := hr
      have e4 := g1.1
      rw [List.length_eraseIdx_of_lt hk] at e4
      refine J_aload_n (i := 0) qX5_cut_36 rfl rfl ?_
      refine J_pushI qX5_cut_37 ?_
      refine J_putI qX5_cut_38 fX5_64p (by assumption) rfl rfl ?_
      refine J_aload_n (i := 0) qX5_cut_41 rfl rfl ?_
      refine J_getR qX5_cut_42 fX5_21 (by assumption) (by assumption) ?_
      refine J_getIe qX5_cut_45 fX5_135 (by assumption) (by (repeat first | with_reducible exact wI_e _ _ _ _ | (with_reducible apply rd_s; focus omega) | (with_reducible apply rd_c; focus omega) | (with_reducible apply rd_k; focus omega) | with_reducible exact rd_e (by omega)); first | done | assumption | rfl) ?_
      refine Ji_ret qX5_cut_48 ?_
      exact ⟨rfl, h.prog1 (g := ((sP s).1.eraseIdx k, (sP s).2 ++ [(sP s).1])) g3 g1 g2 (OkP.push ⟨k1, k2, k3, k4⟩ c1 (ok_era k1 hk) (by rw [List.length_eraseIdx_of_lt hk]; omega))⟩
    · rw [if_pos c1]
      refine J_pushI qX5_cut_25 ?_
      refine Ji_ret qX5_cut_27 ?_
      exact ⟨rfl, h, FrX.rf⟩
theorem x_aim (hL : LayX G) (h : RelX μ s) (i a : Int32) : Si mX5_aim (d+3) [.ref 0, .int i, .int a] G μ (fun q μ' => q = (aimS s i a).1 ∧ RelX μ' (aimS s i a).2 ∧ FrX μ μ') := by
  obtain ⟨hO, ⟨q0, q1, q2, q3, q4, q5, q6, q7, q8, q9, q10⟩, -, -, -, -, hp3, -⟩ := hL
  have hpo := hp3.1
  have hpr := hp3.2.1.2.2.1
  have hpa := hp3.2.2.2.1.2.2.1
  obtain ⟨x1, x2, x3, x4⟩ := h.2.2.1
  obtain ⟨k1, k2, k3, k4⟩ := x3
  have m2 := x2.1
  have bad : (hasB (sP s).1.length i = false ∨ hasB 8 a = false) → J mX5_aim (d+3) (0, 0) s0 (Ki G (fun q μ' => q = (aimS s i a).1 ∧ RelX μ' (aimS s i a).2 ∧ FrX μ μ')) (0, 0) 18 [.ref 0, .int i, .int a, .null] [] (G, μ) := fun hb => by
    rw [show aimS s i a = (-1, s) from if_pos hb]
    refine J_pushI qX5_aim_18 ?_
    refine Ji_ret qX5_aim_19 ?_
    exact ⟨rfl, h, FrX.rf⟩
  refine Si_of (ls := [.ref 0, .int i, .int a, .null]) (by decide +kernel) (Nat.le_of_ble_eq_true rfl) rfl ?_
  refine J_aload_n (i := 0) qX5_aim_0 rfl rfl ?_
  refine J_getR qX5_aim_1 fX5_21 (by assumption) (by assumption) ?_
  refine J_iload_n (i := 1) qX5_aim_4 rfl rfl ?_
  refine J_vi1 qX5_aim_5 kX5_147 (by assumption) (p_has (d := d + 2) hp3 x1 i) (Nat.le_of_ble_eq_true rfl) (fun v1 μ' hr => ?_)
  obtain ⟨rfl, rfl⟩ := hr
  cases hb : hasB (sP s).1.length i with
  | false =>
    first | refine J_if_eq qX5_aim_8 (fun _ => ?_) (fun c => absurd b2i_f0 c) | refine J_if_eq qX5_aim_8 (fun c => absurd c b2i_t0) (fun _ => ?_)
    exact bad (Or.inl hb)
  | true =>
    first | refine J_if_eq qX5_aim_8 (fun _ => ?_) (fun c => absurd b2i_f0 c) | refine J_if_eq qX5_aim_8 (fun c => absurd c b2i_t0) (fun _ => ?_)
    refine J_iload_n (i := 2) qX5_aim_11 rfl rfl ?_
    refine J_si1 qX5_aim_12 kX5_151 (x_isAim a) (Nat.le_of_ble_eq_true rfl) (fun v1 μ' hr => ?_)
    obtain ⟨rfl, rfl⟩ := hr
    cases hb2 : hasB 8 a with
    | false =>
      first | refine J_if_ne qX5_aim_15 (fun c => absurd b2i_f0 c) (fun _ => ?_) | refine J_if_ne qX5_aim_15 (fun _ => ?_) (fun c => absurd c b2i_t0)
      exact bad (Or.inr hb2)
    | true =>
      first | refine J_if_ne qX5_aim_15 (fun c => absurd b2i_f0 c) (fun _ => ?_) | refine J_if_ne qX5_aim_15 (fun _ => ?_) (fun c => absurd c b2i_t0)
      have e1 : aimS s i a = if nI (cg (sP s).1 (ix i)).2.2.1 = a then (-4, s) else if 40 ≤ (sP s).2.length then (-2, s) else (nI (cg (sP s).1 (ix i)).2.2.1, uPrg s (setA (sP s).1 (ix i) (ix a), (sP s).2 ++ [(sP s).1])) := if_neg (by rw [hb, hb2]; decide)
      rw [e1]
      clear bad
      obtain ⟨k, hk, rfl⟩ := hasB_of (by omega) hb
      obtain ⟨aa, ha, rfl⟩ := hasB_of (by omega) hb2
      rw [ix_n (by omega), ix_n (by omega)]
      have e3 := (x1.2.2 k hk).2.2.1
      refine J_aload_n (i := 0) qX5_aim_20 rfl rfl ?_
      refine J_getR qX5_aim_21 fX5_21 (by assumption) (by assumption) ?_
      refine J_getR qX5_aim_24 fX5_170 (by assumption) (by assumption) ?_
      refine J_iload_n (i := 1) qX5_aim_27 rfl rfl ?_
      refine J_ialde qX5_aim_28 (by assumption) rfl (by omega) (by (repeat first | with_reducible exact wI_e _ _ _ _ | (with_reducible apply rd_s; focus omega) | (with_reducible apply rd_c; focus omega) | (with_reducible apply rd_k; focus omega) | with_reducible exact rd_e (by omega)); first | done | assumption | rfl) ?_
      refine J_ist3 qX5_aim_29 (Nat.le_of_ble_eq_true rfl) rfl ?_
      refine J_iload_n (i := 3) qX5_aim_30 rfl rfl ?_
      refine J_iload_n (i := 2) qX5_aim_31 rfl rfl ?_
      refine J_icmp_ne qX5_aim_32 (fun c1 => ?_) (fun c1 => ?_)
      · rw [if_neg c1]
        refine J_aload_n (i := 0) qX5_aim_38 rfl rfl ?_
        refine J_getR qX5_aim_39 fX5_21 (by assumption) (by assumption) ?_
        refine J_getIe qX5_aim_42 fX5_160 (by assumption) (by (repeat first | with_reducible exact wI_e _ _ _ _ | (with_reducible apply rd_s; focus omega) | (with_reducible apply rd_c; focus omega) | (with_reducible apply rd_k; focus omega) | with_reducible exact rd_e (by omega)); first | done | assumption | rfl) ?_
        refine J_pushI qX5_aim_45 ?_
        first | with_reducible refine J_icmp_lt_n qX5_aim_47 (by omega) (by omega) (fun c2 => ?_) (fun c2 => ?_) | refine J_icmp_lt qX5_aim_47 (fun c2 => ?_) (fun c2 => ?_)
        · rw [if_neg (by omega)]
          refine J_aload_n (i := 0) qX5_aim_53 rfl rfl ?_
          refine J_getR qX5_aim_54 fX5_21 (by assumption) (by assumption) ?_
          refine J_iload_n (i := 1) qX5_aim_57 rfl rfl ?_
          refine J_iload_n (i := 2) qX5_aim_58 rfl rfl ?_
          refine J_vv2 qX5_aim_59 kX5_173 (by assumption) (p_aimCase (d := d) hp3 x1 x2 c2 hk aa) (Nat.le_of_ble_eq_true rfl) (fun ν hr => ?_)
          obtain ⟨g1, g2, g3⟩ := hr
          refine J_aload_n (i := 0) qX5_aim_62 rfl rfl ?_
          refine J_pushI qX5_aim_63 ?_
          refine J_putI qX5_aim_64 fX5_64p (by assumption) rfl rfl ?_
          refine J_iload_n (i := 3) qX5_aim_67 rfl rfl ?_
          refine Ji_ret qX5_aim_68 ?_
          exact ⟨rfl, h.prog1 (g := (setA (sP s).1 k aa, (sP s).2 ++ [(sP s).1])) g3 g1 g2 (OkP.push ⟨k1, k2, k3, k4⟩ c2 (ok_setA k1 hk ha) (by rw [setA_len]; exact k2))⟩
        · rw [if_pos c2]
          refine J_pushI qX5_aim_50 ?_
          refine Ji_ret qX5_aim_52 ?_
          exact ⟨rfl, h, FrX.rf⟩
      · rw [if_pos c1]
        refine J_pushI qX5_aim_35 ?_
        refine Ji_ret qX5_aim_37 ?_
        exact ⟨rfl, h, FrX.rf⟩
theorem x_weigh (hL : LayX G) (h : RelX μ s) (i a : Int32) : Si mX5_weigh (d+3) [.ref 0, .int i, .int a] G μ (fun q μ' => q = (weighS s i a).1 ∧ RelX μ' (weighS s i a).2 ∧ FrX μ μ') := by
  obtain ⟨hO, ⟨q0, q1, q2, q3, q4, q5, q6, q7, q8, q9, q10⟩, -, -, -, -, hp3, -⟩ := hL
  have hpo := hp3.1
  have hpr := hp3.2.1.2.2.2
  have hpa := hp3.2.2.2.1.2.2.2
  obtain ⟨x1, x2, x3, x4⟩ := h.2.2.1
  obtain ⟨k1, k2, k3, k4⟩ := x3
  have m2 := x2.1
  have bad : (hasB (sP s).1.length i = false ∨ hasB 10 a = false) → J mX5_weigh (d+3) (0, 0) s0 (Ki G (fun q μ' => q = (weighS s i a).1 ∧ RelX μ' (weighS s i a).2 ∧ FrX μ μ')) (0, 0) 18 [.ref 0, .int i, .int a, .null] [] (G, μ) := fun hb => by
    rw [show weighS s i a = (-1, s) from if_pos hb]
    refine J_pushI qX5_weigh_18 ?_
    refine Ji_ret qX5_weigh_19 ?_
    exact ⟨rfl, h, FrX.rf⟩
  refine Si_of (ls := [.ref 0, .int i, .int a, .null]) (by decide +kernel) (Nat.le_of_ble_eq_true rfl) rfl ?_
  refine J_aload_n (i := 0) qX5_weigh_0 rfl rfl ?_
  refine J_getR qX5_weigh_1 fX5_21 (by assumption) (by assumption) ?_
  refine J_iload_n (i := 1) qX5_weigh_4 rfl rfl ?_
  refine J_vi1 qX5_weigh_5 kX5_147 (by assumption) (p_has (d := d + 2) hp3 x1 i) (Nat.le_of_ble_eq_true rfl) (fun v1 μ' hr => ?_)
  obtain ⟨rfl, rfl⟩ := hr
  cases hb : hasB (sP s).1.length i with
  | false =>
    first | refine J_if_eq qX5_weigh_8 (fun _ => ?_) (fun c => absurd b2i_f0 c) | refine J_if_eq qX5_weigh_8 (fun c => absurd c b2i_t0) (fun _ => ?_)
    exact bad (Or.inl hb)
  | true =>
    first | refine J_if_eq qX5_weigh_8 (fun _ => ?_) (fun c => absurd b2i_f0 c) | refine J_if_eq qX5_weigh_8 (fun c => absurd c b2i_t0) (fun _ => ?_)
    refine J_iload_n (i := 2) qX5_weigh_11 rfl rfl ?_
    refine J_si1 qX5_weigh_12 kX5_154 (x_isWeight a) (Nat.le_of_ble_eq_true rfl) (fun v1 μ' hr => ?_)
    obtain ⟨rfl, rfl⟩ := hr
    cases hb2 : hasB 10 a with
    | false =>
      first | refine J_if_ne qX5_weigh_15 (fun c => absurd b2i_f0 c) (fun _ => ?_) | refine J_if_ne qX5_weigh_15 (fun _ => ?_) (fun c => absurd c b2i_t0)
      exact bad (Or.inr hb2)
    | true =>
      first | refine J_if_ne qX5_weigh_15 (fun c => absurd b2i_f0 c) (fun _ => ?_) | refine J_if_ne qX5_weigh_15 (fun _ => ?_) (fun c => absurd c b2i_t0)
      have e1 : weighS s i a = if nI (cg (sP s).1 (ix i)).2.2.2 = a then (-4, s) else if 40 ≤ (sP s).2.length then (-2, s) else (nI (cg (sP s).1 (ix i)).2.2.2, uPrg s (setW (sP s).1 (ix i) (ix a), (sP s).2 ++ [(sP s).1])) := if_neg (by rw [hb, hb2]; decide)
      rw [e1]
      clear bad
      obtain ⟨k, hk, rfl⟩ := hasB_of (by omega) hb
      obtain ⟨aa, ha, rfl⟩ := hasB_of (by omega) hb2
      rw [ix_n (by omega), ix_n (by omega)]
      have e3 := (x1.2.2 k hk).2.2.2
      refine J_aload_n (i := 0) qX5_weigh_20 rfl rfl ?_
      refine J_getR qX5_weigh_21 fX5_21 (by assumption) (by assumption) ?_
      refine J_getR qX5_weigh_24 fX5_176 (by assumption) (by assumption) ?_
      refine J_iload_n (i := 1) qX5_weigh_27 rfl rfl ?_
      refine J_ialde qX5_weigh_28 (by assumption) rfl (by omega) (by (repeat first | with_reducible exact wI_e _ _ _ _ | (with_reducible apply rd_s; focus omega) | (with_reducible apply rd_c; focus omega) | (with_reducible apply rd_k; focus omega) | with_reducible exact rd_e (by omega)); first | done | assumption | rfl) ?_
      refine J_ist3 qX5_weigh_29 (Nat.le_of_ble_eq_true rfl) rfl ?_
      refine J_iload_n (i := 3) qX5_weigh_30 rfl rfl ?_
      refine J_iload_n (i := 2) qX5_weigh_31 rfl rfl ?_
      refine J_icmp_ne qX5_weigh_32 (fun c1 => ?_) (fun c1 => ?_)
      · rw [if_neg c1]
        refine J_aload_n (i := 0) qX5_weigh_38 rfl rfl ?_
        refine J_getR qX5_weigh_39 fX5_21 (by assumption) (by assumption) ?_
        refine J_getIe qX5_weigh_42 fX5_160 (by assumption) (by (repeat first | with_reducible exact wI_e _ _ _ _ | (with_reducible apply rd_s; focus omega) | (with_reducible apply rd_c; focus omega) | (with_reducible apply rd_k; focus omega) | with_reducible exact rd_e (by omega)); first | done | assumption | rfl) ?_
        refine J_pushI qX5_weigh_45 ?_
        first | with_reducible refine J_icmp_lt_n qX5_weigh_47 (by omega) (by omega) (fun c2 => ?_) (fun c2 => ?_) | refine J_icmp_lt qX5_weigh_47 (fun c2 => ?_) (fun c2 => ?_)
        · rw [if_neg (by omega)]
          refine J_aload_n (i := 0) qX5_weigh_53 rfl rfl ?_
          refine J_getR qX5_weigh_54 fX5_21 (by assumption) (by assumption) ?_
          refine J_iload_n (i := 1) qX5_weigh_57 rfl rfl ?_
          refine J_iload_n (i := 2) qX5_weigh_58 rfl rfl ?_
          refine J_vv2 qX5_weigh_59 kX5_179 (by assumption) (p_weighCase (d := d) hp3 x1 x2 c2 hk aa) (Nat.le_of_ble_eq_true rfl) (fun ν hr => ?_)
          obtain ⟨g1, g2, g3⟩ := hr
          refine J_aload_n (i := 0) qX5_weigh_62 rfl rfl ?_
          refine J_pushI qX5_weigh_63 ?_
          refine J_putI qX5_weigh_64 fX5_64p (by assumption) rfl rfl ?_
          refine J_iload_n (i := 3) qX5_weigh_67 rfl rfl ?_
          refine Ji_ret qX5_weigh_68 ?_
          exact ⟨rfl, h.prog1 (g := (setW (sP s).1 k aa, (sP s).2 ++ [(sP s).1])) g3 g1 g2 (OkP.push ⟨k1, k2, k3, k4⟩ c2 (ok_setW k1 hk ha) (by rw [setW_len]; exact k2))⟩
        · rw [if_pos c2]
          refine J_pushI qX5_weigh_50 ?_
          refine Ji_ret qX5_weigh_52 ?_
          exact ⟨rfl, h, FrX.rf⟩
      · rw [if_pos c1]
        refine J_pushI qX5_weigh_35 ?_
        refine Ji_ret qX5_weigh_37 ?_
        exact ⟨rfl, h, FrX.rf⟩
theorem x_undo (hL : LayX G) (h : RelX μ s) (n : Int32) : Si mX5_undo (d+3) [.ref 0, .int n] G μ (fun q μ' => q = (undoS s n).1 ∧ RelX μ' (undoS s n).2 ∧ FrX μ μ') := by
  obtain ⟨hO, ⟨q0, q1, q2, q3, q4, q5, q6, q7, q8, q9, q10⟩, -, -, -, -, hp3, -⟩ := hL
  have hpo := hp3.1
  obtain ⟨x1, x2, x3, x4⟩ := h.2.2.1
  have k3 := x3.2.2.1
  have m2 := x2.1
  have bad : hasB ((sP s).2.length + 1) n = false → J mX5_undo (d+3) (0, 0) s0 (Ki G (fun q μ' => q = (undoS s n).1 ∧ RelX μ' (undoS s n).2 ∧ FrX μ μ')) (0, 0) 15 [.ref 0, .int n, .null, .null] [] (G, μ) := fun hb => by
    rw [show undoS s n = (-1, s) from if_pos hb]
    refine J_pushI qX5_undo_15 ?_
    refine Ji_ret qX5_undo_16 ?_
    exact ⟨rfl, h, FrX.rf⟩
  refine Si_of (ls := [.ref 0, .int n, .null, .null]) (by decide +kernel) (Nat.le_of_ble_eq_true rfl) rfl ?_
  refine J_iload_n (i := 1) qX5_undo_0 rfl rfl ?_
  refine J_if_lt qX5_undo_1 (fun c1 => ?_) (fun c1 => ?_)
  · exact bad (decide_eq_false (fun q => absurd q.1 (Int32.not_le.mpr c1)))
  · refine J_iload_n (i := 1) qX5_undo_4 rfl rfl ?_
    refine J_aload_n (i := 0) qX5_undo_5 rfl rfl ?_
    refine J_getR qX5_undo_6 fX5_21 (by assumption) (by assumption) ?_
    refine J_getIe qX5_undo_9 fX5_160 (by assumption) (by (repeat first | with_reducible exact wI_e _ _ _ _ | (with_reducible apply rd_s; focus omega) | (with_reducible apply rd_c; focus omega) | (with_reducible apply rd_k; focus omega) | with_reducible exact rd_e (by omega)); first | done | assumption | rfl) ?_
    refine J_icmp_le qX5_undo_12 (fun c2 => ?_) (fun c2 => ?_)
    · obtain ⟨m, hm, rfl⟩ : ∃ m, m ≤ (sP s).2.length ∧ n = nI m := by
        have h1 := (i32_0le n).mp (i32_nlt c1)
        rw [Int32.le_iff_toInt_le, nI_toInt (by omega)] at c2
        exact ⟨n.toInt.toNat, by omega, i32_inj (by rw [nI_toInt (by omega)]; omega)⟩
      have hb : hasB ((sP s).2.length + 1) (nI m) = true := decide_eq_true ⟨nI_pos' (by omega), (nI_ltI (by omega) (by omega)).mpr (by omega)⟩
      have eU : undoS s (nI m) = (nI ((sP s).2.length - m), uPrg s (backF (sP s) m)) := by unfold undoS; rw [if_neg (by rw [hb]; decide), ix_n (by omega)]
      clear bad
      refine J_aload_n (i := 0) qX5_undo_17 rfl rfl ?_
      refine J_getR qX5_undo_18 fX5_21 (by assumption) (by assumption) ?_
      refine J_getIe qX5_undo_21 fX5_160 (by assumption) (by (repeat first | with_reducible exact wI_e _ _ _ _ | (with_reducible apply rd_s; focus omega) | (with_reducible apply rd_c; focus omega) | (with_reducible apply rd_k; focus omega) | with_reducible exact rd_e (by omega)); first | done | assumption | rfl) ?_
      refine J_iload_n (i := 1) qX5_undo_24 rfl rfl ?_
      first | with_reducible refine J_isub_n qX5_undo_25 (by omega) ?_ | refine J_isub qX5_undo_25 ?_
      refine J_ist2 qX5_undo_26 (Nat.le_of_ble_eq_true rfl) rfl ?_
      refine J_pushI qX5_undo_27 ?_
      refine J_ist3 qX5_undo_28 (Nat.le_of_ble_eq_true rfl) rfl ?_
      have H : ∀ k, k ≤ (sP s).2.length - m → ∀ ν : Mm, Fr μ ν (Ppg 3) → AbC ν 3 (backF (sP s) ((sP s).2.length - k)).1 → AbH ν 3 (backF (sP s) ((sP s).2.length - k)).1 (backF (sP s) ((sP s).2.length - k)).2 → J mX5_undo (d+3) (0, 0) s0 (Ki G (fun q μ' => q = (undoS s (nI m)).1 ∧ RelX μ' (undoS s (nI m)).2 ∧ FrX μ μ')) (0, 0) 29 [.ref 0, .int (nI m), .int (nI ((sP s).2.length - m)), .int (nI k)] [] (G, ν) := by
        refine ind_up (fun k hk ih ν hF hC hH => ?_)
        refine J_iload_n (i := 3) qX5_undo_29 rfl rfl ?_
        refine J_iload_n (i := 2) qX5_undo_30 rfl rfl ?_
        first | with_reducible refine J_icmp_ge_n qX5_undo_31 (by omega) (by omega) (fun c3 => ?_) (fun c3 => ?_) | refine J_icmp_ge qX5_undo_31 (fun c3 => ?_) (fun c3 => ?_)
        · rw [show (sP s).2.length - k = m by omega] at hC hH
          refine J_aload_n (i := 0) qX5_undo_47 rfl rfl ?_
          refine J_pushI qX5_undo_48 ?_
          refine J_putI qX5_undo_49 fX5_64p (by assumption) rfl rfl ?_
          refine J_iload_n (i := 2) qX5_undo_52 rfl rfl ?_
          refine Ji_ret qX5_undo_53 ?_
          rw [eU]
          exact ⟨rfl, h.prog1 hF hC hH (back_ok x3 hm)⟩
        · obtain ⟨e, he⟩ : ∃ e, (sP s).2.length - k = e + 1 := ⟨(sP s).2.length - k - 1, by omega⟩
          rw [he] at hC hH
          rw [back_succ (by omega)] at hH
          refine J_aload_n (i := 0) qX5_undo_34 rfl rfl ?_
          refine J_getR qX5_undo_35 fX5_21 (by assumption) (by assumption) ?_
          refine J_vv0 qX5_undo_38 kX5_182 (by assumption) (p_undoLatest (d := d) hp3 hC hH) (Nat.le_of_ble_eq_true rfl) (fun ν1 hr => ?_)
          obtain ⟨g1, g2, g3⟩ := hr
          refine J_inc3 qX5_undo_41 (Nat.le_of_ble_eq_true rfl) (by first | with_reducible exact nI_inc _ | rfl) rfl ?_
          refine J_goto qX5_undo_44 ?_
          have e5 : (sP s).2.length - (k + 1) = e := by omega
          exact ih c3 ν1 (hF.tr g3) (by rw [e5]; exact g1) (by rw [e5]; exact g2)
      exact H 0 (Nat.zero_le _) μ Fr.rf (by rw [Nat.sub_zero, back_all]; exact x1) (by rw [Nat.sub_zero, back_all]; exact x2)
    · exact bad (decide_eq_false (fun q => c2 (by
        have h1 := q.2
        have h2 := (i32_0le n).mp q.1
        rw [Int32.lt_iff_toInt_lt, nI_toInt (by omega)] at h1
        rw [Int32.le_iff_toInt_le, nI_toInt (by omega)]
        omega)))
theorem x_keep (hL : LayX G) (h : RelX μ s) (k : Int32) : Si mX5_keep (d+2) [.ref 0, .int k] G μ (fun q μ' => q = (keepS s k).1 ∧ RelX μ' (keepS s k).2 ∧ FrX μ μ') := by
  obtain ⟨hO, ⟨q0, q1, q2, q3, q4, q5, q6, q7, q8, q9, q10⟩, ⟨a1, a2, a3, a4, a5⟩, -, -, hkp, hp3, -⟩ := hL
  have hpo := hp3.1
  refine Si_of (ls := [.ref 0, .int k]) (by decide +kernel) (Nat.le_of_ble_eq_true rfl) rfl ?_
  refine J_iload_n (i := 1) qX5_keep_0 rfl rfl ?_
  refine J_si1 qX5_keep_1 kX5_185 (x_isKeptPlace k) (Nat.le_of_ble_eq_true rfl) (fun v1 μ' hr => ?_)
  obtain ⟨rfl, rfl⟩ := hr
  cases hb : hasB 3 k with
  | false =>
    first | refine J_if_ne qX5_keep_4 (fun c => absurd b2i_f0 c) (fun _ => ?_) | refine J_if_ne qX5_keep_4 (fun _ => ?_) (fun c => absurd c b2i_t0)
    rw [show keepS s k = (-1, s) from if_pos hb]
    refine J_pushI qX5_keep_7 ?_
    refine Ji_ret qX5_keep_8 ?_
    exact ⟨rfl, h, FrX.rf⟩
  | true =>
    first | refine J_if_ne qX5_keep_4 (fun c => absurd b2i_f0 c) (fun _ => ?_) | refine J_if_ne qX5_keep_4 (fun _ => ?_) (fun c => absurd c b2i_t0)
    rw [show keepS s k = (nI (sP s).2.length, uKep s (ix k) (some (sP s))) from if_neg (by rw [hb]; decide)]
    obtain ⟨j, hj, rfl⟩ := hasB_of (by omega) hb
    rw [ix_n (by omega)]
    obtain ⟨w1, w2⟩ := hkp j hj
    have w3 := w2.1
    obtain ⟨h1, h2, h3, h4, h5, h6, h7⟩ := (RelX_eq μ s).mp h
    obtain ⟨x1, x2, x3, x4⟩ := h3
    refine J_aload_n (i := 0) qX5_keep_9 rfl rfl ?_
    refine J_getR qX5_keep_10 fX5_25 (by assumption) (by assumption) ?_
    refine J_iload_n (i := 1) qX5_keep_13 rfl rfl ?_
    refine J_aald qX5_keep_14 (by assumption) (by decide) (by decide) rfl (by omega) (by first | assumption | exact (by assumption : ∀ _, _) _ (by omega)) ?_
    refine J_aload_n (i := 0) qX5_keep_15 rfl rfl ?_
    refine J_getR qX5_keep_16 fX5_21 (by assumption) (by assumption) ?_
    refine J_vv1 qX5_keep_19 kX5_131 (by assumption) (p_take (d := d) w2 hp3 (by omega) x1 x2) (Nat.le_of_ble_eq_true rfl) (fun ν hr => ?_)
    obtain ⟨g1, g2, g3, g4⟩ := hr
    have e4 : ν.1 3 12 = nI (sP s).2.length := (g4.1 _ _ (by omega)).trans x2.1
    refine J_aload_n (i := 0) qX5_keep_22 rfl rfl ?_
    refine J_getR qX5_keep_23 fX5_29 (by assumption) (by assumption) ?_
    refine J_iload_n (i := 1) qX5_keep_26 rfl rfl ?_
    refine J_pushI qX5_keep_27 ?_
    first | refine J_bast qX5_keep_28 (by assumption) rfl (by omega) ?_ | refine J_zast qX5_keep_28 (by assumption) rfl (by omega) rfl ?_
    refine J_aload_n (i := 0) qX5_keep_29 rfl rfl ?_
    refine J_getR qX5_keep_30 fX5_21 (by assumption) (by assumption) ?_
    refine J_getIe qX5_keep_33 fX5_160 (by assumption) (by (repeat first | with_reducible exact wI_e _ _ _ _ | (with_reducible apply rd_s; focus omega) | (with_reducible apply rd_c; focus omega) | (with_reducible apply rd_k; focus omega) | with_reducible exact rd_e (by omega)); first | done | assumption | rfl) ?_
    refine Ji_ret qX5_keep_36 ?_
    have ag0 : ∀ lo hi, 165 + 11 * j ≤ lo → Ag ν (wI ν 15 j (nI 1)) lo hi := fun lo hi a c k x y => wI_n (by omega)
    have ag : ∀ lo hi, (hi < 165 + 11 * j ∨ 175 + 11 * j < lo) → (hi < 15 ∨ 15 < lo) → Ag μ (wI ν 15 j (nI 1)) lo hi := fun lo hi a b c k x y => by rw [wI_n (by omega)]; exact g4.1 _ _ (by omega)
    refine ⟨rfl, (RelX_eq _ _).mpr ⟨h1.ag (ag _ _ (by omega) (by omega)), h2.ag (ag _ _ (by omega) (by omega)), XP.ag ⟨x1, x2, x3, x4⟩ (ag _ _ (by omega) (by omega)), fun e he => ?_, ⟨?_, ?_, ?_, fun f hf => ?_⟩, h6.ag x3.2.1 ?_ (ag _ _ (by omega) (by omega)), h7⟩, fun c k hc => ?_, fun c k hc => ?_⟩
    · show XK _ e (fup (sKp s) j (some (sP s)) e) (sR s)
      by_cases q : e = j
      · subst q
        rw [fup_e]
        exact ⟨wI_e _ _ _ _, XP.ag ⟨g1, g2, x3, g3.trans x4⟩ (ag0 _ _ (by omega))⟩
      · rw [fup_n q]
        refine (h4 e he).ag ?_ (fun c k y z => ?_)
        · rw [wI_n (by omega)]; exact g4.1 _ _ (by omega)
        · rw [wI_n (by omega)]; exact g4.1 _ _ (by omega)
    · rw [wI_n (by omega), g4.1 _ _ (by omega)]; exact h5.1
    · show ν.2 0 13 = _
      rw [g4.2]; exact h5.2.1
    · rw [wI_n (by omega), g4.1 _ _ (by omega)]; exact h5.2.2.1
    · rw [wI_n (by omega), g4.1 _ _ (by omega)]; exact h5.2.2.2 f hf
    · rw [wI_n (by omega), g4.1 _ _ (by omega)]
    · rw [wI_n (by omega), g4.1 _ _ (by omega)]
    · show ν.2 c k = _
      rw [g4.2]
theorem x_on (hL : LayX G) (h : RelX μ s) (k : Int32) : Si mX5_on (d+2) [.ref 0, .int k] G μ (fun q μ' => q = (onS s k).1 ∧ RelX μ' (onS s k).2 ∧ FrX μ μ') := by
  have hL0 := hL
  obtain ⟨hO, ⟨q0, q1, q2, q3, q4, q5, q6, q7, q8, q9, q10⟩, ⟨a1, a2, a3, a4, a5⟩, -, -, hkp, hp3, -⟩ := hL
  have hpo := hp3.1
  refine Si_of (ls := [.ref 0, .int k]) (by decide +kernel) (Nat.le_of_ble_eq_true rfl) rfl ?_
  refine J_iload_n (i := 1) qX5_on_0 rfl rfl ?_
  refine J_si1 qX5_on_1 kX5_185 (x_isKeptPlace k) (Nat.le_of_ble_eq_true rfl) (fun v1 μ' hr => ?_)
  obtain ⟨rfl, rfl⟩ := hr
  cases hb : hasB 3 k with
  | false =>
    first | refine J_if_ne qX5_on_4 (fun c => absurd b2i_f0 c) (fun _ => ?_) | refine J_if_ne qX5_on_4 (fun _ => ?_) (fun c => absurd c b2i_t0)
    rw [show onS s k = (-1, s) from if_pos hb]
    refine J_pushI qX5_on_7 ?_
    refine Ji_ret qX5_on_8 ?_
    exact ⟨rfl, h, FrX.rf⟩
  | true =>
    first | refine J_if_ne qX5_on_4 (fun c => absurd b2i_f0 c) (fun _ => ?_) | refine J_if_ne qX5_on_4 (fun _ => ?_) (fun c => absurd c b2i_t0)
    obtain ⟨j, hj, rfl⟩ := hasB_of (by omega) hb
    obtain ⟨w1, w2⟩ := hkp j hj
    have hK := h.2.2.2.1 j hj
    refine J_aload_n (i := 0) qX5_on_9 rfl rfl ?_
    refine J_getR qX5_on_10 fX5_29 (by assumption) (by assumption) ?_
    refine J_iload_n (i := 1) qX5_on_13 rfl rfl ?_
    refine J_zald qX5_on_14 (by assumption) rfl (by omega) ?_
    cases hm : sKp s j with
    | none =>
      rw [hm] at hK
      rw [show μ.1 15 j = nI 0 from hK, onS_n hb hj hm]
      refine J_if_ne qX5_on_15 (fun c => absurd rfl c) (fun _ => ?_)
      refine J_aload_n (i := 0) qX5_on_18 rfl rfl ?_
      refine J_pushI qX5_on_19 ?_
      refine J_vi1 qX5_on_20 kX5_86 (by assumption) (x_found (d := d + 1) hL0 h (f := 1) (by omega)) (Nat.le_of_ble_eq_true rfl) (fun v1 ν hr => ?_)
      refine Ji_ret qX5_on_23 ?_
      exact hr
    | some g =>
      rw [hm] at hK
      obtain ⟨y0, y1, y2, y3, y4⟩ := hK
      rw [y0, onS_s hb hj hm]
      refine J_if_ne qX5_on_15 (fun _ => ?_) (fun c => absurd c (by decide))
      refine J_aload_n (i := 0) qX5_on_24 rfl rfl ?_
      refine J_getR qX5_on_25 fX5_21 (by assumption) (by assumption) ?_
      refine J_aload_n (i := 0) qX5_on_28 rfl rfl ?_
      refine J_getR qX5_on_29 fX5_25 (by assumption) (by assumption) ?_
      refine J_iload_n (i := 1) qX5_on_32 rfl rfl ?_
      refine J_aald qX5_on_33 (by assumption) (by decide) (by decide) rfl (by omega) (by first | assumption | exact (by assumption : ∀ _, _) _ (by omega)) ?_
      refine J_vv1 qX5_on_34 kX5_131 (by assumption) (p_take (d := d) hp3 w2 (by omega) y1 y2) (Nat.le_of_ble_eq_true rfl) (fun ν hr => ?_)
      obtain ⟨g1, g2, g3, g4⟩ := hr
      have e4 := g2.1
      refine J_aload_n (i := 0) qX5_on_37 rfl rfl ?_
      refine J_pushI qX5_on_38 ?_
      refine J_putI qX5_on_39 fX5_64p (by assumption) rfl rfl ?_
      refine J_aload_n (i := 0) qX5_on_42 rfl rfl ?_
      refine J_getR qX5_on_43 fX5_21 (by assumption) (by assumption) ?_
      refine J_getIe qX5_on_46 fX5_160 (by assumption) (by (repeat first | with_reducible exact wI_e _ _ _ _ | (with_reducible apply rd_s; focus omega) | (with_reducible apply rd_c; focus omega) | (with_reducible apply rd_k; focus omega) | with_reducible exact rd_e (by omega)); first | done | assumption | rfl) ?_
      refine Ji_ret qX5_on_49 ?_
      have ag : Ag ν (wI ν 0 11 (nI 1)) 3 13 := fun c k x y => wI_n (by omega)
      exact ⟨rfl, h.prog (fun c k z => by rw [wI_n (by omega)]; exact g4.1 _ _ (by omega)) g4.2 (g1.ag ag) (g2.ag ag) y3 (by rw [wI_n (by omega), g3, y4]; exact h.2.2.1.2.2.2.symm) (wI_e _ _ _ _)⟩
theorem x_reach (hL : LayX G) (h : RelX μ s) (x : Int32) : Si mX5_reach (d+1) [.ref 0, .int x] G μ (fun q μ' => q = (reachS s x).1 ∧ RelX μ' (reachS s x).2 ∧ FrX μ μ') := by
  obtain ⟨hO, ⟨q0, q1, q2, q3, q4, q5, q6, q7, q8, q9, q10⟩, ⟨a1, a2, a3, a4, a5⟩, -, -, hkp, hp3, -⟩ := hL
  have hpo := hp3.1
  have hpr := hp3.2.1.2.2.1
  have hpa := hp3.2.2.2.1.2.2.1
  obtain ⟨x1, x2, x3, x4⟩ := h.2.2.1
  have k2 := x3.2.1
  refine Si_of (ls := [.ref 0, .int x, .null]) (by decide +kernel) (Nat.le_of_ble_eq_true rfl) rfl ?_
  refine J_aload_n (i := 0) qX5_reach_0 rfl rfl ?_
  refine J_getR qX5_reach_1 fX5_21 (by assumption) (by assumption) ?_
  refine J_iload_n (i := 1) qX5_reach_4 rfl rfl ?_
  refine J_vi1 qX5_reach_5 kX5_188 (by assumption) (p_ownerOf (d := d) hp3 x1 x) (Nat.le_of_ble_eq_true rfl) (fun v1 μ' hr => ?_)
  obtain ⟨rfl, rfl⟩ := hr
  rcases own_is (sP s).1 x with e | ⟨i, hi, e⟩
  · rw [show reachS s x = (-9, s) from if_pos (by rw [e]; decide), e]
    refine J_ist2 qX5_reach_8 (Nat.le_of_ble_eq_true rfl) rfl ?_
    refine J_iload_n (i := 2) qX5_reach_9 rfl rfl ?_
    refine J_if_ge qX5_reach_10 (fun c => absurd c (by decide)) (fun _ => ?_)
    refine J_pushI qX5_reach_13 ?_
    refine Ji_ret qX5_reach_15 ?_
    exact ⟨rfl, h, FrX.rf⟩
  · have e1 := (x1.2.2 i hi).2.2.1
    rw [show reachS s x = (nI (cg (sP s).1 (ix (ownF (sP s).1 x))).2.2.1, uAsk s (ownF (sP s).1 x)) from if_neg (by rw [e]; exact nI_pos (by omega)), e, ix_n (by omega)]
    refine J_ist2 qX5_reach_8 (Nat.le_of_ble_eq_true rfl) rfl ?_
    refine J_iload_n (i := 2) qX5_reach_9 rfl rfl ?_
    refine J_if_ge_n qX5_reach_10 (by omega) ?_
    refine J_aload_n (i := 0) qX5_reach_16 rfl rfl ?_
    refine J_iload_n (i := 2) qX5_reach_17 rfl rfl ?_
    refine J_putI qX5_reach_18 fX5_68p (by assumption) rfl rfl ?_
    refine J_aload_n (i := 0) qX5_reach_21 rfl rfl ?_
    refine J_getR qX5_reach_22 fX5_21 (by assumption) (by assumption) ?_
    refine J_getR qX5_reach_25 fX5_170 (by assumption) (by assumption) ?_
    refine J_iload_n (i := 2) qX5_reach_28 rfl rfl ?_
    refine J_ialde qX5_reach_29 (by assumption) rfl (by omega) (by (repeat first | with_reducible exact wI_e _ _ _ _ | (with_reducible apply rd_s; focus omega) | (with_reducible apply rd_c; focus omega) | (with_reducible apply rd_k; focus omega) | with_reducible exact rd_e (by omega)); first | done | assumption | rfl) ?_
    refine Ji_ret qX5_reach_30 ?_
    exact ⟨rfl, h.ask _⟩
end XX
