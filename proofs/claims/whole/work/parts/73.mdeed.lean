/-! THE MODEL: deeds -/
theorem valF_set {cs : List Cs} {i k j : Nat} {c : Cs} (hi : i < cs.length) : valF (cs.set i c) k j = if k = i then valF [c] 0 j else valF cs k j := by
  by_cases e : k = i
  · rw [if_pos e]
    exact valF_c (by rw [cg_set hi, if_pos e]; rfl) j
  · rw [if_neg e]
    exact valF_c (by rw [cg_set hi, if_neg e]) j
theorem MC.stA {μ : Mm} {a : Nat} {cs : List Cs} (h : MC μ a 0 cs) {i : Nat} (hi : i < cs.length) (v : Nat) : MC (wI μ a (25 + i) (nI v)) a 0 (setA cs i v) := by
  have h12 := h.2.1
  refine MC.of ?_ ?_ (fun j hj k hk => ?_)
  · rw [wI_n (by omega), setA_len]; exact h.1
  · rw [setA_len]; exact h12
  · rw [setA_len] at hk
    unfold setA
    rw [valF_set hi]
    by_cases e : k = i
    · subst e
      rw [if_pos rfl]
      match j, hj with
      | 0, _ => rw [wI_n (by omega)]; exact h.j (j := 0) (by omega) hk
      | 1, _ => rw [wI_n (by omega)]; exact h.j (j := 1) (by omega) hk
      | 2, _ => exact wI_e _ _ _ _
      | 3, _ => rw [wI_n (by omega)]; exact h.j (j := 3) (by omega) hk
    · rw [if_neg e, wI_n (by omega)]
      exact h.j hj hk
theorem MC.stW {μ : Mm} {a : Nat} {cs : List Cs} (h : MC μ a 0 cs) {i : Nat} (hi : i < cs.length) (v : Nat) : MC (wI μ a (37 + i) (nI v)) a 0 (setW cs i v) := by
  have h12 := h.2.1
  refine MC.of ?_ ?_ (fun j hj k hk => ?_)
  · rw [wI_n (by omega), setW_len]; exact h.1
  · rw [setW_len]; exact h12
  · rw [setW_len] at hk
    unfold setW
    rw [valF_set hi]
    by_cases e : k = i
    · subst e
      rw [if_pos rfl]
      match j, hj with
      | 0, _ => rw [wI_n (by omega)]; exact h.j (j := 0) (by omega) hk
      | 1, _ => rw [wI_n (by omega)]; exact h.j (j := 1) (by omega) hk
      | 2, _ => rw [wI_n (by omega)]; exact h.j (j := 2) (by omega) hk
      | 3, _ => exact wI_e _ _ _ _
    · rw [if_neg e, wI_n (by omega)]
      exact h.j hj hk
theorem RelM.now {μ μ' : Mm} {s : St} {cs : List Cs} (h : RelM μ s) (hF : Fr μ μ' (fun c _ => c = 206)) (hc : MC μ' 206 0 cs) (ho : OkC cs) : RelM μ' (uPrg s (cs, (sP s).2)) ∧ FrM μ μ' := by
  have a : ∀ c, c ≠ 206 → Ac μ μ' c := fun c x k => hF.1 _ _ x
  obtain ⟨p1, p2, p3, p4, p5, p6⟩ := h.2.2.1
  exact ⟨⟨h.1.ag (a _ (by omega)) (a _ (by omega)), h.2.1.ag (a _ (by omega)) (a _ (by omega)), ⟨hc, (a _ (by omega) _).trans p2, p3.ag (fun k _ _ => a _ (by omega) k), ⟨ho, hc.2.1, p4.2.2.1, p4.2.2.2⟩, (a _ (by omega) _).trans p5, p6⟩, h.2.2.2.1.ag (a _ (by omega)) (a _ (by omega)), h.2.2.2.2.ag (a _ (by omega) _) (a _ (by omega) _) (a _ (by omega)) (by rw [hF.2])⟩, fun c k z => a c (by omega) k, fun c k z => by rw [hF.2]⟩
theorem RelM.prog {μ μ' : Mm} {s : St} {g : Pg} (h : RelM μ s) (hF : ∀ c k, ¬ (c = 206 ∨ c = 208 ∨ (c = 198 ∧ k = 20)) → μ'.1 c k = μ.1 c k) (hG : μ'.2 = μ.2) (hc : MC μ' 206 0 g.1) (hn : μ'.1 198 20 = nI g.2.length) (hh : MH μ' 208 0 g.2) (ho : OkP g) : RelM μ' (uPrg s g) ∧ FrM μ μ' := by
  have a : ∀ c, c ≠ 206 → c ≠ 208 → c ≠ 198 → Ac μ μ' c := fun c x y z k => hF _ _ (by omega)
  obtain ⟨p1, p2, p3, p4, p5, p6⟩ := h.2.2.1
  exact ⟨⟨h.1.ag (a _ (by omega) (by omega) (by omega)) (a _ (by omega) (by omega) (by omega)), h.2.1.ag (a _ (by omega) (by omega) (by omega)) (a _ (by omega) (by omega) (by omega)), ⟨hc, hn, hh, ho, (hF _ _ (by omega)).trans p5, p6⟩, h.2.2.2.1.ag (a _ (by omega) (by omega) (by omega)) (a _ (by omega) (by omega) (by omega)), h.2.2.2.2.ag (hF _ _ (by omega)) (hF _ _ (by omega)) (a _ (by omega) (by omega) (by omega)) (by rw [hG])⟩, fun c k z => hF _ _ (by omega), fun c k z => by rw [hG]⟩
theorem MH.push {μ : Mm} {a o : Nat} {hs : List (List Cs)} {cs : List Cs} (h : MH μ a o hs) (hc : MC μ a (o + 49 * hs.length) cs) : MH μ a o (hs ++ [cs]) := fun e he => by
  rw [List.length_append] at he
  simp only [List.length_cons, List.length_nil] at he
  by_cases q : e = hs.length
  · rw [q, gd_new]; exact hc
  · rw [gd_old (by omega)]; exact h e (by omega)
def uPsh (s : St) : St := uPrg s ((sP s).1, (sP s).2 ++ [(sP s).1])
section MM
variable {G : Gm} {μ : Mm} {d : Nat} {s : St}
theorem m_remember (hM : LayM G) (h : RelM μ s) (h40 : (sP s).2.length < 40) : Sv mX6_remember (d) [.ref 198] G μ (fun μ' => RelM μ' (uPsh s) ∧ FrM μ μ') := by
  obtain ⟨mO, ⟨-, -, -, -, -, -, -, f17, -, f21, -⟩, ⟨-, -, -, -, -, -, -, b206, -, b208, -⟩⟩ := hM
  obtain ⟨p1, p2, p3, p4, p5, p6⟩ := h.2.2.1
  refine Sv_of (ls := [.ref 198, .null]) (by decide +kernel) (Nat.le_of_ble_eq_true rfl) rfl ?_
  refine J_pushI qX6_remember_0 ?_
  refine J_ist1 qX6_remember_1 (Nat.le_of_ble_eq_true rfl) rfl ?_
  have H : ∀ k, k ≤ 49 → ∀ ν : Mm, Fr μ ν (fun c q => c = 208 ∧ 49 * (sP s).2.length ≤ q) → (∀ q, q < k → ν.1 208 (49 * (sP s).2.length + q) = μ.1 206 q) → J mX6_remember (d) (0, 0) s0 (Kv G (fun μ' => RelM μ' (uPsh s) ∧ FrM μ μ')) (0, 0) 2 [.ref 198, .int (nI k)] [] (G, ν) := by
    refine ind_up (fun k hk ih ν hF hinv => ?_)
    have e20 : ν.1 198 20 = nI (sP s).2.length := (hF.1 _ _ (by omega)).trans p2
    refine J_iload_n (i := 1) qX6_remember_2 rfl rfl ?_
    refine J_pushI qX6_remember_3 ?_
    first | with_reducible refine J_icmp_ge_n qX6_remember_5 (by omega) (by omega) (fun c1 => ?_) (fun c1 => ?_) | refine J_icmp_ge qX6_remember_5 (fun c1 => ?_) (fun c1 => ?_)
    · refine J_aload_n (i := 0) qX6_remember_34 rfl rfl ?_
      refine J_dup qX6_remember_35 rfl ?_
      refine J_getIe qX6_remember_36 fX6_204 (by assumption) (by (repeat first | with_reducible exact wI_e _ _ _ _ | (with_reducible apply rd_s; focus omega) | (with_reducible apply rd_c; focus omega) | (with_reducible apply rd_k; focus omega) | with_reducible exact rd_e (by omega)); first | done | assumption | rfl) ?_
      refine J_pushI qX6_remember_39 ?_
      first | with_reducible refine J_iadd_n qX6_remember_40 ?_ | refine J_iadd qX6_remember_40 ?_
      refine J_putI qX6_remember_41 fX6_204p (by assumption) rfl rfl ?_
      refine Jv_ret qX6_remember_44 ?_
      refine h.prog (g := ((sP s).1, (sP s).2 ++ [(sP s).1])) (fun c q z => ?_) hF.2 ?_ ?_ ?_ (OkP.push (cs := (sP s).1) (hs := (sP s).2) p4 h40 p4.1 p4.2.1)
      · rw [wI_n (by omega)]; exact hF.1 _ _ (by omega)
      · exact p1.ag (fun q _ _ => by rw [wI_n (by omega)]; exact hF.1 _ _ (by omega))
      · rw [wI_e]
        show _ = nI ((sP s).2 ++ [(sP s).1]).length
        rw [List.length_append]; rfl
      · refine MH.push (p3.ag (fun q x y => ?_)) (p1.cp (fun q hq => ?_))
        · rw [wI_n (by omega)]; exact hF.1 _ _ (by omega)
        · rw [wI_n (by omega), Nat.zero_add, Nat.zero_add]; exact hinv q (by omega)
    · have e6 : ν.1 206 k = μ.1 206 k := hF.1 _ _ (by omega)
      refine J_aload_n (i := 0) qX6_remember_8 rfl rfl ?_
      refine J_getR qX6_remember_9 fX6_38 (by assumption) (by assumption) ?_
      refine J_pushI qX6_remember_12 ?_
      refine J_aload_n (i := 0) qX6_remember_14 rfl rfl ?_
      refine J_getIe qX6_remember_15 fX6_204 (by assumption) (by (repeat first | with_reducible exact wI_e _ _ _ _ | (with_reducible apply rd_s; focus omega) | (with_reducible apply rd_c; focus omega) | (with_reducible apply rd_k; focus omega) | with_reducible exact rd_e (by omega)); first | done | assumption | rfl) ?_
      first | with_reducible refine J_imul_n qX6_remember_18 ?_ | refine J_imul qX6_remember_18 ?_
      refine J_iload_n (i := 1) qX6_remember_19 rfl rfl ?_
      first | with_reducible refine J_iadd_n qX6_remember_20 ?_ | refine J_iadd qX6_remember_20 ?_
      refine J_aload_n (i := 0) qX6_remember_21 rfl rfl ?_
      refine J_getR qX6_remember_22 fX6_32 (by assumption) (by assumption) ?_
      refine J_iload_n (i := 1) qX6_remember_25 rfl rfl ?_
      refine J_ialde qX6_remember_26 (by assumption) rfl (by omega) (by (repeat first | with_reducible exact wI_e _ _ _ _ | (with_reducible apply rd_s; focus omega) | (with_reducible apply rd_c; focus omega) | (with_reducible apply rd_k; focus omega) | with_reducible exact rd_e (by omega)); first | done | assumption | rfl) ?_
      refine J_iast qX6_remember_27 (by assumption) rfl (by omega) ?_
      refine J_inc1 qX6_remember_28 (Nat.le_of_ble_eq_true rfl) (by first | with_reducible exact nI_inc _ | rfl) rfl ?_
      refine J_goto qX6_remember_31 ?_
      refine ih c1 _ (hF.w ⟨rfl, by omega⟩) (fun q hq => ?_)
      by_cases e : q = k
      · rw [e]; exact wI_e _ _ _ _
      · rw [wI_n (by omega)]; exact hinv q (by omega)
  exact H 0 (Nat.zero_le _) μ Fr.rf (fun q hq => absurd hq (Nat.not_lt_zero q))
theorem m_undo (hM : LayM G) (h : RelM μ s) (n : Int32) : Si mX6_undo (d+1) [.ref 198, .int n] G μ (fun q μ' => q = (undoS s n).1 ∧ RelM μ' (undoS s n).2 ∧ FrM μ μ') := by
  obtain ⟨mO, ⟨-, -, -, -, -, -, -, f17, -, f21, -⟩, ⟨-, -, -, -, -, -, -, b206, -, b208, -⟩⟩ := hM
  obtain ⟨p1, p2, p3, p4, p5, p6⟩ := h.2.2.1
  have k3 := p4.2.2.1
  refine Si_of (ls := [.ref 198, .int n, .null, .null]) (by decide +kernel) (Nat.le_of_ble_eq_true rfl) rfl ?_
  refine J_iload_n (i := 1) qX6_undo_0 rfl rfl ?_
  refine J_pushI qX6_undo_1 ?_
  refine J_aload_n (i := 0) qX6_undo_2 rfl rfl ?_
  refine J_getIe qX6_undo_3 fX6_204 (by assumption) (by (repeat first | with_reducible exact wI_e _ _ _ _ | (with_reducible apply rd_s; focus omega) | (with_reducible apply rd_c; focus omega) | (with_reducible apply rd_k; focus omega) | with_reducible exact rd_e (by omega)); first | done | assumption | rfl) ?_
  refine J_si3 qX6_undo_6 kX6_75 (m_in (d := d) n (nI 0) (lv ((sP s).2.length + 1))) (Nat.le_of_ble_eq_true rfl) (fun v1 μ' hr => ?_)
  rw [inB_lv (by omega)] at hr
  obtain ⟨rfl, rfl⟩ := hr
  cases hb : hasB ((sP s).2.length + 1) n with
  | false =>
    first | refine J_if_ne qX6_undo_9 (fun c => absurd b2i_f0 c) (fun _ => ?_) | refine J_if_ne qX6_undo_9 (fun _ => ?_) (fun c => absurd c b2i_t0)
    rw [show undoS s n = (-1, s) from if_pos hb]
    refine J_pushI qX6_undo_12 ?_
    refine Ji_ret qX6_undo_13 ?_
    exact ⟨rfl, h, FrM.rf⟩
  | true =>
    first | refine J_if_ne qX6_undo_9 (fun c => absurd b2i_f0 c) (fun _ => ?_) | refine J_if_ne qX6_undo_9 (fun _ => ?_) (fun c => absurd c b2i_t0)
    obtain ⟨m, hm, rfl⟩ := hasB_of (by omega) hb
    have eU : undoS s (nI m) = (nI ((sP s).2.length - m), uPrg s (backF (sP s) m)) := by unfold undoS; rw [if_neg (by rw [hb]; decide), ix_n (by omega)]
    have hb2 := back_ok p4 (m := m) (by omega)
    have tl : ((sP s).2.take m).length = m := by rw [List.length_take]; omega
    have hmh : ∀ ν : Mm, (∀ q, ν.1 208 q = μ.1 208 q) → MH ν 208 0 (backF (sP s) m).2 := fun ν hν e he => by
      have he2 : e < ((sP s).2.take m).length := he
      rw [tl] at he2
      have h5 := (p3 e (by omega)).ag (μ' := ν) (fun q _ _ => hν q)
      rw [show (backF (sP s) m).2.getD e [] = (sP s).2.getD e [] by
        show ((sP s).2.take m).getD e [] = _
        rw [List.getD_eq_getElem?_getD, List.getD_eq_getElem?_getD, List.getElem?_take_of_lt (by omega)]]
      exact h5
    refine J_aload_n (i := 0) qX6_undo_14 rfl rfl ?_
    refine J_getIe qX6_undo_15 fX6_204 (by assumption) (by (repeat first | with_reducible exact wI_e _ _ _ _ | (with_reducible apply rd_s; focus omega) | (with_reducible apply rd_c; focus omega) | (with_reducible apply rd_k; focus omega) | with_reducible exact rd_e (by omega)); first | done | assumption | rfl) ?_
    refine J_iload_n (i := 1) qX6_undo_18 rfl rfl ?_
    first | with_reducible refine J_isub_n qX6_undo_19 (by omega) ?_ | refine J_isub qX6_undo_19 ?_
    refine J_ist2 qX6_undo_20 (Nat.le_of_ble_eq_true rfl) rfl ?_
    refine J_pushI qX6_undo_21 ?_
    refine J_ist3 qX6_undo_22 (Nat.le_of_ble_eq_true rfl) rfl ?_
    by_cases cz : m = (sP s).2.length
    · rw [show (sP s).2.length - m = 0 by omega]
      refine J_iload_n (i := 3) qX6_undo_23 rfl rfl ?_
      refine J_pushI qX6_undo_24 ?_
      refine J_icmp_ge_n qX6_undo_26 (by omega) (by omega) (fun z => absurd z (by omega)) (fun _ => ?_)
      refine J_iload_n (i := 2) qX6_undo_29 rfl rfl ?_
      refine J_if_le_n qX6_undo_30 (by omega) (fun _ => ?_) (fun z => absurd z (Nat.lt_irrefl 0))
      refine J_aload_n (i := 0) qX6_undo_56 rfl rfl ?_
      refine J_iload_n (i := 1) qX6_undo_57 rfl rfl ?_
      refine J_putI qX6_undo_58 fX6_204p (by assumption) rfl rfl ?_
      refine J_iload_n (i := 2) qX6_undo_61 rfl rfl ?_
      refine Ji_ret qX6_undo_62 ?_
      rw [eU, show (sP s).2.length - m = 0 by omega]
      refine ⟨rfl, h.prog (fun c q z => wI_n (by omega)) rfl ?_ ?_ (hmh _ (fun q => wI_n (by omega))) hb2⟩
      · rw [cz, back_all]; exact p1.ag (fun q _ _ => wI_n (by omega))
      · rw [wI_e]
        show _ = nI ((sP s).2.take m).length
        rw [tl]
    · have H : ∀ k, k ≤ 49 → ∀ ν : Mm, Fr μ ν (fun c _ => c = 206) → (∀ q, q < k → ν.1 206 q = μ.1 208 (49 * m + q)) → J mX6_undo (d+1) (0, 0) s0 (Ki G (fun q μ' => q = (undoS s (nI m)).1 ∧ RelM μ' (undoS s (nI m)).2 ∧ FrM μ μ')) (0, 0) 23 [.ref 198, .int (nI m), .int (nI ((sP s).2.length - m)), .int (nI k)] [] (G, ν) := by
        refine ind_up (fun k hk ih ν hF hinv => ?_)
        refine J_iload_n (i := 3) qX6_undo_23 rfl rfl ?_
        refine J_pushI qX6_undo_24 ?_
        first | with_reducible refine J_icmp_ge_n qX6_undo_26 (by omega) (by omega) (fun c1 => ?_) (fun c1 => ?_) | refine J_icmp_ge qX6_undo_26 (fun c1 => ?_) (fun c1 => ?_)
        · refine J_aload_n (i := 0) qX6_undo_56 rfl rfl ?_
          refine J_iload_n (i := 1) qX6_undo_57 rfl rfl ?_
          refine J_putI qX6_undo_58 fX6_204p (by assumption) rfl rfl ?_
          refine J_iload_n (i := 2) qX6_undo_61 rfl rfl ?_
          refine Ji_ret qX6_undo_62 ?_
          rw [eU]
          refine ⟨rfl, h.prog (fun c q z => by rw [wI_n (by omega)]; exact hF.1 _ _ (by omega)) hF.2 ?_ ?_ (hmh _ (fun q => by rw [wI_n (by omega)]; exact hF.1 _ _ (by omega))) hb2⟩
          · rw [back_cs (by omega)]
            exact (p3 m (by omega)).cp (fun q hq => by rw [wI_n (by omega), Nat.zero_add, Nat.zero_add]; exact hinv q (by omega))
          · rw [wI_e]
            show _ = nI ((sP s).2.take m).length
            rw [tl]
        · have e6 : ν.1 208 (49 * m + k) = μ.1 208 (49 * m + k) := hF.1 _ _ (by omega)
          refine J_iload_n (i := 2) qX6_undo_29 rfl rfl ?_
          refine J_if_le_n qX6_undo_30 (by omega) (fun z => absurd z (by omega)) (fun _ => ?_)
          refine J_aload_n (i := 0) qX6_undo_33 rfl rfl ?_
          refine J_getR qX6_undo_34 fX6_32 (by assumption) (by assumption) ?_
          refine J_iload_n (i := 3) qX6_undo_37 rfl rfl ?_
          refine J_aload_n (i := 0) qX6_undo_38 rfl rfl ?_
          refine J_getR qX6_undo_39 fX6_38 (by assumption) (by assumption) ?_
          refine J_pushI qX6_undo_42 ?_
          refine J_iload_n (i := 1) qX6_undo_44 rfl rfl ?_
          first | with_reducible refine J_imul_n qX6_undo_45 ?_ | refine J_imul qX6_undo_45 ?_
          refine J_iload_n (i := 3) qX6_undo_46 rfl rfl ?_
          first | with_reducible refine J_iadd_n qX6_undo_47 ?_ | refine J_iadd qX6_undo_47 ?_
          refine J_ialde qX6_undo_48 (by assumption) rfl (by omega) (by (repeat first | with_reducible exact wI_e _ _ _ _ | (with_reducible apply rd_s; focus omega) | (with_reducible apply rd_c; focus omega) | (with_reducible apply rd_k; focus omega) | with_reducible exact rd_e (by omega)); first | done | assumption | rfl) ?_
          refine J_iast qX6_undo_49 (by assumption) rfl (by omega) ?_
          refine J_inc3 qX6_undo_50 (Nat.le_of_ble_eq_true rfl) (by first | with_reducible exact nI_inc _ | rfl) rfl ?_
          refine J_goto qX6_undo_53 ?_
          refine ih c1 _ (hF.w rfl) (fun q hq => ?_)
          by_cases e : q = k
          · rw [e]; exact wI_e _ _ _ _
          · rw [wI_n (by omega)]; exact hinv q (by omega)
      exact H 0 (Nat.zero_le _) μ Fr.rf (fun q hq => absurd hq (Nat.not_lt_zero q))
theorem m_keep (hM : LayM G) (h : RelM μ s) (k : Int32) : Si mX6_keep (d+1) [.ref 198, .int k] G μ (fun q μ' => q = (keepS s k).1 ∧ RelM μ' (keepS s k).2 ∧ FrM μ μ') := by
  obtain ⟨mO, ⟨-, -, -, -, -, -, -, f17, -, f21, f22, f23, -⟩, ⟨-, -, -, -, -, -, -, b206, -, b208, b209, b210, -⟩⟩ := hM
  obtain ⟨p1, p2, p3, p4, p5, p6⟩ := h.2.2.1
  have k3 := p4.2.2.1
  refine Si_of (ls := [.ref 198, .int k, .null]) (by decide +kernel) (Nat.le_of_ble_eq_true rfl) rfl ?_
  refine J_iload_n (i := 1) qX6_keep_0 rfl rfl ?_
  refine J_pushI qX6_keep_1 ?_
  refine J_pushI qX6_keep_2 ?_
  refine J_si3 qX6_keep_3 kX6_75 (m_in (d := d) k (nI 0) (lv 3)) (Nat.le_of_ble_eq_true rfl) (fun v1 μ' hr => ?_)
  rw [inB_lv (by omega)] at hr
  obtain ⟨rfl, rfl⟩ := hr
  cases hb : hasB 3 k with
  | false =>
    first | refine J_if_ne qX6_keep_6 (fun c => absurd b2i_f0 c) (fun _ => ?_) | refine J_if_ne qX6_keep_6 (fun _ => ?_) (fun c => absurd c b2i_t0)
    rw [show keepS s k = (-1, s) from if_pos hb]
    refine J_pushI qX6_keep_9 ?_
    refine Ji_ret qX6_keep_10 ?_
    exact ⟨rfl, h, FrM.rf⟩
  | true =>
    first | refine J_if_ne qX6_keep_6 (fun c => absurd b2i_f0 c) (fun _ => ?_) | refine J_if_ne qX6_keep_6 (fun _ => ?_) (fun c => absurd c b2i_t0)
    obtain ⟨j, hj, rfl⟩ := hasB_of (by omega) hb
    have eK : keepS s (nI j) = (nI (sP s).2.length, uKep s j (some (sP s))) := by unfold keepS; rw [if_neg (by rw [hb]; decide), ix_n (by omega)]
    refine J_aload_n (i := 0) qX6_keep_11 rfl rfl ?_
    refine J_getR qX6_keep_12 fX6_41 (by assumption) (by assumption) ?_
    refine J_iload_n (i := 1) qX6_keep_15 rfl rfl ?_
    refine J_aload_n (i := 0) qX6_keep_16 rfl rfl ?_
    refine J_getIe qX6_keep_17 fX6_204 (by assumption) (by (repeat first | with_reducible exact wI_e _ _ _ _ | (with_reducible apply rd_s; focus omega) | (with_reducible apply rd_c; focus omega) | (with_reducible apply rd_k; focus omega) | with_reducible exact rd_e (by omega)); first | done | assumption | rfl) ?_
    refine J_iast qX6_keep_20 (by assumption) rfl (by omega) ?_
    refine J_pushI qX6_keep_21 ?_
    refine J_ist2 qX6_keep_22 (Nat.le_of_ble_eq_true rfl) rfl ?_
    have H2 : ∀ i, i ≤ 49 * (sP s).2.length → ∀ ν : Mm, Fr μ ν (fun c q => (c = 209 ∧ q = j) ∨ (c = 210 ∧ 2009 * j ≤ q ∧ q < 2009 * j + 2009)) → ν.1 209 j = nI (sP s).2.length → (∀ q, q < 49 → ν.1 210 (2009 * j + q) = μ.1 206 q) → (∀ q, q < i → ν.1 210 (2009 * j + 49 + q) = μ.1 208 q) → J mX6_keep (d+1) (0, 0) s0 (Ki G (fun q μ' => q = (keepS s (nI j)).1 ∧ RelM μ' (keepS s (nI j)).2 ∧ FrM μ μ')) (0, 0) 55 [.ref 198, .int (nI j), .int (nI i)] [] (G, ν) := by
      refine ind_up (fun i hi ih ν hF h9 hn hl => ?_)
      have e20 : ν.1 198 20 = nI (sP s).2.length := (hF.1 _ _ (by omega)).trans p2
      refine J_iload_n (i := 2) qX6_keep_55 rfl rfl ?_
      refine J_pushI qX6_keep_56 ?_
      refine J_aload_n (i := 0) qX6_keep_58 rfl rfl ?_
      refine J_getIe qX6_keep_59 fX6_204 (by assumption) (by (repeat first | with_reducible exact wI_e _ _ _ _ | (with_reducible apply rd_s; focus omega) | (with_reducible apply rd_c; focus omega) | (with_reducible apply rd_k; focus omega) | with_reducible exact rd_e (by omega)); first | done | assumption | rfl) ?_
      first | with_reducible refine J_imul_n qX6_keep_62 ?_ | refine J_imul qX6_keep_62 ?_
      first | with_reducible refine J_icmp_ge_n qX6_keep_63 (by omega) (by omega) (fun c1 => ?_) (fun c1 => ?_) | refine J_icmp_ge qX6_keep_63 (fun c1 => ?_) (fun c1 => ?_)
      · refine J_aload_n (i := 0) qX6_keep_93 rfl rfl ?_
        refine J_getIe qX6_keep_94 fX6_204 (by assumption) (by (repeat first | with_reducible exact wI_e _ _ _ _ | (with_reducible apply rd_s; focus omega) | (with_reducible apply rd_c; focus omega) | (with_reducible apply rd_k; focus omega) | with_reducible exact rd_e (by omega)); first | done | assumption | rfl) ?_
        refine Ji_ret qX6_keep_97 ?_
        rw [eK]
        have a : ∀ c, c ≠ 209 → c ≠ 210 → Ac μ ν c := fun c x y q => hF.1 _ _ (by omega)
        refine ⟨rfl, ⟨h.1.ag (a _ (by omega) (by omega)) (a _ (by omega) (by omega)), h.2.1.ag (a _ (by omega) (by omega)) (a _ (by omega) (by omega)), h.2.2.1.ag (a _ (by omega) (by omega)) (a _ (by omega) (by omega)) (a _ (by omega) (by omega) _) (a _ (by omega) (by omega) _), fun e he => ?_, h.2.2.2.2.ag (a _ (by omega) (by omega) _) (a _ (by omega) (by omega) _) (a _ (by omega) (by omega)) (by rw [hF.2])⟩, fun c q z => hF.1 _ _ (by omega), fun c q z => by rw [hF.2]⟩
        show MK ν e (fup (sKp s) j (some (sP s)) e)
        by_cases q : e = j
        · subst q
          rw [fup_e]
          refine ⟨h9, p1.cp (fun q hq => by rw [Nat.zero_add]; exact hn q hq), fun e2 he2 => (p3 e2 he2).cp (fun q hq => ?_), p4⟩
          rw [show 2009 * e + 49 + 49 * e2 + q = 2009 * e + 49 + (49 * e2 + q) by omega, hl _ (by omega), Nat.zero_add]
        · rw [fup_n q]
          exact (h.2.2.2.1 e he).ag (hF.1 _ _ (by omega)) (fun z x y => hF.1 _ _ (by omega))
      · have e8 : ν.1 208 i = μ.1 208 i := hF.1 _ _ (by omega)
        refine J_aload_n (i := 0) qX6_keep_66 rfl rfl ?_
        refine J_getR qX6_keep_67 fX6_44 (by assumption) (by assumption) ?_
        refine J_pushI qX6_keep_70 ?_
        refine J_iload_n (i := 1) qX6_keep_73 rfl rfl ?_
        first | with_reducible refine J_imul_n qX6_keep_74 ?_ | refine J_imul qX6_keep_74 ?_
        refine J_pushI qX6_keep_75 ?_
        first | with_reducible refine J_iadd_n qX6_keep_77 ?_ | refine J_iadd qX6_keep_77 ?_
        refine J_iload_n (i := 2) qX6_keep_78 rfl rfl ?_
        first | with_reducible refine J_iadd_n qX6_keep_79 ?_ | refine J_iadd qX6_keep_79 ?_
        refine J_aload_n (i := 0) qX6_keep_80 rfl rfl ?_
        refine J_getR qX6_keep_81 fX6_38 (by assumption) (by assumption) ?_
        refine J_iload_n (i := 2) qX6_keep_84 rfl rfl ?_
        refine J_ialde qX6_keep_85 (by assumption) rfl (by omega) (by (repeat first | with_reducible exact wI_e _ _ _ _ | (with_reducible apply rd_s; focus omega) | (with_reducible apply rd_c; focus omega) | (with_reducible apply rd_k; focus omega) | with_reducible exact rd_e (by omega)); first | done | assumption | rfl) ?_
        refine J_iast qX6_keep_86 (by assumption) rfl (by omega) ?_
        refine J_inc2 qX6_keep_87 (Nat.le_of_ble_eq_true rfl) (by first | with_reducible exact nI_inc _ | rfl) rfl ?_
        refine J_goto qX6_keep_90 ?_
        refine ih c1 _ (hF.w (Or.inr ⟨rfl, by omega, by omega⟩)) (by rw [wI_n (by omega)]; exact h9) (fun q hq => by rw [wI_n (by omega)]; exact hn q hq) (fun q hq => ?_)
        by_cases e : q = i
        · rw [e]; exact wI_e _ _ _ _
        · rw [wI_n (by omega)]; exact hl q (by omega)
    have H1 : ∀ i, i ≤ 49 → ∀ ν : Mm, Fr μ ν (fun c q => (c = 209 ∧ q = j) ∨ (c = 210 ∧ 2009 * j ≤ q ∧ q < 2009 * j + 2009)) → ν.1 209 j = nI (sP s).2.length → (∀ q, q < i → ν.1 210 (2009 * j + q) = μ.1 206 q) → J mX6_keep (d+1) (0, 0) s0 (Ki G (fun q μ' => q = (keepS s (nI j)).1 ∧ RelM μ' (keepS s (nI j)).2 ∧ FrM μ μ')) (0, 0) 23 [.ref 198, .int (nI j), .int (nI i)] [] (G, ν) := by
      refine ind_up (fun i hi ih ν hF h9 hn => ?_)
      refine J_iload_n (i := 2) qX6_keep_23 rfl rfl ?_
      refine J_pushI qX6_keep_24 ?_
      first | with_reducible refine J_icmp_ge_n qX6_keep_26 (by omega) (by omega) (fun c1 => ?_) (fun c1 => ?_) | refine J_icmp_ge qX6_keep_26 (fun c1 => ?_) (fun c1 => ?_)
      · refine J_pushI qX6_keep_53 ?_
        refine J_ist2 qX6_keep_54 (Nat.le_of_ble_eq_true rfl) rfl ?_
        exact H2 0 (Nat.zero_le _) ν hF h9 (fun q hq => hn q (by omega)) (fun q hq => absurd hq (Nat.not_lt_zero q))
      · have e6 : ν.1 206 i = μ.1 206 i := hF.1 _ _ (by omega)
        refine J_aload_n (i := 0) qX6_keep_29 rfl rfl ?_
        refine J_getR qX6_keep_30 fX6_44 (by assumption) (by assumption) ?_
        refine J_pushI qX6_keep_33 ?_
        refine J_iload_n (i := 1) qX6_keep_36 rfl rfl ?_
        first | with_reducible refine J_imul_n qX6_keep_37 ?_ | refine J_imul qX6_keep_37 ?_
        refine J_iload_n (i := 2) qX6_keep_38 rfl rfl ?_
        first | with_reducible refine J_iadd_n qX6_keep_39 ?_ | refine J_iadd qX6_keep_39 ?_
        refine J_aload_n (i := 0) qX6_keep_40 rfl rfl ?_
        refine J_getR qX6_keep_41 fX6_32 (by assumption) (by assumption) ?_
        refine J_iload_n (i := 2) qX6_keep_44 rfl rfl ?_
        refine J_ialde qX6_keep_45 (by assumption) rfl (by omega) (by (repeat first | with_reducible exact wI_e _ _ _ _ | (with_reducible apply rd_s; focus omega) | (with_reducible apply rd_c; focus omega) | (with_reducible apply rd_k; focus omega) | with_reducible exact rd_e (by omega)); first | done | assumption | rfl) ?_
        refine J_iast qX6_keep_46 (by assumption) rfl (by omega) ?_
        refine J_inc2 qX6_keep_47 (Nat.le_of_ble_eq_true rfl) (by first | with_reducible exact nI_inc _ | rfl) rfl ?_
        refine J_goto qX6_keep_50 ?_
        refine ih c1 _ (hF.w (Or.inr ⟨rfl, by omega, by omega⟩)) (by rw [wI_n (by omega)]; exact h9) (fun q hq => ?_)
        by_cases e : q = i
        · rw [e]; exact wI_e _ _ _ _
        · rw [wI_n (by omega)]; exact hn q (by omega)
    exact H1 0 (Nat.zero_le _) _ (Fr.w Fr.rf (Or.inl ⟨rfl, rfl⟩)) (wI_e _ _ _ _) (fun q hq => absurd hq (Nat.not_lt_zero q))
theorem m_on (hM : LayM G) (h : RelM μ s) (k : Int32) : Si mX6_on (d+1) [.ref 198, .int k] G μ (fun q μ' => q = (onS s k).1 ∧ RelM μ' (onS s k).2 ∧ FrM μ μ') := by
  have hM0 := hM
  obtain ⟨mO, ⟨-, -, -, -, -, -, -, f17, -, f21, f22, f23, -⟩, ⟨-, -, -, -, -, -, -, b206, -, b208, b209, b210, -⟩⟩ := hM
  refine Si_of (ls := [.ref 198, .int k, .null]) (by decide +kernel) (Nat.le_of_ble_eq_true rfl) rfl ?_
  refine J_iload_n (i := 1) qX6_on_0 rfl rfl ?_
  refine J_pushI qX6_on_1 ?_
  refine J_pushI qX6_on_2 ?_
  refine J_si3 qX6_on_3 kX6_75 (m_in (d := d) k (nI 0) (lv 3)) (Nat.le_of_ble_eq_true rfl) (fun v1 μ' hr => ?_)
  rw [inB_lv (by omega)] at hr
  obtain ⟨rfl, rfl⟩ := hr
  cases hb : hasB 3 k with
  | false =>
    first | refine J_if_ne qX6_on_6 (fun c => absurd b2i_f0 c) (fun _ => ?_) | refine J_if_ne qX6_on_6 (fun _ => ?_) (fun c => absurd c b2i_t0)
    rw [show onS s k = (-1, s) from if_pos hb]
    refine J_pushI qX6_on_9 ?_
    refine Ji_ret qX6_on_10 ?_
    exact ⟨rfl, h, FrM.rf⟩
  | true =>
    first | refine J_if_ne qX6_on_6 (fun c => absurd b2i_f0 c) (fun _ => ?_) | refine J_if_ne qX6_on_6 (fun _ => ?_) (fun c => absurd c b2i_t0)
    obtain ⟨j, hj, rfl⟩ := hasB_of (by omega) hb
    have hK := h.2.2.2.1 j hj
    cases hm : sKp s j with
    | none =>
      rw [hm] at hK
      have e : μ.1 209 j = -1 := hK
      rw [onS_n hb hj hm]
      refine J_aload_n (i := 0) qX6_on_11 rfl rfl ?_
      refine J_getR qX6_on_12 fX6_41 (by assumption) (by assumption) ?_
      refine J_iload_n (i := 1) qX6_on_15 rfl rfl ?_
      refine J_ialde qX6_on_16 (by assumption) rfl (by omega) (by (repeat first | with_reducible exact wI_e _ _ _ _ | (with_reducible apply rd_s; focus omega) | (with_reducible apply rd_c; focus omega) | (with_reducible apply rd_k; focus omega) | with_reducible exact rd_e (by omega)); first | done | assumption | rfl) ?_
      refine J_if_ge qX6_on_17 (fun c => absurd c (by decide)) (fun _ => ?_)
      refine J_aload_n (i := 0) qX6_on_20 rfl rfl ?_
      refine J_pushI qX6_on_21 ?_
      refine J_vi1 qX6_on_22 kX6_83 (by assumption) (m_found (d := d) hM0 h (f := 1) (by omega)) (Nat.le_of_ble_eq_true rfl) (fun v1 ν hr => ?_)
      refine Ji_ret qX6_on_25 ?_
      exact hr
    | some g =>
      rw [hm] at hK
      obtain ⟨e, g1, g2, g3⟩ := hK
      have eO := onS_s hb hj hm
      have k3 := g3.2.2.1
      refine J_aload_n (i := 0) qX6_on_11 rfl rfl ?_
      refine J_getR qX6_on_12 fX6_41 (by assumption) (by assumption) ?_
      refine J_iload_n (i := 1) qX6_on_15 rfl rfl ?_
      refine J_ialde qX6_on_16 (by assumption) rfl (by omega) (by (repeat first | with_reducible exact wI_e _ _ _ _ | (with_reducible apply rd_s; focus omega) | (with_reducible apply rd_c; focus omega) | (with_reducible apply rd_k; focus omega) | with_reducible exact rd_e (by omega)); first | done | assumption | rfl) ?_
      refine J_if_ge_n qX6_on_17 (by omega) ?_
      refine J_aload_n (i := 0) qX6_on_26 rfl rfl ?_
      refine J_aload_n (i := 0) qX6_on_27 rfl rfl ?_
      refine J_getR qX6_on_28 fX6_41 (by assumption) (by assumption) ?_
      refine J_iload_n (i := 1) qX6_on_31 rfl rfl ?_
      refine J_ialde qX6_on_32 (by assumption) rfl (by omega) (by (repeat first | with_reducible exact wI_e _ _ _ _ | (with_reducible apply rd_s; focus omega) | (with_reducible apply rd_c; focus omega) | (with_reducible apply rd_k; focus omega) | with_reducible exact rd_e (by omega)); first | done | assumption | rfl) ?_
      refine J_putI qX6_on_33 fX6_204p (by assumption) rfl rfl ?_
      refine J_pushI qX6_on_36 ?_
      refine J_ist2 qX6_on_37 (Nat.le_of_ble_eq_true rfl) rfl ?_
      have H2 : ∀ i, i ≤ 49 * g.2.length → ∀ ν : Mm, Fr μ ν (fun c q => (c = 198 ∧ q = 20) ∨ c = 206 ∨ c = 208) → ν.1 198 20 = nI g.2.length → (∀ q, q < 49 → ν.1 206 q = μ.1 210 (2009 * j + q)) → (∀ q, q < i → ν.1 208 q = μ.1 210 (2009 * j + 49 + q)) → J mX6_on (d+1) (0, 0) s0 (Ki G (fun q μ' => q = (onS s (nI j)).1 ∧ RelM μ' (onS s (nI j)).2 ∧ FrM μ μ')) (0, 0) 70 [.ref 198, .int (nI j), .int (nI i)] [] (G, ν) := by
        refine ind_up (fun i hi ih ν hF h9 hn hl => ?_)
        refine J_iload_n (i := 2) qX6_on_70 rfl rfl ?_
        refine J_pushI qX6_on_71 ?_
        refine J_aload_n (i := 0) qX6_on_73 rfl rfl ?_
        refine J_getIe qX6_on_74 fX6_204 (by assumption) (by (repeat first | with_reducible exact wI_e _ _ _ _ | (with_reducible apply rd_s; focus omega) | (with_reducible apply rd_c; focus omega) | (with_reducible apply rd_k; focus omega) | with_reducible exact rd_e (by omega)); first | done | assumption | rfl) ?_
        first | with_reducible refine J_imul_n qX6_on_77 ?_ | refine J_imul qX6_on_77 ?_
        first | with_reducible refine J_icmp_ge_n qX6_on_78 (by omega) (by omega) (fun c1 => ?_) (fun c1 => ?_) | refine J_icmp_ge qX6_on_78 (fun c1 => ?_) (fun c1 => ?_)
        · refine J_aload_n (i := 0) qX6_on_108 rfl rfl ?_
          refine J_getIe qX6_on_109 fX6_204 (by assumption) (by (repeat first | with_reducible exact wI_e _ _ _ _ | (with_reducible apply rd_s; focus omega) | (with_reducible apply rd_c; focus omega) | (with_reducible apply rd_k; focus omega) | with_reducible exact rd_e (by omega)); first | done | assumption | rfl) ?_
          refine Ji_ret qX6_on_112 ?_
          rw [eO]
          refine ⟨rfl, h.prog (fun c q z => hF.1 _ _ (by omega)) hF.2 (g1.cp (fun q hq => by rw [Nat.zero_add]; exact hn q hq)) h9 (fun e2 he2 => (g2 e2 he2).cp (fun q hq => ?_)) g3⟩
          rw [Nat.zero_add, hl _ (by omega)]
          rw [show 2009 * j + 49 + 49 * e2 + q = 2009 * j + 49 + (49 * e2 + q) by omega]
        · have e8 : ν.1 210 (2009 * j + 49 + i) = μ.1 210 (2009 * j + 49 + i) := hF.1 _ _ (by omega)
          refine J_aload_n (i := 0) qX6_on_81 rfl rfl ?_
          refine J_getR qX6_on_82 fX6_38 (by assumption) (by assumption) ?_
          refine J_iload_n (i := 2) qX6_on_85 rfl rfl ?_
          refine J_aload_n (i := 0) qX6_on_86 rfl rfl ?_
          refine J_getR qX6_on_87 fX6_44 (by assumption) (by assumption) ?_
          refine J_pushI qX6_on_90 ?_
          refine J_iload_n (i := 1) qX6_on_93 rfl rfl ?_
          first | with_reducible refine J_imul_n qX6_on_94 ?_ | refine J_imul qX6_on_94 ?_
          refine J_pushI qX6_on_95 ?_
          first | with_reducible refine J_iadd_n qX6_on_97 ?_ | refine J_iadd qX6_on_97 ?_
          refine J_iload_n (i := 2) qX6_on_98 rfl rfl ?_
          first | with_reducible refine J_iadd_n qX6_on_99 ?_ | refine J_iadd qX6_on_99 ?_
          refine J_ialde qX6_on_100 (by assumption) rfl (by omega) (by (repeat first | with_reducible exact wI_e _ _ _ _ | (with_reducible apply rd_s; focus omega) | (with_reducible apply rd_c; focus omega) | (with_reducible apply rd_k; focus omega) | with_reducible exact rd_e (by omega)); first | done | assumption | rfl) ?_
          refine J_iast qX6_on_101 (by assumption) rfl (by omega) ?_
          refine J_inc2 qX6_on_102 (Nat.le_of_ble_eq_true rfl) (by first | with_reducible exact nI_inc _ | rfl) rfl ?_
          refine J_goto qX6_on_105 ?_
          refine ih c1 _ (hF.w (Or.inr (Or.inr rfl))) (by rw [wI_n (by omega)]; exact h9) (fun q hq => by rw [wI_n (by omega)]; exact hn q hq) (fun q hq => ?_)
          by_cases e : q = i
          · rw [e]; exact wI_e _ _ _ _
          · rw [wI_n (by omega)]; exact hl q (by omega)
      have H1 : ∀ i, i ≤ 49 → ∀ ν : Mm, Fr μ ν (fun c q => (c = 198 ∧ q = 20) ∨ c = 206 ∨ c = 208) → ν.1 198 20 = nI g.2.length → (∀ q, q < i → ν.1 206 q = μ.1 210 (2009 * j + q)) → J mX6_on (d+1) (0, 0) s0 (Ki G (fun q μ' => q = (onS s (nI j)).1 ∧ RelM μ' (onS s (nI j)).2 ∧ FrM μ μ')) (0, 0) 38 [.ref 198, .int (nI j), .int (nI i)] [] (G, ν) := by
        refine ind_up (fun i hi ih ν hF h9 hn => ?_)
        refine J_iload_n (i := 2) qX6_on_38 rfl rfl ?_
        refine J_pushI qX6_on_39 ?_
        first | with_reducible refine J_icmp_ge_n qX6_on_41 (by omega) (by omega) (fun c1 => ?_) (fun c1 => ?_) | refine J_icmp_ge qX6_on_41 (fun c1 => ?_) (fun c1 => ?_)
        · refine J_pushI qX6_on_68 ?_
          refine J_ist2 qX6_on_69 (Nat.le_of_ble_eq_true rfl) rfl ?_
          exact H2 0 (Nat.zero_le _) ν hF h9 (fun q hq => hn q (by omega)) (fun q hq => absurd hq (Nat.not_lt_zero q))
        · have e6 : ν.1 210 (2009 * j + i) = μ.1 210 (2009 * j + i) := hF.1 _ _ (by omega)
          refine J_aload_n (i := 0) qX6_on_44 rfl rfl ?_
          refine J_getR qX6_on_45 fX6_32 (by assumption) (by assumption) ?_
          refine J_iload_n (i := 2) qX6_on_48 rfl rfl ?_
          refine J_aload_n (i := 0) qX6_on_49 rfl rfl ?_
          refine J_getR qX6_on_50 fX6_44 (by assumption) (by assumption) ?_
          refine J_pushI qX6_on_53 ?_
          refine J_iload_n (i := 1) qX6_on_56 rfl rfl ?_
          first | with_reducible refine J_imul_n qX6_on_57 ?_ | refine J_imul qX6_on_57 ?_
          refine J_iload_n (i := 2) qX6_on_58 rfl rfl ?_
          first | with_reducible refine J_iadd_n qX6_on_59 ?_ | refine J_iadd qX6_on_59 ?_
          refine J_ialde qX6_on_60 (by assumption) rfl (by omega) (by (repeat first | with_reducible exact wI_e _ _ _ _ | (with_reducible apply rd_s; focus omega) | (with_reducible apply rd_c; focus omega) | (with_reducible apply rd_k; focus omega) | with_reducible exact rd_e (by omega)); first | done | assumption | rfl) ?_
          refine J_iast qX6_on_61 (by assumption) rfl (by omega) ?_
          refine J_inc2 qX6_on_62 (Nat.le_of_ble_eq_true rfl) (by first | with_reducible exact nI_inc _ | rfl) rfl ?_
          refine J_goto qX6_on_65 ?_
          refine ih c1 _ (hF.w (Or.inr (Or.inl rfl))) (by rw [wI_n (by omega)]; exact h9) (fun q hq => ?_)
          by_cases e : q = i
          · rw [e]; exact wI_e _ _ _ _
          · rw [wI_n (by omega)]; exact hn q (by omega)
      exact H1 0 (Nat.zero_le _) _ (Fr.w Fr.rf (Or.inl ⟨rfl, rfl⟩)) (wI_e _ _ _ _) (fun q hq => absurd hq (Nat.not_lt_zero q))
theorem m_add (hM : LayM G) (h : RelM μ s) (lo hi a w : Int32) : Si mX6_add (d+1) [.ref 198, .int lo, .int hi, .int a, .int w] G μ (fun q μ' => q = (addS s lo hi a w).1 ∧ RelM μ' (addS s lo hi a w).2 ∧ FrM μ μ') := by
  have hM0 := hM
  obtain ⟨mO, ⟨-, -, -, -, -, -, -, f17, -⟩, ⟨-, -, -, -, -, -, -, b206, -⟩⟩ := hM
  obtain ⟨p1, p2, p3, p4, p5, p6⟩ := h.2.2.1
  obtain ⟨k1, k2, k3, k4⟩ := p4
  have e0 := p1.n0
  have bad : (hi < lo ∨ hasB 8 a = false ∨ hasB 10 w = false) → J mX6_add (d+1) (0, 0) s0 (Ki G (fun q μ' => q = (addS s lo hi a w).1 ∧ RelM μ' (addS s lo hi a w).2 ∧ FrM μ μ')) (0, 0) 26 [.ref 198, .int lo, .int hi, .int a, .int w] [] (G, μ) := fun hb => by
    rw [show addS s lo hi a w = (-1, s) from if_pos hb]
    refine J_pushI qX6_add_26 ?_
    refine Ji_ret qX6_add_27 ?_
    exact ⟨rfl, h, FrM.rf⟩
  refine Si_of (ls := [.ref 198, .int lo, .int hi, .int a, .int w]) (by decide +kernel) (Nat.le_of_ble_eq_true rfl) rfl ?_
  refine J_iload_n (i := 1) qX6_add_0 rfl rfl ?_
  refine J_iload_n (i := 2) qX6_add_1 rfl rfl ?_
  refine J_icmp_gt qX6_add_2 (fun c1 => bad (Or.inl c1)) (fun c1 => ?_)
  refine J_iload_n (i := 3) qX6_add_5 rfl rfl ?_
  refine J_pushI qX6_add_6 ?_
  refine J_pushI qX6_add_7 ?_
  refine J_si3 qX6_add_9 kX6_75 (m_in (d := d) a (nI 0) (lv 8)) (Nat.le_of_ble_eq_true rfl) (fun v1 μ' hr => ?_)
  rw [inB_lv (by omega)] at hr
  obtain ⟨rfl, rfl⟩ := hr
  cases hb : hasB 8 a with
  | false =>
    first | refine J_if_eq qX6_add_12 (fun _ => ?_) (fun c => absurd b2i_f0 c) | refine J_if_eq qX6_add_12 (fun c => absurd c b2i_t0) (fun _ => ?_)
    exact bad (Or.inr (Or.inl hb))
  | true =>
    first | refine J_if_eq qX6_add_12 (fun _ => ?_) (fun c => absurd b2i_f0 c) | refine J_if_eq qX6_add_12 (fun c => absurd c b2i_t0) (fun _ => ?_)
    refine J_iload (i := 4) qX6_add_15 rfl ?_
    refine J_pushI qX6_add_17 ?_
    refine J_pushI qX6_add_18 ?_
    refine J_si3 qX6_add_20 kX6_75 (m_in (d := d) w (nI 0) (lv 10)) (Nat.le_of_ble_eq_true rfl) (fun v1 μ' hr => ?_)
    rw [inB_lv (by omega)] at hr
    obtain ⟨rfl, rfl⟩ := hr
    cases hb2 : hasB 10 w with
    | false =>
      first | refine J_if_ne qX6_add_23 (fun c => absurd b2i_f0 c) (fun _ => ?_) | refine J_if_ne qX6_add_23 (fun _ => ?_) (fun c => absurd c b2i_t0)
      exact bad (Or.inr (Or.inr hb2))
    | true =>
      first | refine J_if_ne qX6_add_23 (fun c => absurd b2i_f0 c) (fun _ => ?_) | refine J_if_ne qX6_add_23 (fun _ => ?_) (fun c => absurd c b2i_t0)
      have hno : ¬ (hi < lo ∨ hasB 8 a = false ∨ hasB 10 w = false) := by rw [hb, hb2]; simp [c1]
      clear bad
      refine J_aload_n (i := 0) qX6_add_28 rfl rfl ?_
      refine J_getR qX6_add_29 fX6_32 (by assumption) (by assumption) ?_
      refine J_iload_n (i := 1) qX6_add_32 rfl rfl ?_
      refine J_iload_n (i := 2) qX6_add_33 rfl rfl ?_
      refine J_si3 qX6_add_34 kX6_166 (m_isFree (d := d) b206 p1 lo hi) (Nat.le_of_ble_eq_true rfl) (fun v1 μ' hr => ?_)
      obtain ⟨rfl, rfl⟩ := hr
      cases hf : freeB (sP s).1 lo hi with
      | false =>
        first | refine J_if_ne qX6_add_37 (fun c => absurd b2i_f0 c) (fun _ => ?_) | refine J_if_ne qX6_add_37 (fun _ => ?_) (fun c => absurd c b2i_t0)
        rw [show addS s lo hi a w = (-4, s) from (if_neg hno).trans (if_pos hf)]
        refine J_pushI qX6_add_40 ?_
        refine Ji_ret qX6_add_42 ?_
        exact ⟨rfl, h, FrM.rf⟩
      | true =>
        first | refine J_if_ne qX6_add_37 (fun c => absurd b2i_f0 c) (fun _ => ?_) | refine J_if_ne qX6_add_37 (fun _ => ?_) (fun c => absurd c b2i_t0)
        have e1 : addS s lo hi a w = if 12 ≤ (sP s).1.length ∨ 40 ≤ (sP s).2.length then (-2, s) else (nI (posF (sP s).1 lo (sP s).1.length), uPrg s (insF (sP s).1 (lo, hi, ix a, ix w), (sP s).2 ++ [(sP s).1])) := (if_neg hno).trans (if_neg (by rw [hf]; decide))
        rw [e1]
        obtain ⟨aa, ha, rfl⟩ := hasB_of (by omega) hb
        obtain ⟨ww, hw, rfl⟩ := hasB_of (by omega) hb2
        rw [ix_n (by omega), ix_n (by omega)]
        refine J_aload_n (i := 0) qX6_add_43 rfl rfl ?_
        refine J_getR qX6_add_44 fX6_32 (by assumption) (by assumption) ?_
        refine J_pushI qX6_add_47 ?_
        refine J_ialde qX6_add_48 (by assumption) rfl (by omega) (by (repeat first | with_reducible exact wI_e _ _ _ _ | (with_reducible apply rd_s; focus omega) | (with_reducible apply rd_c; focus omega) | (with_reducible apply rd_k; focus omega) | with_reducible exact rd_e (by omega)); first | done | assumption | rfl) ?_
        refine J_pushI qX6_add_49 ?_
        refine J_icmp_eq_n qX6_add_51 (by omega) (by omega) (fun c2 => ?_) (fun c2 => ?_)
        · rw [if_pos (Or.inl (by omega))]
          refine J_pushI qX6_add_63 ?_
          refine Ji_ret qX6_add_65 ?_
          exact ⟨rfl, h, FrM.rf⟩
        · refine J_aload_n (i := 0) qX6_add_54 rfl rfl ?_
          refine J_getIe qX6_add_55 fX6_204 (by assumption) (by (repeat first | with_reducible exact wI_e _ _ _ _ | (with_reducible apply rd_s; focus omega) | (with_reducible apply rd_c; focus omega) | (with_reducible apply rd_k; focus omega) | with_reducible exact rd_e (by omega)); first | done | assumption | rfl) ?_
          refine J_pushI qX6_add_58 ?_
          refine J_icmp_ne_n qX6_add_60 (by omega) (by omega) (fun c3 => ?_) (fun c3 => ?_)
          · rw [if_neg (by omega)]
            refine J_aload_n (i := 0) qX6_add_66 rfl rfl ?_
            refine J_vv0 qX6_add_67 kX6_224 (by assumption) (m_remember (d := d) hM0 h (by omega)) (Nat.le_of_ble_eq_true rfl) (fun ν hr => ?_)
            obtain ⟨g1, g2⟩ := hr
            refine J_aload_n (i := 0) qX6_add_70 rfl rfl ?_
            refine J_getR qX6_add_71 fX6_32 (by assumption) (by assumption) ?_
            refine J_iload_n (i := 1) qX6_add_74 rfl rfl ?_
            refine J_iload_n (i := 2) qX6_add_75 rfl rfl ?_
            refine J_iload_n (i := 3) qX6_add_76 rfl rfl ?_
            refine J_iload (i := 4) qX6_add_77 rfl ?_
            refine J_si5 qX6_add_79 kX6_148 (m_comes (d := d) (cs := (sP s).1) b206 g1.2.2.1.1 lo hi aa ww (by omega)) (Nat.le_of_ble_eq_true rfl) (fun v1 ν1 hr => ?_)
            obtain ⟨rfl, g3, g4⟩ := hr
            refine Ji_ret qX6_add_82 ?_
            obtain ⟨g5, g6⟩ := g1.now g4 g3 (ok_ins k1 (i32_nlt c1) hf ha hw)
            exact ⟨rfl, g5, g2.tr g6⟩
          · rw [if_pos (Or.inr (by omega))]
            refine J_pushI qX6_add_63 ?_
            refine Ji_ret qX6_add_65 ?_
            exact ⟨rfl, h, FrM.rf⟩
theorem m_cut (hM : LayM G) (h : RelM μ s) (i : Int32) : Si mX6_cut (d+2) [.ref 198, .int i] G μ (fun q μ' => q = (cutS s i).1 ∧ RelM μ' (cutS s i).2 ∧ FrM μ μ') := by
  have hM0 := hM
  obtain ⟨mO, ⟨-, -, -, -, -, -, -, f17, -⟩, ⟨-, -, -, -, -, -, -, b206, -⟩⟩ := hM
  obtain ⟨p1, p2, p3, p4, p5, p6⟩ := h.2.2.1
  obtain ⟨k1, k2, k3, k4⟩ := p4
  refine Si_of (ls := [.ref 198, .int i]) (by decide +kernel) (Nat.le_of_ble_eq_true rfl) rfl ?_
  refine J_aload_n (i := 0) qX6_cut_0 rfl rfl ?_
  refine J_iload_n (i := 1) qX6_cut_1 rfl rfl ?_
  refine J_vi1 qX6_cut_2 kX6_221 (by assumption) (m_isCase (d := d) hM0 p1 i) (Nat.le_of_ble_eq_true rfl) (fun v1 μ' hr => ?_)
  obtain ⟨rfl, rfl⟩ := hr
  cases hb : hasB (sP s).1.length i with
  | false =>
    first | refine J_if_ne qX6_cut_5 (fun c => absurd b2i_f0 c) (fun _ => ?_) | refine J_if_ne qX6_cut_5 (fun _ => ?_) (fun c => absurd c b2i_t0)
    rw [show cutS s i = (-1, s) from if_pos hb]
    refine J_pushI qX6_cut_8 ?_
    refine Ji_ret qX6_cut_9 ?_
    exact ⟨rfl, h, FrM.rf⟩
  | true =>
    first | refine J_if_ne qX6_cut_5 (fun c => absurd b2i_f0 c) (fun _ => ?_) | refine J_if_ne qX6_cut_5 (fun _ => ?_) (fun c => absurd c b2i_t0)
    have e1 : cutS s i = if 40 ≤ (sP s).2.length then (-2, s) else (nI ((sP s).1.length - 1), uPrg s ((sP s).1.eraseIdx (ix i), (sP s).2 ++ [(sP s).1])) := if_neg (by rw [hb]; decide)
    rw [e1]
    obtain ⟨k, hk, rfl⟩ := hasB_of (by omega) hb
    rw [ix_n (by omega)]
    refine J_aload_n (i := 0) qX6_cut_10 rfl rfl ?_
    refine J_getIe qX6_cut_11 fX6_204 (by assumption) (by (repeat first | with_reducible exact wI_e _ _ _ _ | (with_reducible apply rd_s; focus omega) | (with_reducible apply rd_c; focus omega) | (with_reducible apply rd_k; focus omega) | with_reducible exact rd_e (by omega)); first | done | assumption | rfl) ?_
    refine J_pushI qX6_cut_14 ?_
    refine J_icmp_ne_n qX6_cut_16 (by omega) (by omega) (fun c3 => ?_) (fun c3 => ?_)
    · rw [if_neg (by omega)]
      refine J_aload_n (i := 0) qX6_cut_22 rfl rfl ?_
      refine J_vv0 qX6_cut_23 kX6_224 (by assumption) (m_remember (d := d + 1) hM0 h (by omega)) (Nat.le_of_ble_eq_true rfl) (fun ν hr => ?_)
      obtain ⟨g1, g2⟩ := hr
      refine J_aload_n (i := 0) qX6_cut_26 rfl rfl ?_
      refine J_getR qX6_cut_27 fX6_32 (by assumption) (by assumption) ?_
      refine J_iload_n (i := 1) qX6_cut_30 rfl rfl ?_
      refine J_sv2 qX6_cut_31 kX6_227 (m_goes (d := d + 1) (cs := (sP s).1) b206 g1.2.2.1.1 hk) (Nat.le_of_ble_eq_true rfl) (fun ν1 hr => ?_)
      obtain ⟨g3, g4⟩ := hr
      have e4 := g3.n0
      rw [List.length_eraseIdx_of_lt hk] at e4
      refine J_aload_n (i := 0) qX6_cut_34 rfl rfl ?_
      refine J_getR qX6_cut_35 fX6_32 (by assumption) (by assumption) ?_
      refine J_pushI qX6_cut_38 ?_
      refine J_ialde qX6_cut_39 (by assumption) rfl (by omega) (by (repeat first | with_reducible exact wI_e _ _ _ _ | (with_reducible apply rd_s; focus omega) | (with_reducible apply rd_c; focus omega) | (with_reducible apply rd_k; focus omega) | with_reducible exact rd_e (by omega)); first | done | assumption | rfl) ?_
      refine Ji_ret qX6_cut_40 ?_
      obtain ⟨g5, g6⟩ := g1.now g4 g3 (ok_era k1 hk)
      exact ⟨rfl, g5, g2.tr g6⟩
    · rw [if_pos (by omega)]
      refine J_pushI qX6_cut_19 ?_
      refine Ji_ret qX6_cut_21 ?_
      exact ⟨rfl, h, FrM.rf⟩
def becP (s : St) (μ : Mm) (p : Nat) (was v : Int32) (q : Int32) (μ' : Mm) : Prop :=
  (was = v → q = -4 ∧ μ = μ') ∧ (¬ was = v → 40 ≤ (sP s).2.length → q = -2 ∧ μ = μ') ∧ (¬ was = v → (sP s).2.length < 40 → q = was ∧ ∃ ν, RelM ν (uPsh s) ∧ FrM μ ν ∧ μ' = wI ν 206 p v)
theorem m_becomes (hM : LayM G) (h : RelM μ s) {p : Nat} (hp : p < 49) {was : Int32} (hw : μ.1 206 p = was) (v : Int32) : Si mX6_becomes (d+1) [.ref 198, .int (nI p), .int v] G μ (fun q μ' => becP s μ p was v q μ') := by
  have hM0 := hM
  obtain ⟨mO, ⟨-, -, -, -, -, -, -, f17, -⟩, ⟨-, -, -, -, -, -, -, b206, -⟩⟩ := hM
  obtain ⟨p1, p2, p3, p4, p5, p6⟩ := h.2.2.1
  have k3 := p4.2.2.1
  refine Si_of (ls := [.ref 198, .int (nI p), .int v, .null]) (by decide +kernel) (Nat.le_of_ble_eq_true rfl) rfl ?_
  refine J_aload_n (i := 0) qX6_becomes_0 rfl rfl ?_
  refine J_getR qX6_becomes_1 fX6_32 (by assumption) (by assumption) ?_
  refine J_iload_n (i := 1) qX6_becomes_4 rfl rfl ?_
  refine J_ialde qX6_becomes_5 (by assumption) rfl (by omega) (by (repeat first | with_reducible exact wI_e _ _ _ _ | (with_reducible apply rd_s; focus omega) | (with_reducible apply rd_c; focus omega) | (with_reducible apply rd_k; focus omega) | with_reducible exact rd_e (by omega)); first | done | assumption | rfl) ?_
  refine J_ist3 qX6_becomes_6 (Nat.le_of_ble_eq_true rfl) rfl ?_
  refine J_iload_n (i := 3) qX6_becomes_7 rfl rfl ?_
  refine J_iload_n (i := 2) qX6_becomes_8 rfl rfl ?_
  refine J_icmp_ne qX6_becomes_9 (fun c1 => ?_) (fun c1 => ?_)
  · refine J_aload_n (i := 0) qX6_becomes_15 rfl rfl ?_
    refine J_getIe qX6_becomes_16 fX6_204 (by assumption) (by (repeat first | with_reducible exact wI_e _ _ _ _ | (with_reducible apply rd_s; focus omega) | (with_reducible apply rd_c; focus omega) | (with_reducible apply rd_k; focus omega) | with_reducible exact rd_e (by omega)); first | done | assumption | rfl) ?_
    refine J_pushI qX6_becomes_19 ?_
    refine J_icmp_ne_n qX6_becomes_21 (by omega) (by omega) (fun c3 => ?_) (fun c3 => ?_)
    · refine J_aload_n (i := 0) qX6_becomes_27 rfl rfl ?_
      refine J_vv0 qX6_becomes_28 kX6_224 (by assumption) (m_remember (d := d) hM0 h (by omega)) (Nat.le_of_ble_eq_true rfl) (fun ν hr => ?_)
      obtain ⟨g1, g2⟩ := hr
      refine J_aload_n (i := 0) qX6_becomes_31 rfl rfl ?_
      refine J_getR qX6_becomes_32 fX6_32 (by assumption) (by assumption) ?_
      refine J_iload_n (i := 1) qX6_becomes_35 rfl rfl ?_
      refine J_iload_n (i := 2) qX6_becomes_36 rfl rfl ?_
      refine J_iast qX6_becomes_37 (by assumption) rfl (by omega) ?_
      refine J_iload_n (i := 3) qX6_becomes_38 rfl rfl ?_
      refine Ji_ret qX6_becomes_39 ?_
      exact ⟨fun z => absurd z c1, fun _ z => absurd z (by omega), fun _ _ => ⟨rfl, ν, g1, g2, rfl⟩⟩
    · refine J_pushI qX6_becomes_24 ?_
      refine Ji_ret qX6_becomes_26 ?_
      exact ⟨fun z => absurd z c1, fun _ z => ⟨rfl, rfl⟩, fun _ z => absurd z (by omega)⟩
  · refine J_pushI qX6_becomes_12 ?_
    refine Ji_ret qX6_becomes_14 ?_
    exact ⟨fun z => ⟨rfl, rfl⟩, fun z => absurd c1 z, fun z => absurd c1 z⟩
theorem m_aim (hM : LayM G) (h : RelM μ s) (i a : Int32) : Si mX6_aim (d+2) [.ref 198, .int i, .int a] G μ (fun q μ' => q = (aimS s i a).1 ∧ RelM μ' (aimS s i a).2 ∧ FrM μ μ') := by
  have hM0 := hM
  have p1 := h.2.2.1.1
  have p4 := h.2.2.1.2.2.2.1
  have k2 := p4.2.1
  have bad : (hasB (sP s).1.length i = false ∨ hasB 8 a = false) → J mX6_aim (d+2) (0, 0) s0 (Ki G (fun q μ' => q = (aimS s i a).1 ∧ RelM μ' (aimS s i a).2 ∧ FrM μ μ')) (0, 0) 30 [.ref 198, .int i, .int a] [] (G, μ) := fun hb => by
    rw [show aimS s i a = (-1, s) from if_pos hb]
    refine J_pushI qX6_aim_30 ?_
    refine Ji_ret qX6_aim_31 ?_
    exact ⟨rfl, h, FrM.rf⟩
  have mO := hM.1
  refine Si_of (ls := [.ref 198, .int i, .int a]) (by decide +kernel) (Nat.le_of_ble_eq_true rfl) rfl ?_
  refine J_aload_n (i := 0) qX6_aim_0 rfl rfl ?_
  refine J_iload_n (i := 1) qX6_aim_1 rfl rfl ?_
  refine J_vi1 qX6_aim_2 kX6_221 (by assumption) (m_isCase (d := d) hM0 p1 i) (Nat.le_of_ble_eq_true rfl) (fun v1 μ' hr => ?_)
  obtain ⟨rfl, rfl⟩ := hr
  cases hb : hasB (sP s).1.length i with
  | false =>
    first | refine J_if_eq qX6_aim_5 (fun _ => ?_) (fun c => absurd b2i_f0 c) | refine J_if_eq qX6_aim_5 (fun c => absurd c b2i_t0) (fun _ => ?_)
    exact bad (Or.inl hb)
  | true =>
    first | refine J_if_eq qX6_aim_5 (fun _ => ?_) (fun c => absurd b2i_f0 c) | refine J_if_eq qX6_aim_5 (fun c => absurd c b2i_t0) (fun _ => ?_)
    refine J_iload_n (i := 2) qX6_aim_8 rfl rfl ?_
    refine J_pushI qX6_aim_9 ?_
    refine J_pushI qX6_aim_10 ?_
    refine J_si3 qX6_aim_12 kX6_75 (m_in (d := d + 1) a (nI 0) (lv 8)) (Nat.le_of_ble_eq_true rfl) (fun v1 μ' hr => ?_)
    rw [inB_lv (by omega)] at hr
    obtain ⟨rfl, rfl⟩ := hr
    cases hb2 : hasB 8 a with
    | false =>
      first | refine J_if_eq qX6_aim_15 (fun _ => ?_) (fun c => absurd b2i_f0 c) | refine J_if_eq qX6_aim_15 (fun c => absurd c b2i_t0) (fun _ => ?_)
      exact bad (Or.inr hb2)
    | true =>
      first | refine J_if_eq qX6_aim_15 (fun _ => ?_) (fun c => absurd b2i_f0 c) | refine J_if_eq qX6_aim_15 (fun c => absurd c b2i_t0) (fun _ => ?_)
      clear bad
      have e1 : aimS s i a = if nI (cg (sP s).1 (ix i)).2.2.1 = a then (-4, s) else if 40 ≤ (sP s).2.length then (-2, s) else (nI (cg (sP s).1 (ix i)).2.2.1, uPrg s (setA (sP s).1 (ix i) (ix a), (sP s).2 ++ [(sP s).1])) := if_neg (by rw [hb, hb2]; decide)
      obtain ⟨k, hk, rfl⟩ := hasB_of (by omega) hb
      obtain ⟨aa, ha, rfl⟩ := hasB_of (by omega) hb2
      rw [ix_n (by omega), ix_n (by omega)] at e1
      rw [e1]
      refine J_aload_n (i := 0) qX6_aim_18 rfl rfl ?_
      refine J_pushI qX6_aim_19 ?_
      refine J_iload_n (i := 1) qX6_aim_21 rfl rfl ?_
      first | with_reducible refine J_iadd_n qX6_aim_22 ?_ | refine J_iadd qX6_aim_22 ?_
      refine J_iload_n (i := 2) qX6_aim_23 rfl rfl ?_
      refine J_vi2 qX6_aim_24 kX6_231 (by assumption) (m_becomes (d := d) hM0 h (p := 25 + k) (by omega) (p1.am hk) (nI aa)) (Nat.le_of_ble_eq_true rfl) (fun v1 ν hr => ?_)
      refine J_goto qX6_aim_27 ?_
      refine Ji_ret qX6_aim_31 ?_
      by_cases c1 : nI (cg (sP s).1 k).2.2.1 = nI aa
      · obtain ⟨rfl, rfl⟩ := hr.1 c1
        rw [if_pos c1]
        exact ⟨rfl, h, FrM.rf⟩
      · rw [if_neg c1]
        by_cases c2 : 40 ≤ (sP s).2.length
        · obtain ⟨rfl, rfl⟩ := hr.2.1 c1 c2
          rw [if_pos c2]
          exact ⟨rfl, h, FrM.rf⟩
        · obtain ⟨rfl, ν1, g1, g2, rfl⟩ := hr.2.2 c1 (by omega)
          rw [if_neg c2]
          obtain ⟨g5, g6⟩ := g1.now (Fr.w Fr.rf rfl) (MC.stA (cs := (sP s).1) g1.2.2.1.1 hk aa) (ok_setA p4.1 hk ha)
          exact ⟨rfl, g5, g2.tr g6⟩
theorem m_weigh (hM : LayM G) (h : RelM μ s) (i a : Int32) : Si mX6_weigh (d+2) [.ref 198, .int i, .int a] G μ (fun q μ' => q = (weighS s i a).1 ∧ RelM μ' (weighS s i a).2 ∧ FrM μ μ') := by
  have hM0 := hM
  have p1 := h.2.2.1.1
  have p4 := h.2.2.1.2.2.2.1
  have k2 := p4.2.1
  have bad : (hasB (sP s).1.length i = false ∨ hasB 10 a = false) → J mX6_weigh (d+2) (0, 0) s0 (Ki G (fun q μ' => q = (weighS s i a).1 ∧ RelM μ' (weighS s i a).2 ∧ FrM μ μ')) (0, 0) 30 [.ref 198, .int i, .int a] [] (G, μ) := fun hb => by
    rw [show weighS s i a = (-1, s) from if_pos hb]
    refine J_pushI qX6_weigh_30 ?_
    refine Ji_ret qX6_weigh_31 ?_
    exact ⟨rfl, h, FrM.rf⟩
  have mO := hM.1
  refine Si_of (ls := [.ref 198, .int i, .int a]) (by decide +kernel) (Nat.le_of_ble_eq_true rfl) rfl ?_
  refine J_aload_n (i := 0) qX6_weigh_0 rfl rfl ?_
  refine J_iload_n (i := 1) qX6_weigh_1 rfl rfl ?_
  refine J_vi1 qX6_weigh_2 kX6_221 (by assumption) (m_isCase (d := d) hM0 p1 i) (Nat.le_of_ble_eq_true rfl) (fun v1 μ' hr => ?_)
  obtain ⟨rfl, rfl⟩ := hr
  cases hb : hasB (sP s).1.length i with
  | false =>
    first | refine J_if_eq qX6_weigh_5 (fun _ => ?_) (fun c => absurd b2i_f0 c) | refine J_if_eq qX6_weigh_5 (fun c => absurd c b2i_t0) (fun _ => ?_)
    exact bad (Or.inl hb)
  | true =>
    first | refine J_if_eq qX6_weigh_5 (fun _ => ?_) (fun c => absurd b2i_f0 c) | refine J_if_eq qX6_weigh_5 (fun c => absurd c b2i_t0) (fun _ => ?_)
    refine J_iload_n (i := 2) qX6_weigh_8 rfl rfl ?_
    refine J_pushI qX6_weigh_9 ?_
    refine J_pushI qX6_weigh_10 ?_
    refine J_si3 qX6_weigh_12 kX6_75 (m_in (d := d + 1) a (nI 0) (lv 10)) (Nat.le_of_ble_eq_true rfl) (fun v1 μ' hr => ?_)
    rw [inB_lv (by omega)] at hr
    obtain ⟨rfl, rfl⟩ := hr
    cases hb2 : hasB 10 a with
    | false =>
      first | refine J_if_eq qX6_weigh_15 (fun _ => ?_) (fun c => absurd b2i_f0 c) | refine J_if_eq qX6_weigh_15 (fun c => absurd c b2i_t0) (fun _ => ?_)
      exact bad (Or.inr hb2)
    | true =>
      first | refine J_if_eq qX6_weigh_15 (fun _ => ?_) (fun c => absurd b2i_f0 c) | refine J_if_eq qX6_weigh_15 (fun c => absurd c b2i_t0) (fun _ => ?_)
      clear bad
      have e1 : weighS s i a = if nI (cg (sP s).1 (ix i)).2.2.2 = a then (-4, s) else if 40 ≤ (sP s).2.length then (-2, s) else (nI (cg (sP s).1 (ix i)).2.2.2, uPrg s (setW (sP s).1 (ix i) (ix a), (sP s).2 ++ [(sP s).1])) := if_neg (by rw [hb, hb2]; decide)
      obtain ⟨k, hk, rfl⟩ := hasB_of (by omega) hb
      obtain ⟨aa, ha, rfl⟩ := hasB_of (by omega) hb2
      rw [ix_n (by omega), ix_n (by omega)] at e1
      rw [e1]
      refine J_aload_n (i := 0) qX6_weigh_18 rfl rfl ?_
      refine J_pushI qX6_weigh_19 ?_
      refine J_iload_n (i := 1) qX6_weigh_21 rfl rfl ?_
      first | with_reducible refine J_iadd_n qX6_weigh_22 ?_ | refine J_iadd qX6_weigh_22 ?_
      refine J_iload_n (i := 2) qX6_weigh_23 rfl rfl ?_
      refine J_vi2 qX6_weigh_24 kX6_231 (by assumption) (m_becomes (d := d) hM0 h (p := 37 + k) (by omega) (p1.wt hk) (nI aa)) (Nat.le_of_ble_eq_true rfl) (fun v1 ν hr => ?_)
      refine J_goto qX6_weigh_27 ?_
      refine Ji_ret qX6_weigh_31 ?_
      by_cases c1 : nI (cg (sP s).1 k).2.2.2 = nI aa
      · obtain ⟨rfl, rfl⟩ := hr.1 c1
        rw [if_pos c1]
        exact ⟨rfl, h, FrM.rf⟩
      · rw [if_neg c1]
        by_cases c2 : 40 ≤ (sP s).2.length
        · obtain ⟨rfl, rfl⟩ := hr.2.1 c1 c2
          rw [if_pos c2]
          exact ⟨rfl, h, FrM.rf⟩
        · obtain ⟨rfl, ν1, g1, g2, rfl⟩ := hr.2.2 c1 (by omega)
          rw [if_neg c2]
          obtain ⟨g5, g6⟩ := g1.now (Fr.w Fr.rf rfl) (MC.stW (cs := (sP s).1) g1.2.2.1.1 hk aa) (ok_setW p4.1 hk ha)
          exact ⟨rfl, g5, g2.tr g6⟩
theorem m_covered (hM : LayM G) (h : RelM μ s) (lo hi : Int32) : Sl mX6_covered (d) [.ref 198, .int lo, .int hi] G μ (fun q μ' => q = (coveredS s lo hi).1 ∧ RelM μ' (coveredS s lo hi).2 ∧ FrM μ μ') := by
  obtain ⟨mO, ⟨-, -, -, -, -, -, -, f17, -⟩, ⟨-, -, -, -, -, -, -, b206, -⟩⟩ := hM
  have p1 := h.2.2.1.1
  have k2 := p1.2.1
  have e0 := p1.n0
  refine Sl_of (ls := [.ref 198, .int lo, .int hi, .null, .null, .null, .null, .null]) (by decide +kernel) (Nat.le_of_ble_eq_true rfl) rfl ?_
  refine J_iload_n (i := 1) qX6_covered_0 rfl rfl ?_
  refine J_iload_n (i := 2) qX6_covered_1 rfl rfl ?_
  refine J_icmp_le qX6_covered_2 (fun c1 => ?_) (fun c1 => ?_)
  · refine J_pushL qX6_covered_9 ?_
    refine J_lst3 qX6_covered_10 (Nat.le_of_ble_eq_true rfl) rfl ?_
    refine J_pushI qX6_covered_11 ?_
    refine J_ist5 qX6_covered_12 (Nat.le_of_ble_eq_true rfl) rfl ?_
    have H : ∀ k, k ≤ (sP s).1.length → ∀ v w : Value, J mX6_covered (d) (0, 0) s0 (Kl G (fun q μ' => q = (coveredS s lo hi).1 ∧ RelM μ' (coveredS s lo hi).2 ∧ FrM μ μ')) (0, 0) 14 [.ref 198, .int lo, .int hi, .long (cvF (sP s).1 lo hi k), .null, .int (nI k), v, w] [] (G, μ) := by
      refine ind_up (fun k hk ih v w => ?_)
      refine J_iload (i := 5) qX6_covered_14 rfl ?_
      refine J_aload_n (i := 0) qX6_covered_16 rfl rfl ?_
      refine J_getR qX6_covered_17 fX6_32 (by assumption) (by assumption) ?_
      refine J_pushI qX6_covered_20 ?_
      refine J_ialde qX6_covered_21 (by assumption) rfl (by omega) (by (repeat first | with_reducible exact wI_e _ _ _ _ | (with_reducible apply rd_s; focus omega) | (with_reducible apply rd_c; focus omega) | (with_reducible apply rd_k; focus omega) | with_reducible exact rd_e (by omega)); first | done | assumption | rfl) ?_
      first | with_reducible refine J_icmp_ge_n qX6_covered_22 (by omega) (by omega) (fun c2 => ?_) (fun c2 => ?_) | refine J_icmp_ge qX6_covered_22 (fun c2 => ?_) (fun c2 => ?_)
      · refine J_lload_n (i := 3) qX6_covered_112 rfl rfl ?_
        refine Jl_ret qX6_covered_113 ?_
        rw [show coveredS s lo hi = (cvF (sP s).1 lo hi (sP s).1.length, s) from if_neg (Int32.not_lt.mpr c1), show (sP s).1.length = k by omega]
        exact ⟨rfl, h, FrM.rf⟩
      · have e1 := p1.lo c2
        have e2 := p1.hi c2
        have h3 := ih c2
        rw [cvF_succ] at h3
        have last : ∀ x y : Int32, x = (if lo < (cg (sP s).1 k).1 then (cg (sP s).1 k).1 else lo) → y = (if hi > (cg (sP s).1 k).2.1 then (cg (sP s).1 k).2.1 else hi) → J mX6_covered (d) (0, 0) s0 (Kl G (fun q μ' => q = (coveredS s lo hi).1 ∧ RelM μ' (coveredS s lo hi).2 ∧ FrM μ μ')) (0, 0) 83 [.ref 198, .int lo, .int hi, .long (cvF (sP s).1 lo hi k), .null, .int (nI k), .int x, .int y] [] (G, μ) := fun x y ex ey => by
          rw [← ex, ← ey] at h3
          refine J_lload_n (i := 3) qX6_covered_83 rfl rfl ?_
          refine J_iload (i := 6) qX6_covered_84 rfl ?_
          refine J_iload (i := 7) qX6_covered_86 rfl ?_
          refine J_icmp_gt qX6_covered_88 (fun c3 => ?_) (fun c3 => ?_)
          · rw [if_pos (by rw [Int64.lt_iff_toInt_lt, Int32.toInt_toInt64, Int32.toInt_toInt64]; exact Int32.lt_iff_toInt_lt.mp c3)] at h3
            refine J_pushL qX6_covered_103 ?_
            refine J_ladd qX6_covered_104 ?_
            rw [show cvF (sP s).1 lo hi k + lN 0 = cvF (sP s).1 lo hi k from Int64.add_zero _]
            refine J_lst3 qX6_covered_105 (Nat.le_of_ble_eq_true rfl) rfl ?_
            refine J_inc5 qX6_covered_106 (Nat.le_of_ble_eq_true rfl) (by first | with_reducible exact nI_inc _ | rfl) rfl ?_
            refine J_goto qX6_covered_109 ?_
            exact h3 _ _
          · rw [if_neg (fun z => c3 (by rw [Int64.lt_iff_toInt_lt, Int32.toInt_toInt64, Int32.toInt_toInt64] at z; exact Int32.lt_iff_toInt_lt.mpr z))] at h3
            refine J_iload (i := 7) qX6_covered_91 rfl ?_
            refine J_i2l qX6_covered_93 ?_
            refine J_iload (i := 6) qX6_covered_94 rfl ?_
            refine J_i2l qX6_covered_96 ?_
            refine J_lsub qX6_covered_97 ?_
            refine J_pushL qX6_covered_98 ?_
            refine J_ladd qX6_covered_99 ?_
            refine J_goto qX6_covered_100 ?_
            refine J_ladd qX6_covered_104 ?_
            refine J_lst3 qX6_covered_105 (Nat.le_of_ble_eq_true rfl) rfl ?_
            refine J_inc5 qX6_covered_106 (Nat.le_of_ble_eq_true rfl) (by first | with_reducible exact nI_inc _ | rfl) rfl ?_
            refine J_goto qX6_covered_109 ?_
            exact h3 _ _
        have mid : ∀ x : Int32, x = (if lo < (cg (sP s).1 k).1 then (cg (sP s).1 k).1 else lo) → J mX6_covered (d) (0, 0) s0 (Kl G (fun q μ' => q = (coveredS s lo hi).1 ∧ RelM μ' (coveredS s lo hi).2 ∧ FrM μ μ')) (0, 0) 53 [.ref 198, .int lo, .int hi, .long (cvF (sP s).1 lo hi k), .null, .int (nI k), .int x, w] [] (G, μ) := fun x ex => by
          refine J_aload_n (i := 0) qX6_covered_53 rfl rfl ?_
          refine J_getR qX6_covered_54 fX6_32 (by assumption) (by assumption) ?_
          refine J_pushI qX6_covered_57 ?_
          refine J_iload (i := 5) qX6_covered_59 rfl ?_
          first | with_reducible refine J_iadd_n qX6_covered_61 ?_ | refine J_iadd qX6_covered_61 ?_
          refine J_ialde qX6_covered_62 (by assumption) rfl (by omega) (by (repeat first | with_reducible exact wI_e _ _ _ _ | (with_reducible apply rd_s; focus omega) | (with_reducible apply rd_c; focus omega) | (with_reducible apply rd_k; focus omega) | with_reducible exact rd_e (by omega)); first | done | assumption | rfl) ?_
          refine J_iload_n (i := 2) qX6_covered_63 rfl rfl ?_
          refine J_icmp_ge qX6_covered_64 (fun c4 => ?_) (fun c4 => ?_)
          · refine J_iload_n (i := 2) qX6_covered_80 rfl rfl ?_
            refine J_ist7 qX6_covered_81 (Nat.le_of_ble_eq_true rfl) rfl ?_
            exact last x hi ex (if_neg (fun z => absurd c4 (Int32.not_le.mpr z))).symm
          · refine J_aload_n (i := 0) qX6_covered_67 rfl rfl ?_
            refine J_getR qX6_covered_68 fX6_32 (by assumption) (by assumption) ?_
            refine J_pushI qX6_covered_71 ?_
            refine J_iload (i := 5) qX6_covered_73 rfl ?_
            first | with_reducible refine J_iadd_n qX6_covered_75 ?_ | refine J_iadd qX6_covered_75 ?_
            refine J_ialde qX6_covered_76 (by assumption) rfl (by omega) (by (repeat first | with_reducible exact wI_e _ _ _ _ | (with_reducible apply rd_s; focus omega) | (with_reducible apply rd_c; focus omega) | (with_reducible apply rd_k; focus omega) | with_reducible exact rd_e (by omega)); first | done | assumption | rfl) ?_
            refine J_goto qX6_covered_77 ?_
            refine J_ist7 qX6_covered_81 (Nat.le_of_ble_eq_true rfl) rfl ?_
            exact last x _ ex (if_pos (i32_nle c4)).symm
        refine J_aload_n (i := 0) qX6_covered_25 rfl rfl ?_
        refine J_getR qX6_covered_26 fX6_32 (by assumption) (by assumption) ?_
        refine J_pushI qX6_covered_29 ?_
        refine J_iload (i := 5) qX6_covered_30 rfl ?_
        first | with_reducible refine J_iadd_n qX6_covered_32 ?_ | refine J_iadd qX6_covered_32 ?_
        refine J_ialde qX6_covered_33 (by assumption) rfl (by omega) (by (repeat first | with_reducible exact wI_e _ _ _ _ | (with_reducible apply rd_s; focus omega) | (with_reducible apply rd_c; focus omega) | (with_reducible apply rd_k; focus omega) | with_reducible exact rd_e (by omega)); first | done | assumption | rfl) ?_
        refine J_iload_n (i := 1) qX6_covered_34 rfl rfl ?_
        refine J_icmp_le qX6_covered_35 (fun c4 => ?_) (fun c4 => ?_)
        · refine J_iload_n (i := 1) qX6_covered_50 rfl rfl ?_
          refine J_ist6 qX6_covered_51 (Nat.le_of_ble_eq_true rfl) rfl ?_
          exact mid lo (if_neg (fun z => absurd c4 (Int32.not_le.mpr z))).symm
        · refine J_aload_n (i := 0) qX6_covered_38 rfl rfl ?_
          refine J_getR qX6_covered_39 fX6_32 (by assumption) (by assumption) ?_
          refine J_pushI qX6_covered_42 ?_
          refine J_iload (i := 5) qX6_covered_43 rfl ?_
          first | with_reducible refine J_iadd_n qX6_covered_45 ?_ | refine J_iadd qX6_covered_45 ?_
          refine J_ialde qX6_covered_46 (by assumption) rfl (by omega) (by (repeat first | with_reducible exact wI_e _ _ _ _ | (with_reducible apply rd_s; focus omega) | (with_reducible apply rd_c; focus omega) | (with_reducible apply rd_k; focus omega) | with_reducible exact rd_e (by omega)); first | done | assumption | rfl) ?_
          refine J_goto qX6_covered_47 ?_
          refine J_ist6 qX6_covered_51 (Nat.le_of_ble_eq_true rfl) rfl ?_
          exact mid _ (if_pos (i32_nle c4)).symm
    exact H 0 (Nat.zero_le _) .null .null
  · rw [show coveredS s lo hi = (-1, s) from if_pos (i32_nle c1)]
    refine J_pushL qX6_covered_5 ?_
    refine Jl_ret qX6_covered_8 ?_
    exact ⟨rfl, h, FrM.rf⟩
end MM
