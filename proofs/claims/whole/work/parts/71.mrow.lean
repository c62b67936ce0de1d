/-! THE MODEL: rows and texts -/
def PmR (j c k : Nat) : Prop := (c = 200 ∧ k = j) ∨ (c = 201 ∧ 40 * j ≤ k ∧ k < 40 * j + 40) ∨ c = 202
def PmT (j c k : Nat) : Prop := (c = 203 ∧ k = j) ∨ (c = 204 ∧ 120 * j ≤ k ∧ k < 120 * j + 120) ∨ (c = 198 ∧ k = 18) ∨ c = 207
theorem RelM.row {μ μ' : Mm} {s : St} {j : Nat} {v : Rw} (h : RelM μ s) (hF : Fr μ μ' (PmR j)) (hj : j < 6) (hv : MR μ' 200 201 40 j v) : RelM μ' (uRow s j v) ∧ FrM μ μ' := by
  have a : ∀ c, c ≠ 200 → c ≠ 201 → c ≠ 202 → Ac μ μ' c := fun c x y z k => hF.1 _ _ (fun q => by unfold PmR at q; omega)
  refine ⟨⟨fun r hr => ?_, h.2.1.ag (a _ (by omega) (by omega) (by omega)) (a _ (by omega) (by omega) (by omega)), h.2.2.1.ag (a _ (by omega) (by omega) (by omega)) (a _ (by omega) (by omega) (by omega)) (a _ (by omega) (by omega) (by omega) _) (a _ (by omega) (by omega) (by omega) _), h.2.2.2.1.ag (a _ (by omega) (by omega) (by omega)) (a _ (by omega) (by omega) (by omega)), h.2.2.2.2.ag (a _ (by omega) (by omega) (by omega) _) (a _ (by omega) (by omega) (by omega) _) (a _ (by omega) (by omega) (by omega)) (by rw [hF.2])⟩, fun c k z => a c (by omega) (by omega) (by omega) k, fun c k z => by rw [hF.2]⟩
  show MR μ' 200 201 40 r (fup (sRw s) j v r)
  by_cases e : r = j
  · subst e; rw [fup_e]; exact hv
  · rw [fup_n e]
    exact (h.1 r hr).ag (hF.1 _ _ (fun q => by unfold PmR at q; omega)) (fun k x y => hF.1 _ _ (fun q => by unfold PmR at q; omega))
theorem RelM.txt {μ μ' : Mm} {s : St} {j : Nat} {v : Rw} (h : RelM μ s) (hF : Fr μ μ' (PmT j)) (hj : j < 4) (hv : MR μ' 203 204 120 j v) : RelM μ' (uTxt s j v) ∧ FrM μ μ' := by
  have a : ∀ c, c ≠ 203 → c ≠ 204 → c ≠ 207 → c ≠ 198 → Ac μ μ' c := fun c x y z w k => hF.1 _ _ (fun q => by unfold PmT at q; omega)
  have b : ∀ k, k ≠ 18 → μ'.1 198 k = μ.1 198 k := fun k x => hF.1 _ _ (fun q => by unfold PmT at q; omega)
  refine ⟨⟨h.1.ag (a _ (by omega) (by omega) (by omega) (by omega)) (a _ (by omega) (by omega) (by omega) (by omega)), fun r hr => ?_, h.2.2.1.ag (a _ (by omega) (by omega) (by omega) (by omega)) (a _ (by omega) (by omega) (by omega) (by omega)) (b _ (by omega)) (b _ (by omega)), h.2.2.2.1.ag (a _ (by omega) (by omega) (by omega) (by omega)) (a _ (by omega) (by omega) (by omega) (by omega)), h.2.2.2.2.ag (b _ (by omega)) (b _ (by omega)) (a _ (by omega) (by omega) (by omega) (by omega)) (by rw [hF.2])⟩, fun c k z => a c (by omega) (by omega) (by omega) (by omega) k, fun c k z => by rw [hF.2]⟩
  show MR μ' 203 204 120 r (fup (sTx s) j v r)
  by_cases e : r = j
  · subst e; rw [fup_e]; exact hv
  · rw [fup_n e]
    exact (h.2.1 r hr).ag (hF.1 _ _ (fun q => by unfold PmT at q; omega)) (fun k x y => hF.1 _ _ (fun q => by unfold PmT at q; omega))
theorem MR.n {μ : Mm} {zs ar N r : Nat} (h : MR μ zs ar N r none) : μ.1 zs r = -1 := h
theorem neg1_lt : (-1 : Int32) < 0 := by decide
theorem l_add_i (x y : Int32) : (x.toInt64 + y.toInt64).toInt = x.toInt + y.toInt := by
  have h1 := rng x
  have h2 := rng y
  rw [Int64.toInt_add, Int32.toInt_toInt64, Int32.toInt_toInt64]
  exact Int.bmod_eq_of_le (by omega) (by omega)
section MM
variable {G : Gm} {μ : Mm} {d : Nat} {s : St}
theorem m_findings (hM : LayM G) (h : RelM μ s) (f : Int32) : Si mX6_findings (d+1) [.ref 198, .int f] G μ (fun q μ' => q = (findingsS s f).1 ∧ RelM μ' (findingsS s f).2 ∧ FrM μ μ') := by
  obtain ⟨mO, ⟨f2, -⟩, ⟨b199, -⟩⟩ := hM
  refine Si_of (ls := [.ref 198, .int f]) (by decide +kernel) (Nat.le_of_ble_eq_true rfl) rfl ?_
  refine J_iload_n (i := 1) qX6_findings_0 rfl rfl ?_
  refine J_pushI qX6_findings_1 ?_
  refine J_pushI qX6_findings_2 ?_
  refine J_si3 qX6_findings_3 kX6_75 (m_in (d := d) f (nI 1) (nI 5)) (Nat.le_of_ble_eq_true rfl) (fun v1 μ' hr => ?_)
  obtain ⟨rfl, rfl⟩ := hr
  cases hb : inB f (nI 1) (nI 5) with
  | false =>
    first | refine J_if_eq qX6_findings_6 (fun _ => ?_) (fun c => absurd b2i_f0 c) | refine J_if_eq qX6_findings_6 (fun c => absurd c b2i_t0) (fun _ => ?_)
    have e : findingsS s f = (-1, s) := if_pos (by
      have h1 := of_decide_eq_false hb
      by_cases c : f < nI 1
      · exact Or.inl c
      · exact Or.inr (Int32.not_le.mp (fun q => h1 ⟨i32_nlt c, q⟩)))
    rw [e]
    refine J_pushI qX6_findings_18 ?_
    refine Ji_ret qX6_findings_19 ?_
    exact ⟨rfl, h, FrM.rf⟩
  | true =>
    first | refine J_if_eq qX6_findings_6 (fun _ => ?_) (fun c => absurd b2i_f0 c) | refine J_if_eq qX6_findings_6 (fun c => absurd c b2i_t0) (fun _ => ?_)
    have h1 := of_decide_eq_true hb
    have e : findingsS s f = (sTm s (ix f), s) := if_neg (fun z => z.elim (fun y => absurd h1.1 (Int32.not_le.mpr y)) (fun y => absurd h1.2 (Int32.not_le.mpr y)))
    rw [e]
    obtain ⟨m, hm1, hm20, rfl⟩ : ∃ m, 1 ≤ m ∧ m ≤ 5 ∧ f = nI m := by
      rw [Int32.le_iff_toInt_le, Int32.le_iff_toInt_le, nI_toInt (by omega), nI_toInt (by omega)] at h1
      exact ⟨f.toInt.toNat, by omega, by omega, i32_inj (by rw [nI_toInt (by omega)]; omega)⟩
    rw [ix_n (by omega)]
    have e2 := h.2.2.2.2.2.2.2 m (by omega)
    refine J_aload_n (i := 0) qX6_findings_9 rfl rfl ?_
    refine J_getR qX6_findings_10 fX6_9 (by assumption) (by assumption) ?_
    refine J_iload_n (i := 1) qX6_findings_13 rfl rfl ?_
    refine J_ialde qX6_findings_14 (by assumption) rfl (by omega) (by (repeat first | with_reducible exact wI_e _ _ _ _ | (with_reducible apply rd_s; focus omega) | (with_reducible apply rd_c; focus omega) | (with_reducible apply rd_k; focus omega) | with_reducible exact rd_e (by omega)); first | done | assumption | rfl) ?_
    refine J_goto qX6_findings_15 ?_
    refine Ji_ret qX6_findings_19 ?_
    exact ⟨rfl, h, FrM.rf⟩
theorem m_row (hM : LayM G) (h : RelM μ s) (r n : Int32) : Si mX6_row (d+2) [.ref 198, .int r, .int n] G μ (fun v μ' => v = (rowS s r n).1 ∧ RelM μ' (rowS s r n).2 ∧ FrM μ μ') := by
  have hM0 := hM
  obtain ⟨mO, ⟨f2, f3, f4, -⟩, ⟨b199, b200, b201, -⟩⟩ := hM
  have bad : (hasB 6 r = false ∨ nI 40 < n) → J mX6_row (d+2) (0, 0) s0 (Ki G (fun v μ' => v = (rowS s r n).1 ∧ RelM μ' (rowS s r n).2 ∧ FrM μ μ')) (0, 0) 13 [.ref 198, .int r, .int n, .null] [] (G, μ) := fun hb => by
    rw [show rowS s r n = (-1, s) from if_pos hb]
    refine J_pushI qX6_row_13 ?_
    refine Ji_ret qX6_row_14 ?_
    exact ⟨rfl, h, FrM.rf⟩
  refine Si_of (ls := [.ref 198, .int r, .int n, .null]) (by decide +kernel) (Nat.le_of_ble_eq_true rfl) rfl ?_
  refine J_iload_n (i := 1) qX6_row_0 rfl rfl ?_
  refine J_si1 qX6_row_1 kX6_79 (m_isRow (d := d) r) (Nat.le_of_ble_eq_true rfl) (fun v μ' hr => ?_)
  obtain ⟨rfl, rfl⟩ := hr
  cases hb : hasB 6 r with
  | false =>
    first | refine J_if_eq qX6_row_4 (fun _ => ?_) (fun c => absurd b2i_f0 c) | refine J_if_eq qX6_row_4 (fun c => absurd c b2i_t0) (fun _ => ?_)
    exact bad (Or.inl hb)
  | true =>
    first | refine J_if_eq qX6_row_4 (fun _ => ?_) (fun c => absurd b2i_f0 c) | refine J_if_eq qX6_row_4 (fun c => absurd c b2i_t0) (fun _ => ?_)
    refine J_iload_n (i := 2) qX6_row_7 rfl rfl ?_
    refine J_pushI qX6_row_8 ?_
    refine J_icmp_le qX6_row_10 (fun c1 => ?_) (fun c1 => bad (Or.inr (i32_nle c1)))
    clear bad
    have e1 : rowS s r n = if n < 0 then (-3, uFnd s 5) else (n, uRow s (ix r) (some (List.replicate (ix n) (nI 0)))) := if_neg (fun z => z.elim (fun y => by rw [hb] at y; cases y) (fun y => absurd c1 (Int32.not_le.mpr y)))
    obtain ⟨j, hj, rfl⟩ := hasB_of (by omega) hb
    refine J_iload_n (i := 2) qX6_row_15 rfl rfl ?_
    refine J_if_ge qX6_row_16 (fun c2 => ?_) (fun c2 => ?_)
    · rw [if_neg (Int32.not_lt.mpr c2)] at e1
      obtain ⟨k, hk, rfl⟩ : ∃ k, k ≤ 40 ∧ n = nI k := nI_of2 (M := nI 40) rfl (Int32.not_lt.mpr c2) c1
      rw [ix_n (by omega), ix_n (by omega)] at e1
      refine J_aload_n (i := 0) qX6_row_25 rfl rfl ?_
      refine J_getR qX6_row_26 fX6_13 (by assumption) (by assumption) ?_
      refine J_iload_n (i := 1) qX6_row_29 rfl rfl ?_
      refine J_iload_n (i := 2) qX6_row_30 rfl rfl ?_
      refine J_iast qX6_row_31 (by assumption) rfl (by omega) ?_
      refine J_pushI qX6_row_32 ?_
      refine J_ist3 qX6_row_33 (Nat.le_of_ble_eq_true rfl) rfl ?_
      have H : ∀ i, i ≤ 40 → ∀ ν : Mm, Fr μ ν (PmR j) → ν.1 200 j = nI k → (∀ q, q < i → ν.1 201 (40 * j + q) = nI 0) → J mX6_row (d+2) (0, 0) s0 (Ki G (fun v μ' => v = (rowS s (nI j) (nI k)).1 ∧ RelM μ' (rowS s (nI j) (nI k)).2 ∧ FrM μ μ')) (0, 0) 34 [.ref 198, .int (nI j), .int (nI k), .int (nI i)] [] (G, ν) := by
        refine ind_up (fun i hi ih ν hF hz hinv => ?_)
        refine J_iload_n (i := 3) qX6_row_34 rfl rfl ?_
        refine J_pushI qX6_row_35 ?_
        first | with_reducible refine J_icmp_ge_n qX6_row_37 (by omega) (by omega) (fun c3 => ?_) (fun c3 => ?_) | refine J_icmp_ge qX6_row_37 (fun c3 => ?_) (fun c3 => ?_)
        · refine J_iload_n (i := 2) qX6_row_58 rfl rfl ?_
          refine Ji_ret qX6_row_59 ?_
          rw [e1]
          exact ⟨rfl, h.row hF hj ⟨by rw [List.length_replicate]; exact hz, by rw [List.length_replicate]; exact hk, fun q hq => by
            rw [List.length_replicate] at hq
            rw [gd_rep hq]
            exact hinv q (by omega)⟩⟩
        · refine J_aload_n (i := 0) qX6_row_40 rfl rfl ?_
          refine J_getR qX6_row_41 fX6_16 (by assumption) (by assumption) ?_
          refine J_pushI qX6_row_44 ?_
          refine J_iload_n (i := 1) qX6_row_46 rfl rfl ?_
          first | with_reducible refine J_imul_n qX6_row_47 ?_ | refine J_imul qX6_row_47 ?_
          refine J_iload_n (i := 3) qX6_row_48 rfl rfl ?_
          first | with_reducible refine J_iadd_n qX6_row_49 ?_ | refine J_iadd qX6_row_49 ?_
          refine J_pushI qX6_row_50 ?_
          refine J_iast qX6_row_51 (by assumption) rfl (by omega) ?_
          refine J_inc3 qX6_row_52 (Nat.le_of_ble_eq_true rfl) (by first | with_reducible exact nI_inc _ | rfl) rfl ?_
          refine J_goto qX6_row_55 ?_
          refine ih c3 _ (hF.w (Or.inr (Or.inl ⟨rfl, by omega, by omega⟩))) (by rw [wI_n (by omega)]; exact hz) (fun q hq => ?_)
          by_cases e : q = i
          · rw [e]; exact wI_e _ _ _ _
          · rw [wI_n (by omega)]; exact hinv q (by omega)
      exact H 0 (Nat.zero_le _) _ (Fr.w Fr.rf (Or.inl ⟨rfl, rfl⟩)) (wI_e _ _ _ _) (fun q hq => absurd hq (Nat.not_lt_zero q))
    · rw [e1, if_pos (i32_nle c2)]
      refine J_aload_n (i := 0) qX6_row_19 rfl rfl ?_
      refine J_pushI qX6_row_20 ?_
      refine J_vi1 qX6_row_21 kX6_83 (by assumption) (m_found (d := d + 1) hM0 h (f := 5) (by omega)) (Nat.le_of_ble_eq_true rfl) (fun v ν hr => ?_)
      refine Ji_ret qX6_row_24 ?_
      exact hr
theorem m_tear (hM : LayM G) (h : RelM μ s) (r : Int32) : Si mX6_tear (d+2) [.ref 198, .int r] G μ (fun v μ' => v = (tearS s r).1 ∧ RelM μ' (tearS s r).2 ∧ FrM μ μ') := by
  have hM0 := hM
  obtain ⟨mO, ⟨f2, f3, f4, -⟩, ⟨b199, b200, b201, -⟩⟩ := hM
  refine Si_of (ls := [.ref 198, .int r]) (by decide +kernel) (Nat.le_of_ble_eq_true rfl) rfl ?_
  refine J_iload_n (i := 1) qX6_tear_0 rfl rfl ?_
  refine J_si1 qX6_tear_1 kX6_79 (m_isRow (d := d) r) (Nat.le_of_ble_eq_true rfl) (fun v μ' hr => ?_)
  obtain ⟨rfl, rfl⟩ := hr
  cases hb : hasB 6 r with
  | false =>
    first | refine J_if_ne qX6_tear_4 (fun c => absurd b2i_f0 c) (fun _ => ?_) | refine J_if_ne qX6_tear_4 (fun _ => ?_) (fun c => absurd c b2i_t0)
    refine J_pushI qX6_tear_7 ?_
    refine Ji_ret qX6_tear_8 ?_
    rw [show tearS s r = (-1, s) from if_pos hb]
    exact ⟨rfl, h, FrM.rf⟩
  | true =>
    first | refine J_if_ne qX6_tear_4 (fun c => absurd b2i_f0 c) (fun _ => ?_) | refine J_if_ne qX6_tear_4 (fun _ => ?_) (fun c => absurd c b2i_t0)
    obtain ⟨j, hj, rfl⟩ := hasB_of (by omega) hb
    rw [show tearS s (nI j) = if (sRw s j).isNone then (-3, uFnd s 1) else (nI 1, uRow s j none) from by unfold tearS; rw [if_neg (by rw [hb]; decide), ix_n (by omega)]]
    have hA := h.1 j hj
    cases hm : sRw s j with
    | none =>
      rw [hm] at hA
      have e := hA.n
      rw [if_pos (show (none : Rw).isNone = true from rfl)]
      refine J_aload_n (i := 0) qX6_tear_9 rfl rfl ?_
      refine J_getR qX6_tear_10 fX6_13 (by assumption) (by assumption) ?_
      refine J_iload_n (i := 1) qX6_tear_13 rfl rfl ?_
      refine J_ialde qX6_tear_14 (by assumption) rfl (by omega) (by (repeat first | with_reducible exact wI_e _ _ _ _ | (with_reducible apply rd_s; focus omega) | (with_reducible apply rd_c; focus omega) | (with_reducible apply rd_k; focus omega) | with_reducible exact rd_e (by omega)); first | done | assumption | rfl) ?_
      refine J_if_ge qX6_tear_15 (fun c => absurd c (by decide)) (fun _ => ?_)
      refine J_aload_n (i := 0) qX6_tear_18 rfl rfl ?_
      refine J_pushI qX6_tear_19 ?_
      refine J_vi1 qX6_tear_20 kX6_83 (by assumption) (m_found (d := d + 1) hM0 h (f := 1) (by omega)) (Nat.le_of_ble_eq_true rfl) (fun v ν hr => ?_)
      refine Ji_ret qX6_tear_23 ?_
      exact hr
    | some l =>
      rw [hm] at hA
      have e := hA.1
      have l40 := hA.2.1
      rw [if_neg (show ¬ (some l).isNone = true from Bool.false_ne_true)]
      refine J_aload_n (i := 0) qX6_tear_9 rfl rfl ?_
      refine J_getR qX6_tear_10 fX6_13 (by assumption) (by assumption) ?_
      refine J_iload_n (i := 1) qX6_tear_13 rfl rfl ?_
      refine J_ialde qX6_tear_14 (by assumption) rfl (by omega) (by (repeat first | with_reducible exact wI_e _ _ _ _ | (with_reducible apply rd_s; focus omega) | (with_reducible apply rd_c; focus omega) | (with_reducible apply rd_k; focus omega) | with_reducible exact rd_e (by omega)); first | done | assumption | rfl) ?_
      refine J_if_ge_n qX6_tear_15 (by omega) ?_
      refine J_aload_n (i := 0) qX6_tear_24 rfl rfl ?_
      refine J_getR qX6_tear_25 fX6_13 (by assumption) (by assumption) ?_
      refine J_iload_n (i := 1) qX6_tear_28 rfl rfl ?_
      refine J_pushI qX6_tear_29 ?_
      refine J_iast qX6_tear_30 (by assumption) rfl (by omega) ?_
      refine J_pushI qX6_tear_31 ?_
      refine Ji_ret qX6_tear_32 ?_
      exact ⟨rfl, h.row (Fr.w Fr.rf (Or.inl ⟨rfl, rfl⟩)) hj (wI_e _ _ _ _)⟩
theorem m_lay (hM : LayM G) (h : RelM μ s) (r i v : Int32) : Si mX6_lay (d+2) [.ref 198, .int r, .int i, .int v] G μ (fun q μ' => q = (layS s r i v).1 ∧ RelM μ' (layS s r i v).2 ∧ FrM μ μ') := by
  have hM0 := hM
  obtain ⟨mO, ⟨f2, f3, f4, -⟩, ⟨b199, b200, b201, -⟩⟩ := hM
  refine Si_of (ls := [.ref 198, .int r, .int i, .int v, .null]) (by decide +kernel) (Nat.le_of_ble_eq_true rfl) rfl ?_
  refine J_iload_n (i := 1) qX6_lay_0 rfl rfl ?_
  refine J_si1 qX6_lay_1 kX6_79 (m_isRow (d := d) r) (Nat.le_of_ble_eq_true rfl) (fun v1 μ' hr => ?_)
  obtain ⟨rfl, rfl⟩ := hr
  cases hb : hasB 6 r with
  | false =>
    first | refine J_if_ne qX6_lay_4 (fun c => absurd b2i_f0 c) (fun _ => ?_) | refine J_if_ne qX6_lay_4 (fun _ => ?_) (fun c => absurd c b2i_t0)
    refine J_pushI qX6_lay_7 ?_
    refine Ji_ret qX6_lay_8 ?_
    rw [show layS s r i v = (-1, s) from if_pos hb]
    exact ⟨rfl, h, FrM.rf⟩
  | true =>
    first | refine J_if_ne qX6_lay_4 (fun c => absurd b2i_f0 c) (fun _ => ?_) | refine J_if_ne qX6_lay_4 (fun _ => ?_) (fun c => absurd c b2i_t0)
    obtain ⟨j, hj, rfl⟩ := hasB_of (by omega) hb
    have hA := h.1 j hj
    cases hm : sRw s j with
    | none =>
      rw [hm] at hA
      have e := hA.n
      rw [layS_n hb hj hm]
      refine J_aload_n (i := 0) qX6_lay_9 rfl rfl ?_
      refine J_getR qX6_lay_10 fX6_13 (by assumption) (by assumption) ?_
      refine J_iload_n (i := 1) qX6_lay_13 rfl rfl ?_
      refine J_ialde qX6_lay_14 (by assumption) rfl (by omega) (by (repeat first | with_reducible exact wI_e _ _ _ _ | (with_reducible apply rd_s; focus omega) | (with_reducible apply rd_c; focus omega) | (with_reducible apply rd_k; focus omega) | with_reducible exact rd_e (by omega)); first | done | assumption | rfl) ?_
      refine J_if_ge qX6_lay_15 (fun c => absurd c (by decide)) (fun _ => ?_)
      refine J_aload_n (i := 0) qX6_lay_18 rfl rfl ?_
      refine J_pushI qX6_lay_19 ?_
      refine J_vi1 qX6_lay_20 kX6_83 (by assumption) (m_found (d := d + 1) hM0 h (f := 1) (by omega)) (Nat.le_of_ble_eq_true rfl) (fun v1 ν hr => ?_)
      refine Ji_ret qX6_lay_23 ?_
      exact hr
    | some l =>
      rw [hm] at hA
      have e := hA.1
      have l40 := hA.2.1
      rw [layS_s hb hj hm]
      refine J_aload_n (i := 0) qX6_lay_9 rfl rfl ?_
      refine J_getR qX6_lay_10 fX6_13 (by assumption) (by assumption) ?_
      refine J_iload_n (i := 1) qX6_lay_13 rfl rfl ?_
      refine J_ialde qX6_lay_14 (by assumption) rfl (by omega) (by (repeat first | with_reducible exact wI_e _ _ _ _ | (with_reducible apply rd_s; focus omega) | (with_reducible apply rd_c; focus omega) | (with_reducible apply rd_k; focus omega) | with_reducible exact rd_e (by omega)); first | done | assumption | rfl) ?_
      refine J_if_ge_n qX6_lay_15 (by omega) ?_
      refine J_iload_n (i := 2) qX6_lay_24 rfl rfl ?_
      refine J_pushI qX6_lay_25 ?_
      refine J_aload_n (i := 0) qX6_lay_26 rfl rfl ?_
      refine J_getR qX6_lay_27 fX6_13 (by assumption) (by assumption) ?_
      refine J_iload_n (i := 1) qX6_lay_30 rfl rfl ?_
      refine J_ialde qX6_lay_31 (by assumption) rfl (by omega) (by (repeat first | with_reducible exact wI_e _ _ _ _ | (with_reducible apply rd_s; focus omega) | (with_reducible apply rd_c; focus omega) | (with_reducible apply rd_k; focus omega) | with_reducible exact rd_e (by omega)); first | done | assumption | rfl) ?_
      refine J_pushI qX6_lay_32 ?_
      refine J_isub qX6_lay_33 ?_
      rw [subl]
      refine J_si3 qX6_lay_34 kX6_75 (m_in (d := d + 1) i (nI 0) (lv l.length)) (Nat.le_of_ble_eq_true rfl) (fun v1 μ' hr => ?_)
      rw [inB_lv (by omega)] at hr
      obtain ⟨rfl, rfl⟩ := hr
      cases hi : hasB l.length i with
      | false =>
        first | refine J_if_ne qX6_lay_37 (fun c => absurd b2i_f0 c) (fun _ => ?_) | refine J_if_ne qX6_lay_37 (fun _ => ?_) (fun c => absurd c b2i_t0)
        rw [if_pos rfl]
        refine J_aload_n (i := 0) qX6_lay_40 rfl rfl ?_
        refine J_pushI qX6_lay_41 ?_
        refine J_vi1 qX6_lay_42 kX6_83 (by assumption) (m_found (d := d + 1) hM0 h (f := 2) (by omega)) (Nat.le_of_ble_eq_true rfl) (fun v1 ν hr => ?_)
        refine Ji_ret qX6_lay_45 ?_
        exact hr
      | true =>
        first | refine J_if_ne qX6_lay_37 (fun c => absurd b2i_f0 c) (fun _ => ?_) | refine J_if_ne qX6_lay_37 (fun _ => ?_) (fun c => absurd c b2i_t0)
        rw [if_neg (by decide)]
        obtain ⟨k, hk, rfl⟩ := hasB_of (by omega) hi
        refine J_aload_n (i := 0) qX6_lay_46 rfl rfl ?_
        refine J_iload_n (i := 1) qX6_lay_47 rfl rfl ?_
        refine J_iload_n (i := 2) qX6_lay_48 rfl rfl ?_
        refine J_vi2 qX6_lay_49 kX6_87 (by assumption) (m_rowAt (d := d + 1) hM0 hj (i := k) (by omega)) (Nat.le_of_ble_eq_true rfl) (fun v1 μ' hr => ?_)
        rw [hA.2.2 k hk] at hr
        obtain ⟨rfl, rfl⟩ := hr
        have hA2 : MR (wI μ 201 (40 * j + k) v) 200 201 40 j (some (l.set k v)) := by
          refine ⟨?_, by rw [List.length_set]; exact l40, fun q hq => ?_⟩
          · rw [wI_n (by omega), List.length_set]; exact e
          · rw [List.length_set] at hq
            by_cases eq : q = k
            · subst eq; rw [wI_e, List.getD_eq_getElem?_getD, List.getElem?_set_self hk]; rfl
            · rw [wI_n (by omega), hA.2.2 q hq, List.getD_eq_getElem?_getD, List.getD_eq_getElem?_getD, List.getElem?_set_ne (by omega)]
        obtain ⟨g1, g2⟩ := h.row (Fr.w Fr.rf (Or.inr (Or.inl ⟨rfl, by omega, by omega⟩))) hj hA2
        refine J_ist4 qX6_lay_52 (Nat.le_of_ble_eq_true rfl) rfl ?_
        refine J_aload_n (i := 0) qX6_lay_54 rfl rfl ?_
        refine J_getR qX6_lay_55 fX6_16 (by assumption) (by assumption) ?_
        refine J_pushI qX6_lay_58 ?_
        refine J_iload_n (i := 1) qX6_lay_60 rfl rfl ?_
        first | with_reducible refine J_imul_n qX6_lay_61 ?_ | refine J_imul qX6_lay_61 ?_
        refine J_iload_n (i := 2) qX6_lay_62 rfl rfl ?_
        first | with_reducible refine J_iadd_n qX6_lay_63 ?_ | refine J_iadd qX6_lay_63 ?_
        refine J_iload_n (i := 3) qX6_lay_64 rfl rfl ?_
        refine J_iast qX6_lay_65 (by assumption) rfl (by omega) ?_
        refine J_aload_n (i := 0) qX6_lay_66 rfl rfl ?_
        refine J_iload (i := 4) qX6_lay_67 rfl ?_
        refine J_pushI qX6_lay_69 ?_
        refine J_vi2 qX6_lay_70 kX6_91 (by assumption) (m_tells (d := d + 1) hM0 g1 (l.getD k 0) (nI 1)) (Nat.le_of_ble_eq_true rfl) (fun v1 ν hr => ?_)
        obtain ⟨rfl, g3, g4⟩ := hr
        refine Ji_ret qX6_lay_73 ?_
        rw [ix_n (by omega)]
        exact ⟨rfl, g3, g2.tr g4⟩
theorem m_at (hM : LayM G) (h : RelM μ s) (r i : Int32) : Si mX6_at (d+2) [.ref 198, .int r, .int i] G μ (fun q μ' => q = (atS s r i).1 ∧ RelM μ' (atS s r i).2 ∧ FrM μ μ') := by
  have hM0 := hM
  obtain ⟨mO, ⟨f2, f3, f4, -⟩, ⟨b199, b200, b201, -⟩⟩ := hM
  refine Si_of (ls := [.ref 198, .int r, .int i]) (by decide +kernel) (Nat.le_of_ble_eq_true rfl) rfl ?_
  refine J_iload_n (i := 1) qX6_at_0 rfl rfl ?_
  refine J_si1 qX6_at_1 kX6_79 (m_isRow (d := d) r) (Nat.le_of_ble_eq_true rfl) (fun v1 μ' hr => ?_)
  obtain ⟨rfl, rfl⟩ := hr
  cases hb : hasB 6 r with
  | false =>
    first | refine J_if_ne qX6_at_4 (fun c => absurd b2i_f0 c) (fun _ => ?_) | refine J_if_ne qX6_at_4 (fun _ => ?_) (fun c => absurd c b2i_t0)
    refine J_pushI qX6_at_7 ?_
    refine Ji_ret qX6_at_8 ?_
    rw [show atS s r i = (-1, s) from if_pos hb]
    exact ⟨rfl, h, FrM.rf⟩
  | true =>
    first | refine J_if_ne qX6_at_4 (fun c => absurd b2i_f0 c) (fun _ => ?_) | refine J_if_ne qX6_at_4 (fun _ => ?_) (fun c => absurd c b2i_t0)
    obtain ⟨j, hj, rfl⟩ := hasB_of (by omega) hb
    have hA := h.1 j hj
    cases hm : sRw s j with
    | none =>
      rw [hm] at hA
      have e := hA.n
      rw [atS_n hb hj hm]
      refine J_aload_n (i := 0) qX6_at_9 rfl rfl ?_
      refine J_getR qX6_at_10 fX6_13 (by assumption) (by assumption) ?_
      refine J_iload_n (i := 1) qX6_at_13 rfl rfl ?_
      refine J_ialde qX6_at_14 (by assumption) rfl (by omega) (by (repeat first | with_reducible exact wI_e _ _ _ _ | (with_reducible apply rd_s; focus omega) | (with_reducible apply rd_c; focus omega) | (with_reducible apply rd_k; focus omega) | with_reducible exact rd_e (by omega)); first | done | assumption | rfl) ?_
      refine J_if_ge qX6_at_15 (fun c => absurd c (by decide)) (fun _ => ?_)
      refine J_aload_n (i := 0) qX6_at_18 rfl rfl ?_
      refine J_pushI qX6_at_19 ?_
      refine J_vi1 qX6_at_20 kX6_83 (by assumption) (m_found (d := d + 1) hM0 h (f := 1) (by omega)) (Nat.le_of_ble_eq_true rfl) (fun v1 ν hr => ?_)
      refine Ji_ret qX6_at_23 ?_
      exact hr
    | some l =>
      rw [hm] at hA
      have e := hA.1
      have l40 := hA.2.1
      rw [atS_s hb hj hm]
      refine J_aload_n (i := 0) qX6_at_9 rfl rfl ?_
      refine J_getR qX6_at_10 fX6_13 (by assumption) (by assumption) ?_
      refine J_iload_n (i := 1) qX6_at_13 rfl rfl ?_
      refine J_ialde qX6_at_14 (by assumption) rfl (by omega) (by (repeat first | with_reducible exact wI_e _ _ _ _ | (with_reducible apply rd_s; focus omega) | (with_reducible apply rd_c; focus omega) | (with_reducible apply rd_k; focus omega) | with_reducible exact rd_e (by omega)); first | done | assumption | rfl) ?_
      refine J_if_ge_n qX6_at_15 (by omega) ?_
      refine J_iload_n (i := 2) qX6_at_24 rfl rfl ?_
      refine J_pushI qX6_at_25 ?_
      refine J_aload_n (i := 0) qX6_at_26 rfl rfl ?_
      refine J_getR qX6_at_27 fX6_13 (by assumption) (by assumption) ?_
      refine J_iload_n (i := 1) qX6_at_30 rfl rfl ?_
      refine J_ialde qX6_at_31 (by assumption) rfl (by omega) (by (repeat first | with_reducible exact wI_e _ _ _ _ | (with_reducible apply rd_s; focus omega) | (with_reducible apply rd_c; focus omega) | (with_reducible apply rd_k; focus omega) | with_reducible exact rd_e (by omega)); first | done | assumption | rfl) ?_
      refine J_pushI qX6_at_32 ?_
      refine J_isub qX6_at_33 ?_
      rw [subl]
      refine J_si3 qX6_at_34 kX6_75 (m_in (d := d + 1) i (nI 0) (lv l.length)) (Nat.le_of_ble_eq_true rfl) (fun v1 μ' hr => ?_)
      rw [inB_lv (by omega)] at hr
      obtain ⟨rfl, rfl⟩ := hr
      cases hi : hasB l.length i with
      | false =>
        first | refine J_if_eq qX6_at_37 (fun _ => ?_) (fun c => absurd b2i_f0 c) | refine J_if_eq qX6_at_37 (fun c => absurd c b2i_t0) (fun _ => ?_)
        rw [if_pos rfl]
        refine J_aload_n (i := 0) qX6_at_54 rfl rfl ?_
        refine J_pushI qX6_at_55 ?_
        refine J_vi1 qX6_at_56 kX6_83 (by assumption) (m_found (d := d + 1) hM0 h (f := 2) (by omega)) (Nat.le_of_ble_eq_true rfl) (fun v1 ν hr => ?_)
        refine Ji_ret qX6_at_59 ?_
        exact hr
      | true =>
        first | refine J_if_eq qX6_at_37 (fun _ => ?_) (fun c => absurd b2i_f0 c) | refine J_if_eq qX6_at_37 (fun c => absurd c b2i_t0) (fun _ => ?_)
        rw [if_neg (by decide)]
        obtain ⟨k, hk, rfl⟩ := hasB_of (by omega) hi
        refine J_aload_n (i := 0) qX6_at_40 rfl rfl ?_
        refine J_aload_n (i := 0) qX6_at_41 rfl rfl ?_
        refine J_iload_n (i := 1) qX6_at_42 rfl rfl ?_
        refine J_iload_n (i := 2) qX6_at_43 rfl rfl ?_
        refine J_vi2 qX6_at_44 kX6_87 (by assumption) (m_rowAt (d := d + 1) hM0 hj (i := k) (by omega)) (Nat.le_of_ble_eq_true rfl) (fun v1 μ' hr => ?_)
        rw [hA.2.2 k hk] at hr
        obtain ⟨rfl, rfl⟩ := hr
        refine J_pushI qX6_at_47 ?_
        refine J_vi2 qX6_at_48 kX6_91 (by assumption) (m_tells (d := d + 1) hM0 h (l.getD k 0) (nI 1)) (Nat.le_of_ble_eq_true rfl) (fun v1 ν hr => ?_)
        refine J_goto qX6_at_51 ?_
        refine Ji_ret qX6_at_59 ?_
        rw [ix_n (by omega)]
        exact hr
theorem m_mean (hM : LayM G) (h : RelM μ s) (r : Int32) : Si mX6_mean (d+2) [.ref 198, .int r] G μ (fun q μ' => q = (meanS s r).1 ∧ RelM μ' (meanS s r).2 ∧ FrM μ μ') := by
  have hM0 := hM
  obtain ⟨mO, ⟨f2, f3, f4, -⟩, ⟨b199, b200, b201, -⟩⟩ := hM
  refine Si_of (ls := [.ref 198, .int r, .null, .null, .null]) (by decide +kernel) (Nat.le_of_ble_eq_true rfl) rfl ?_
  refine J_iload_n (i := 1) qX6_mean_0 rfl rfl ?_
  refine J_si1 qX6_mean_1 kX6_79 (m_isRow (d := d) r) (Nat.le_of_ble_eq_true rfl) (fun v1 μ' hr => ?_)
  obtain ⟨rfl, rfl⟩ := hr
  cases hb : hasB 6 r with
  | false =>
    first | refine J_if_ne qX6_mean_4 (fun c => absurd b2i_f0 c) (fun _ => ?_) | refine J_if_ne qX6_mean_4 (fun _ => ?_) (fun c => absurd c b2i_t0)
    refine J_pushI qX6_mean_7 ?_
    refine Ji_ret qX6_mean_8 ?_
    rw [show meanS s r = (-1, s) from if_pos hb]
    exact ⟨rfl, h, FrM.rf⟩
  | true =>
    first | refine J_if_ne qX6_mean_4 (fun c => absurd b2i_f0 c) (fun _ => ?_) | refine J_if_ne qX6_mean_4 (fun _ => ?_) (fun c => absurd c b2i_t0)
    obtain ⟨j, hj, rfl⟩ := hasB_of (by omega) hb
    have hA := h.1 j hj
    cases hm : sRw s j with
    | none =>
      rw [hm] at hA
      have e := hA.n
      rw [meanS_n hb hj hm]
      refine J_aload_n (i := 0) qX6_mean_9 rfl rfl ?_
      refine J_getR qX6_mean_10 fX6_13 (by assumption) (by assumption) ?_
      refine J_iload_n (i := 1) qX6_mean_13 rfl rfl ?_
      refine J_ialde qX6_mean_14 (by assumption) rfl (by omega) (by (repeat first | with_reducible exact wI_e _ _ _ _ | (with_reducible apply rd_s; focus omega) | (with_reducible apply rd_c; focus omega) | (with_reducible apply rd_k; focus omega) | with_reducible exact rd_e (by omega)); first | done | assumption | rfl) ?_
      refine J_if_ge qX6_mean_15 (fun c => absurd c (by decide)) (fun _ => ?_)
      refine J_aload_n (i := 0) qX6_mean_18 rfl rfl ?_
      refine J_pushI qX6_mean_19 ?_
      refine J_vi1 qX6_mean_20 kX6_83 (by assumption) (m_found (d := d + 1) hM0 h (f := 1) (by omega)) (Nat.le_of_ble_eq_true rfl) (fun v1 ν hr => ?_)
      refine Ji_ret qX6_mean_23 ?_
      exact hr
    | some l =>
      rw [hm] at hA
      have e := hA.1
      have l40 := hA.2.1
      refine J_aload_n (i := 0) qX6_mean_9 rfl rfl ?_
      refine J_getR qX6_mean_10 fX6_13 (by assumption) (by assumption) ?_
      refine J_iload_n (i := 1) qX6_mean_13 rfl rfl ?_
      refine J_ialde qX6_mean_14 (by assumption) rfl (by omega) (by (repeat first | with_reducible exact wI_e _ _ _ _ | (with_reducible apply rd_s; focus omega) | (with_reducible apply rd_c; focus omega) | (with_reducible apply rd_k; focus omega) | with_reducible exact rd_e (by omega)); first | done | assumption | rfl) ?_
      refine J_if_ge_n qX6_mean_15 (by omega) ?_
      refine J_aload_n (i := 0) qX6_mean_24 rfl rfl ?_
      refine J_getR qX6_mean_25 fX6_13 (by assumption) (by assumption) ?_
      refine J_iload_n (i := 1) qX6_mean_28 rfl rfl ?_
      refine J_ialde qX6_mean_29 (by assumption) rfl (by omega) (by (repeat first | with_reducible exact wI_e _ _ _ _ | (with_reducible apply rd_s; focus omega) | (with_reducible apply rd_c; focus omega) | (with_reducible apply rd_k; focus omega) | with_reducible exact rd_e (by omega)); first | done | assumption | rfl) ?_
      refine J_if_ne_n qX6_mean_30 (by omega) (fun c1 => ?_) (fun c1 => ?_)
      · refine J_pushL qX6_mean_39 ?_
        refine J_lst2 qX6_mean_40 (Nat.le_of_ble_eq_true rfl) rfl ?_
        refine J_pushI qX6_mean_41 ?_
        refine J_ist4 qX6_mean_42 (Nat.le_of_ble_eq_true rfl) rfl ?_
        refine ind_up (n := l.length) (P := fun k => J mX6_mean (d+2) (0, 0) s0 (Ki G (fun q μ' => q = (meanS s (nI j)).1 ∧ RelM μ' (meanS s (nI j)).2 ∧ FrM μ μ')) (0, 0) 44 [.ref 198, .int (nI j), .long (sumF l k), .null, .int (nI k)] [] (G, μ)) (fun k hk ih => ?_) 0 (Nat.zero_le _)
        refine J_iload (i := 4) qX6_mean_44 rfl ?_
        refine J_aload_n (i := 0) qX6_mean_46 rfl rfl ?_
        refine J_getR qX6_mean_47 fX6_13 (by assumption) (by assumption) ?_
        refine J_iload_n (i := 1) qX6_mean_50 rfl rfl ?_
        refine J_ialde qX6_mean_51 (by assumption) rfl (by omega) (by (repeat first | with_reducible exact wI_e _ _ _ _ | (with_reducible apply rd_s; focus omega) | (with_reducible apply rd_c; focus omega) | (with_reducible apply rd_k; focus omega) | with_reducible exact rd_e (by omega)); first | done | assumption | rfl) ?_
        first | with_reducible refine J_icmp_ge_n qX6_mean_52 (by omega) (by omega) (fun c2 => ?_) (fun c2 => ?_) | refine J_icmp_ge qX6_mean_52 (fun c2 => ?_) (fun c2 => ?_)
        · have ek : k = l.length := by omega
          subst ek
          have hne := lN_ne (n := l.length) (by omega) (by omega)
          refine J_aload_n (i := 0) qX6_mean_72 rfl rfl ?_
          refine J_lload_n (i := 2) qX6_mean_73 rfl rfl ?_
          refine J_aload_n (i := 0) qX6_mean_74 rfl rfl ?_
          refine J_getR qX6_mean_75 fX6_13 (by assumption) (by assumption) ?_
          refine J_iload_n (i := 1) qX6_mean_78 rfl rfl ?_
          refine J_ialde qX6_mean_79 (by assumption) rfl (by omega) (by (repeat first | with_reducible exact wI_e _ _ _ _ | (with_reducible apply rd_s; focus omega) | (with_reducible apply rd_c; focus omega) | (with_reducible apply rd_k; focus omega) | with_reducible exact rd_e (by omega)); first | done | assumption | rfl) ?_
          refine J_i2l qX6_mean_80 ?_
          refine J_ldiv qX6_mean_81 (by first | assumption | decide) ?_
          refine J_l2i qX6_mean_82 ?_
          refine J_pushI qX6_mean_83 ?_
          refine J_vi2 qX6_mean_84 kX6_91 (by assumption) (m_tells (d := d + 1) hM0 h _ (nI 1)) (Nat.le_of_ble_eq_true rfl) (fun v1 ν hr => ?_)
          refine Ji_ret qX6_mean_87 ?_
          rw [meanS_s hb hj hm, if_neg c1]
          exact hr
        · refine J_lload_n (i := 2) qX6_mean_55 rfl rfl ?_
          refine J_aload_n (i := 0) qX6_mean_56 rfl rfl ?_
          refine J_iload_n (i := 1) qX6_mean_57 rfl rfl ?_
          refine J_iload (i := 4) qX6_mean_58 rfl ?_
          refine J_vi2 qX6_mean_60 kX6_87 (by assumption) (m_rowAt (d := d + 1) hM0 hj (i := k) (by omega)) (Nat.le_of_ble_eq_true rfl) (fun v1 μ' hr => ?_)
          rw [hA.2.2 k c2] at hr
          obtain ⟨rfl, rfl⟩ := hr
          refine J_i2l qX6_mean_63 ?_
          refine J_ladd qX6_mean_64 ?_
          refine J_lst2 qX6_mean_65 (Nat.le_of_ble_eq_true rfl) rfl ?_
          refine J_inc4 qX6_mean_66 (Nat.le_of_ble_eq_true rfl) (by first | with_reducible exact nI_inc _ | rfl) rfl ?_
          refine J_goto qX6_mean_69 ?_
          exact ih c2
      · rw [meanS_s hb hj hm, if_pos c1]
        refine J_aload_n (i := 0) qX6_mean_33 rfl rfl ?_
        refine J_pushI qX6_mean_34 ?_
        refine J_vi1 qX6_mean_35 kX6_83 (by assumption) (m_found (d := d + 1) hM0 h (f := 4) (by omega)) (Nat.le_of_ble_eq_true rfl) (fun v1 ν hr => ?_)
        refine Ji_ret qX6_mean_38 ?_
        exact hr
theorem m_text (hM : LayM G) (h : RelM μ s) (r n : Int32) : Si mX6_text (d+2) [.ref 198, .int r, .int n] G μ (fun v μ' => v = (textS s r n).1 ∧ RelM μ' (textS s r n).2 ∧ FrM μ μ') := by
  have hM0 := hM
  obtain ⟨mO, ⟨f2, f3, f4, f5, f6, f7, -⟩, ⟨b199, b200, b201, b202, b203, b204, -⟩⟩ := hM
  have bad : (hasB 4 r = false ∨ nI 120 < n) → J mX6_text (d+2) (0, 0) s0 (Ki G (fun v μ' => v = (textS s r n).1 ∧ RelM μ' (textS s r n).2 ∧ FrM μ μ')) (0, 0) 13 [.ref 198, .int r, .int n, .null] [] (G, μ) := fun hb => by
    rw [show textS s r n = (-1, s) from if_pos hb]
    refine J_pushI qX6_text_13 ?_
    refine Ji_ret qX6_text_14 ?_
    exact ⟨rfl, h, FrM.rf⟩
  refine Si_of (ls := [.ref 198, .int r, .int n, .null]) (by decide +kernel) (Nat.le_of_ble_eq_true rfl) rfl ?_
  refine J_iload_n (i := 1) qX6_text_0 rfl rfl ?_
  refine J_si1 qX6_text_1 kX6_94 (m_isText (d := d) r) (Nat.le_of_ble_eq_true rfl) (fun v μ' hr => ?_)
  obtain ⟨rfl, rfl⟩ := hr
  cases hb : hasB 4 r with
  | false =>
    first | refine J_if_eq qX6_text_4 (fun _ => ?_) (fun c => absurd b2i_f0 c) | refine J_if_eq qX6_text_4 (fun c => absurd c b2i_t0) (fun _ => ?_)
    exact bad (Or.inl hb)
  | true =>
    first | refine J_if_eq qX6_text_4 (fun _ => ?_) (fun c => absurd b2i_f0 c) | refine J_if_eq qX6_text_4 (fun c => absurd c b2i_t0) (fun _ => ?_)
    refine J_iload_n (i := 2) qX6_text_7 rfl rfl ?_
    refine J_pushI qX6_text_8 ?_
    refine J_icmp_le qX6_text_10 (fun c1 => ?_) (fun c1 => bad (Or.inr (i32_nle c1)))
    clear bad
    have e1 : textS s r n = if n < 0 then (-3, uFnd s 5) else (n, uTxt s (ix r) (some (List.replicate (ix n) (nI 32)))) := if_neg (fun z => z.elim (fun y => by rw [hb] at y; cases y) (fun y => absurd c1 (Int32.not_le.mpr y)))
    obtain ⟨j, hj, rfl⟩ := hasB_of (by omega) hb
    refine J_iload_n (i := 2) qX6_text_15 rfl rfl ?_
    refine J_if_ge qX6_text_16 (fun c2 => ?_) (fun c2 => ?_)
    · rw [if_neg (Int32.not_lt.mpr c2)] at e1
      obtain ⟨k, hk, rfl⟩ : ∃ k, k ≤ 120 ∧ n = nI k := nI_of2 (M := nI 120) rfl (Int32.not_lt.mpr c2) c1
      rw [ix_n (by omega), ix_n (by omega)] at e1
      refine J_aload_n (i := 0) qX6_text_25 rfl rfl ?_
      refine J_getR qX6_text_26 fX6_22 (by assumption) (by assumption) ?_
      refine J_iload_n (i := 1) qX6_text_29 rfl rfl ?_
      refine J_iload_n (i := 2) qX6_text_30 rfl rfl ?_
      refine J_iast qX6_text_31 (by assumption) rfl (by omega) ?_
      refine J_pushI qX6_text_32 ?_
      refine J_ist3 qX6_text_33 (Nat.le_of_ble_eq_true rfl) rfl ?_
      have H : ∀ i, i ≤ 120 → ∀ ν : Mm, Fr μ ν (PmT j) → ν.1 203 j = nI k → (∀ q, q < i → ν.1 204 (120 * j + q) = nI 32) → J mX6_text (d+2) (0, 0) s0 (Ki G (fun v μ' => v = (textS s (nI j) (nI k)).1 ∧ RelM μ' (textS s (nI j) (nI k)).2 ∧ FrM μ μ')) (0, 0) 34 [.ref 198, .int (nI j), .int (nI k), .int (nI i)] [] (G, ν) := by
        refine ind_up (fun i hi ih ν hF hz hinv => ?_)
        refine J_iload_n (i := 3) qX6_text_34 rfl rfl ?_
        refine J_pushI qX6_text_35 ?_
        first | with_reducible refine J_icmp_ge_n qX6_text_37 (by omega) (by omega) (fun c3 => ?_) (fun c3 => ?_) | refine J_icmp_ge qX6_text_37 (fun c3 => ?_) (fun c3 => ?_)
        · refine J_iload_n (i := 2) qX6_text_59 rfl rfl ?_
          refine Ji_ret qX6_text_60 ?_
          rw [e1]
          exact ⟨rfl, h.txt hF hj ⟨by rw [List.length_replicate]; exact hz, by rw [List.length_replicate]; exact hk, fun q hq => by
            rw [List.length_replicate] at hq
            rw [gd_rep hq]
            exact hinv q (by omega)⟩⟩
        · refine J_aload_n (i := 0) qX6_text_40 rfl rfl ?_
          refine J_getR qX6_text_41 fX6_25 (by assumption) (by assumption) ?_
          refine J_pushI qX6_text_44 ?_
          refine J_iload_n (i := 1) qX6_text_46 rfl rfl ?_
          first | with_reducible refine J_imul_n qX6_text_47 ?_ | refine J_imul qX6_text_47 ?_
          refine J_iload_n (i := 3) qX6_text_48 rfl rfl ?_
          first | with_reducible refine J_iadd_n qX6_text_49 ?_ | refine J_iadd qX6_text_49 ?_
          refine J_pushI qX6_text_50 ?_
          refine J_bast qX6_text_52 b204 rfl (by omega) ?_
          rw [show (nI 32).toInt8.toInt32 = nI 32 by decide]
          refine J_inc3 qX6_text_53 (Nat.le_of_ble_eq_true rfl) (by first | with_reducible exact nI_inc _ | rfl) rfl ?_
          refine J_goto qX6_text_56 ?_
          refine ih c3 _ (hF.w (Or.inr (Or.inl ⟨rfl, by omega, by omega⟩))) (by rw [wI_n (by omega)]; exact hz) (fun q hq => ?_)
          by_cases e : q = i
          · rw [e]; exact wI_e _ _ _ _
          · rw [wI_n (by omega)]; exact hinv q (by omega)
      exact H 0 (Nat.zero_le _) _ (Fr.w Fr.rf (Or.inl ⟨rfl, rfl⟩)) (wI_e _ _ _ _) (fun q hq => absurd hq (Nat.not_lt_zero q))
    · rw [e1, if_pos (i32_nle c2)]
      refine J_aload_n (i := 0) qX6_text_19 rfl rfl ?_
      refine J_pushI qX6_text_20 ?_
      refine J_vi1 qX6_text_21 kX6_83 (by assumption) (m_found (d := d + 1) hM0 h (f := 5) (by omega)) (Nat.le_of_ble_eq_true rfl) (fun v ν hr => ?_)
      refine Ji_ret qX6_text_24 ?_
      exact hr
theorem b_b (x : Int32) : x.toInt8.toInt32.toInt8.toInt32 = x.toInt8.toInt32 := by
  rw [Int8.toInt8_toInt32]
theorem m_put (hM : LayM G) (h : RelM μ s) (r i v : Int32) : Si mX6_put (d+2) [.ref 198, .int r, .int i, .int v] G μ (fun q μ' => q = (putS s r i v).1 ∧ RelM μ' (putS s r i v).2 ∧ FrM μ μ') := by
  have hM0 := hM
  obtain ⟨mO, ⟨f2, f3, f4, f5, f6, f7, -⟩, ⟨b199, b200, b201, b202, b203, b204, -⟩⟩ := hM
  refine Si_of (ls := [.ref 198, .int r, .int i, .int v, .null]) (by decide +kernel) (Nat.le_of_ble_eq_true rfl) rfl ?_
  refine J_iload_n (i := 1) qX6_put_0 rfl rfl ?_
  refine J_si1 qX6_put_1 kX6_94 (m_isText (d := d) r) (Nat.le_of_ble_eq_true rfl) (fun v1 μ' hr => ?_)
  obtain ⟨rfl, rfl⟩ := hr
  cases hb : hasB 4 r with
  | false =>
    first | refine J_if_ne qX6_put_4 (fun c => absurd b2i_f0 c) (fun _ => ?_) | refine J_if_ne qX6_put_4 (fun _ => ?_) (fun c => absurd c b2i_t0)
    refine J_pushI qX6_put_7 ?_
    refine Ji_ret qX6_put_8 ?_
    rw [show putS s r i v = (-1, s) from if_pos hb]
    exact ⟨rfl, h, FrM.rf⟩
  | true =>
    first | refine J_if_ne qX6_put_4 (fun c => absurd b2i_f0 c) (fun _ => ?_) | refine J_if_ne qX6_put_4 (fun _ => ?_) (fun c => absurd c b2i_t0)
    obtain ⟨j, hj, rfl⟩ := hasB_of (by omega) hb
    have hA := h.2.1 j hj
    cases hm : sTx s j with
    | none =>
      rw [hm] at hA
      have e := hA.n
      rw [putS_n hb hj hm]
      refine J_aload_n (i := 0) qX6_put_9 rfl rfl ?_
      refine J_getR qX6_put_10 fX6_22 (by assumption) (by assumption) ?_
      refine J_iload_n (i := 1) qX6_put_13 rfl rfl ?_
      refine J_ialde qX6_put_14 (by assumption) rfl (by omega) (by (repeat first | with_reducible exact wI_e _ _ _ _ | (with_reducible apply rd_s; focus omega) | (with_reducible apply rd_c; focus omega) | (with_reducible apply rd_k; focus omega) | with_reducible exact rd_e (by omega)); first | done | assumption | rfl) ?_
      refine J_if_ge qX6_put_15 (fun c => absurd c (by decide)) (fun _ => ?_)
      refine J_aload_n (i := 0) qX6_put_18 rfl rfl ?_
      refine J_pushI qX6_put_19 ?_
      refine J_vi1 qX6_put_20 kX6_83 (by assumption) (m_found (d := d + 1) hM0 h (f := 1) (by omega)) (Nat.le_of_ble_eq_true rfl) (fun v1 ν hr => ?_)
      refine Ji_ret qX6_put_23 ?_
      exact hr
    | some l =>
      rw [hm] at hA
      have e := hA.1
      have l40 := hA.2.1
      rw [putS_s hb hj hm]
      refine J_aload_n (i := 0) qX6_put_9 rfl rfl ?_
      refine J_getR qX6_put_10 fX6_22 (by assumption) (by assumption) ?_
      refine J_iload_n (i := 1) qX6_put_13 rfl rfl ?_
      refine J_ialde qX6_put_14 (by assumption) rfl (by omega) (by (repeat first | with_reducible exact wI_e _ _ _ _ | (with_reducible apply rd_s; focus omega) | (with_reducible apply rd_c; focus omega) | (with_reducible apply rd_k; focus omega) | with_reducible exact rd_e (by omega)); first | done | assumption | rfl) ?_
      refine J_if_ge_n qX6_put_15 (by omega) ?_
      refine J_iload_n (i := 2) qX6_put_24 rfl rfl ?_
      refine J_pushI qX6_put_25 ?_
      refine J_aload_n (i := 0) qX6_put_26 rfl rfl ?_
      refine J_getR qX6_put_27 fX6_22 (by assumption) (by assumption) ?_
      refine J_iload_n (i := 1) qX6_put_30 rfl rfl ?_
      refine J_ialde qX6_put_31 (by assumption) rfl (by omega) (by (repeat first | with_reducible exact wI_e _ _ _ _ | (with_reducible apply rd_s; focus omega) | (with_reducible apply rd_c; focus omega) | (with_reducible apply rd_k; focus omega) | with_reducible exact rd_e (by omega)); first | done | assumption | rfl) ?_
      refine J_pushI qX6_put_32 ?_
      refine J_isub qX6_put_33 ?_
      rw [subl]
      refine J_si3 qX6_put_34 kX6_75 (m_in (d := d + 1) i (nI 0) (lv l.length)) (Nat.le_of_ble_eq_true rfl) (fun v1 μ' hr => ?_)
      rw [inB_lv (by omega)] at hr
      obtain ⟨rfl, rfl⟩ := hr
      cases hi : hasB l.length i with
      | false =>
        first | refine J_if_ne qX6_put_37 (fun c => absurd b2i_f0 c) (fun _ => ?_) | refine J_if_ne qX6_put_37 (fun _ => ?_) (fun c => absurd c b2i_t0)
        rw [if_pos rfl]
        refine J_aload_n (i := 0) qX6_put_40 rfl rfl ?_
        refine J_pushI qX6_put_41 ?_
        refine J_vi1 qX6_put_42 kX6_83 (by assumption) (m_found (d := d + 1) hM0 h (f := 2) (by omega)) (Nat.le_of_ble_eq_true rfl) (fun v1 ν hr => ?_)
        refine Ji_ret qX6_put_45 ?_
        exact hr
      | true =>
        first | refine J_if_ne qX6_put_37 (fun c => absurd b2i_f0 c) (fun _ => ?_) | refine J_if_ne qX6_put_37 (fun _ => ?_) (fun c => absurd c b2i_t0)
        rw [if_neg (by decide)]
        obtain ⟨k, hk, rfl⟩ := hasB_of (by omega) hi
        have hA2 : MR (wI μ 204 (120 * j + k) v.toInt8.toInt32) 203 204 120 j (some (l.set k v.toInt8.toInt32)) := by
          refine ⟨?_, by rw [List.length_set]; exact l40, fun q hq => ?_⟩
          · rw [wI_n (by omega), List.length_set]; exact e
          · rw [List.length_set] at hq
            by_cases eq : q = k
            · subst eq; rw [wI_e, List.getD_eq_getElem?_getD, List.getElem?_set_self hk]; rfl
            · rw [wI_n (by omega), hA.2.2 q hq, List.getD_eq_getElem?_getD, List.getD_eq_getElem?_getD, List.getElem?_set_ne (by omega)]
        refine J_aload_n (i := 0) qX6_put_46 rfl rfl ?_
        refine J_getR qX6_put_47 fX6_25 (by assumption) (by assumption) ?_
        refine J_pushI qX6_put_50 ?_
        refine J_iload_n (i := 1) qX6_put_52 rfl rfl ?_
        first | with_reducible refine J_imul_n qX6_put_53 ?_ | refine J_imul qX6_put_53 ?_
        refine J_iload_n (i := 2) qX6_put_54 rfl rfl ?_
        first | with_reducible refine J_iadd_n qX6_put_55 ?_ | refine J_iadd qX6_put_55 ?_
        refine J_bald qX6_put_56 b204 rfl (by omega) ?_
        rw [hA.2.2 k hk]
        refine J_ist4 qX6_put_57 (Nat.le_of_ble_eq_true rfl) rfl ?_
        refine J_aload_n (i := 0) qX6_put_59 rfl rfl ?_
        refine J_getR qX6_put_60 fX6_25 (by assumption) (by assumption) ?_
        refine J_pushI qX6_put_63 ?_
        refine J_iload_n (i := 1) qX6_put_65 rfl rfl ?_
        first | with_reducible refine J_imul_n qX6_put_66 ?_ | refine J_imul qX6_put_66 ?_
        refine J_iload_n (i := 2) qX6_put_67 rfl rfl ?_
        first | with_reducible refine J_iadd_n qX6_put_68 ?_ | refine J_iadd qX6_put_68 ?_
        refine J_iload_n (i := 3) qX6_put_69 rfl rfl ?_
        refine J_i2b qX6_put_70 ?_
        refine J_bast qX6_put_71 b204 rfl (by omega) ?_
        rw [b_b]
        refine J_pushI qX6_put_72 ?_
        refine J_iload (i := 4) qX6_put_75 rfl ?_
        refine J_iadd qX6_put_77 ?_
        refine Ji_ret qX6_put_78 ?_
        rw [ix_n (by omega)]
        exact ⟨Int32.add_comm _ _, h.txt (Fr.w Fr.rf (Or.inr (Or.inl ⟨rfl, by omega, by omega⟩))) hj hA2⟩
theorem m_copy (hM : LayM G) (h : RelM μ s) (r i t j n : Int32) : Si mX6_copy (d+2) [.ref 198, .int r, .int i, .int t, .int j, .int n] G μ (fun q μ' => q = (copyS s r i t j n).1 ∧ RelM μ' (copyS s r i t j n).2 ∧ FrM μ μ') := by
  have hM0 := hM
  obtain ⟨mO, ⟨f2, f3, f4, f5, -⟩, ⟨b199, b200, b201, b202, -⟩⟩ := hM
  have bad : (hasB 6 r = false ∨ hasB 6 t = false) → J mX6_copy (d+2) (0, 0) s0 (Ki G (fun q μ' => q = (copyS s r i t j n).1 ∧ RelM μ' (copyS s r i t j n).2 ∧ FrM μ μ')) (0, 0) 14 [.ref 198, .int r, .int i, .int t, .int j, .int n, .null] [] (G, μ) := fun hb => by
    rw [copyS_bad hb]
    refine J_pushI qX6_copy_14 ?_
    refine Ji_ret qX6_copy_15 ?_
    exact ⟨rfl, h, FrM.rf⟩
  refine Si_of (ls := [.ref 198, .int r, .int i, .int t, .int j, .int n, .null]) (by decide +kernel) (Nat.le_of_ble_eq_true rfl) rfl ?_
  refine J_iload_n (i := 1) qX6_copy_0 rfl rfl ?_
  refine J_si1 qX6_copy_1 kX6_79 (m_isRow (d := d) r) (Nat.le_of_ble_eq_true rfl) (fun v1 μ' hr => ?_)
  obtain ⟨rfl, rfl⟩ := hr
  cases hb : hasB 6 r with
  | false =>
    first | refine J_if_eq qX6_copy_4 (fun _ => ?_) (fun c => absurd b2i_f0 c) | refine J_if_eq qX6_copy_4 (fun c => absurd c b2i_t0) (fun _ => ?_)
    exact bad (Or.inl hb)
  | true =>
    first | refine J_if_eq qX6_copy_4 (fun _ => ?_) (fun c => absurd b2i_f0 c) | refine J_if_eq qX6_copy_4 (fun c => absurd c b2i_t0) (fun _ => ?_)
    refine J_iload_n (i := 3) qX6_copy_7 rfl rfl ?_
    refine J_si1 qX6_copy_8 kX6_79 (m_isRow (d := d) t) (Nat.le_of_ble_eq_true rfl) (fun v1 μ' hr => ?_)
    obtain ⟨rfl, rfl⟩ := hr
    cases hb2 : hasB 6 t with
    | false =>
      first | refine J_if_ne qX6_copy_11 (fun c => absurd b2i_f0 c) (fun _ => ?_) | refine J_if_ne qX6_copy_11 (fun _ => ?_) (fun c => absurd c b2i_t0)
      exact bad (Or.inr hb2)
    | true =>
      first | refine J_if_ne qX6_copy_11 (fun c => absurd b2i_f0 c) (fun _ => ?_) | refine J_if_ne qX6_copy_11 (fun _ => ?_) (fun c => absurd c b2i_t0)
      clear bad
      have hb3 : ¬ (hasB 6 r = false ∨ hasB 6 t = false) := by rw [hb, hb2]; decide
      obtain ⟨a, ha, rfl⟩ := hasB_of (by omega) hb
      obtain ⟨c, hc, rfl⟩ := hasB_of (by omega) hb2
      have hA := h.1 a ha
      have hC := h.1 c hc
      refine J_iload (i := 5) qX6_copy_16 rfl ?_
      refine J_if_ge qX6_copy_18 (fun c1 => ?_) (fun c1 => ?_)
      · have hn0 : ¬ n < 0 := Int32.not_lt.mpr c1
        have nog : (sRw s a = none ∨ sRw s c = none) → J mX6_copy (d+2) (0, 0) s0 (Ki G (fun q μ' => q = (copyS s (nI a) i (nI c) j n).1 ∧ RelM μ' (copyS s (nI a) i (nI c) j n).2 ∧ FrM μ μ')) (0, 0) 45 [.ref 198, .int (nI a), .int i, .int (nI c), .int j, .int n, .null] [] (G, μ) := fun ho => by
          rw [copyS_no hb3 ha hc hn0 ho]
          refine J_aload_n (i := 0) qX6_copy_45 rfl rfl ?_
          refine J_pushI qX6_copy_46 ?_
          refine J_vi1 qX6_copy_47 kX6_83 (by assumption) (m_found (d := d + 1) hM0 h (f := 1) (by omega)) (Nat.le_of_ble_eq_true rfl) (fun v1 ν hr => ?_)
          refine Ji_ret qX6_copy_50 ?_
          exact hr
        cases hm : sRw s a with
        | none =>
          rw [hm] at hA
          have e := hA.n
          refine J_aload_n (i := 0) qX6_copy_27 rfl rfl ?_
          refine J_getR qX6_copy_28 fX6_13 (by assumption) (by assumption) ?_
          refine J_iload_n (i := 1) qX6_copy_31 rfl rfl ?_
          refine J_ialde qX6_copy_32 (by assumption) rfl (by omega) (by (repeat first | with_reducible exact wI_e _ _ _ _ | (with_reducible apply rd_s; focus omega) | (with_reducible apply rd_c; focus omega) | (with_reducible apply rd_k; focus omega) | with_reducible exact rd_e (by omega)); first | done | assumption | rfl) ?_
          refine J_if_lt qX6_copy_33 (fun _ => nog (Or.inl hm)) (fun z => absurd neg1_lt z)
        | some l =>
          rw [hm] at hA
          have e := hA.1
          have l40 := hA.2.1
          refine J_aload_n (i := 0) qX6_copy_27 rfl rfl ?_
          refine J_getR qX6_copy_28 fX6_13 (by assumption) (by assumption) ?_
          refine J_iload_n (i := 1) qX6_copy_31 rfl rfl ?_
          refine J_ialde qX6_copy_32 (by assumption) rfl (by omega) (by (repeat first | with_reducible exact wI_e _ _ _ _ | (with_reducible apply rd_s; focus omega) | (with_reducible apply rd_c; focus omega) | (with_reducible apply rd_k; focus omega) | with_reducible exact rd_e (by omega)); first | done | assumption | rfl) ?_
          refine J_if_lt_n qX6_copy_33 (by omega) ?_
          cases hm2 : sRw s c with
          | none =>
            rw [hm2] at hC
            have e2 := hC.n
            refine J_aload_n (i := 0) qX6_copy_36 rfl rfl ?_
            refine J_getR qX6_copy_37 fX6_13 (by assumption) (by assumption) ?_
            refine J_iload_n (i := 3) qX6_copy_40 rfl rfl ?_
            refine J_ialde qX6_copy_41 (by assumption) rfl (by omega) (by (repeat first | with_reducible exact wI_e _ _ _ _ | (with_reducible apply rd_s; focus omega) | (with_reducible apply rd_c; focus omega) | (with_reducible apply rd_k; focus omega) | with_reducible exact rd_e (by omega)); first | done | assumption | rfl) ?_
            refine J_if_ge qX6_copy_42 (fun z => absurd z (by decide)) (fun _ => nog (Or.inr hm2))
          | some m =>
            rw [hm2] at hC
            have e2 := hC.1
            have m40 := hC.2.1
            refine J_aload_n (i := 0) qX6_copy_36 rfl rfl ?_
            refine J_getR qX6_copy_37 fX6_13 (by assumption) (by assumption) ?_
            refine J_iload_n (i := 3) qX6_copy_40 rfl rfl ?_
            refine J_ialde qX6_copy_41 (by assumption) rfl (by omega) (by (repeat first | with_reducible exact wI_e _ _ _ _ | (with_reducible apply rd_s; focus omega) | (with_reducible apply rd_c; focus omega) | (with_reducible apply rd_k; focus omega) | with_reducible exact rd_e (by omega)); first | done | assumption | rfl) ?_
            refine J_if_ge_n qX6_copy_42 (by omega) ?_
            have beg : (fromB l.length i n && fromB m.length j n) = false → J mX6_copy (d+2) (0, 0) s0 (Ki G (fun q μ' => q = (copyS s (nI a) i (nI c) j n).1 ∧ RelM μ' (copyS s (nI a) i (nI c) j n).2 ∧ FrM μ μ')) (0, 0) 95 [.ref 198, .int (nI a), .int i, .int (nI c), .int j, .int n, .null] [] (G, μ) := fun ho => by
              rw [copyS_so hb3 ha hc hn0 hm hm2, if_neg (by rw [ho]; decide)]
              refine J_aload_n (i := 0) qX6_copy_95 rfl rfl ?_
              refine J_pushI qX6_copy_96 ?_
              refine J_vi1 qX6_copy_97 kX6_83 (by assumption) (m_found (d := d + 1) hM0 h (f := 2) (by omega)) (Nat.le_of_ble_eq_true rfl) (fun v1 ν hr => ?_)
              refine Ji_ret qX6_copy_100 ?_
              exact hr
            have n0 : 0 ≤ n.toInt := (i32_0le n).mp c1
            refine J_iload_n (i := 2) qX6_copy_51 rfl rfl ?_
            refine J_if_lt qX6_copy_52 (fun c2 => beg ?_) (fun c2 => ?_)
            · rw [i32_lt0] at c2
              rw [show fromB l.length i n = false from decide_eq_false (by omega)]; rfl
            refine J_iload (i := 4) qX6_copy_55 rfl ?_
            refine J_if_lt qX6_copy_57 (fun c3 => beg ?_) (fun c3 => ?_)
            · rw [i32_lt0] at c3
              rw [show fromB m.length j n = false from decide_eq_false (by omega), Bool.and_false]
            refine J_iload_n (i := 2) qX6_copy_60 rfl rfl ?_
            refine J_i2l qX6_copy_61 ?_
            refine J_iload (i := 5) qX6_copy_62 rfl ?_
            refine J_i2l qX6_copy_64 ?_
            refine J_ladd qX6_copy_65 ?_
            refine J_aload_n (i := 0) qX6_copy_66 rfl rfl ?_
            refine J_getR qX6_copy_67 fX6_13 (by assumption) (by assumption) ?_
            refine J_iload_n (i := 1) qX6_copy_70 rfl rfl ?_
            refine J_ialde qX6_copy_71 (by assumption) rfl (by omega) (by (repeat first | with_reducible exact wI_e _ _ _ _ | (with_reducible apply rd_s; focus omega) | (with_reducible apply rd_c; focus omega) | (with_reducible apply rd_k; focus omega) | with_reducible exact rd_e (by omega)); first | done | assumption | rfl) ?_
            refine J_i2l qX6_copy_72 ?_
            refine J_lif_gt qX6_copy_73 qX6_copy_74 (fun c4 => beg ?_) (fun c4 => ?_)
            · rw [Int64.lt_iff_toInt_lt, l_add_i, Int32.toInt_toInt64, nI_toInt (by omega)] at c4
              rw [show fromB l.length i n = false from decide_eq_false (by omega)]; rfl
            refine J_iload (i := 4) qX6_copy_77 rfl ?_
            refine J_i2l qX6_copy_79 ?_
            refine J_iload (i := 5) qX6_copy_80 rfl ?_
            refine J_i2l qX6_copy_82 ?_
            refine J_ladd qX6_copy_83 ?_
            refine J_aload_n (i := 0) qX6_copy_84 rfl rfl ?_
            refine J_getR qX6_copy_85 fX6_13 (by assumption) (by assumption) ?_
            refine J_iload_n (i := 3) qX6_copy_88 rfl rfl ?_
            refine J_ialde qX6_copy_89 (by assumption) rfl (by omega) (by (repeat first | with_reducible exact wI_e _ _ _ _ | (with_reducible apply rd_s; focus omega) | (with_reducible apply rd_c; focus omega) | (with_reducible apply rd_k; focus omega) | with_reducible exact rd_e (by omega)); first | done | assumption | rfl) ?_
            refine J_i2l qX6_copy_90 ?_
            refine J_lif_le qX6_copy_91 qX6_copy_92 (fun c5 => ?_) (fun c5 => beg ?_)
            rotate_left
            · rw [Int64.le_iff_toInt_le, l_add_i, Int32.toInt_toInt64, nI_toInt (by omega)] at c5
              rw [show fromB m.length j n = false from decide_eq_false (by omega), Bool.and_false]
            rw [Int64.lt_iff_toInt_lt, l_add_i, Int32.toInt_toInt64, nI_toInt (by omega)] at c4
            rw [Int64.le_iff_toInt_le, l_add_i, Int32.toInt_toInt64, nI_toInt (by omega)] at c5
            rw [i32_lt0] at c2 c3
            have hf : fromB l.length i n = true := decide_eq_true (by omega)
            have hf2 : fromB m.length j n = true := decide_eq_true (by omega)
            have eC := copyS_so (i := i) (j := j) (n := n) hb3 ha hc hn0 hm hm2
            rw [if_pos (by rw [hf, hf2]; rfl)] at eC
            clear beg nog
            obtain ⟨x, y, rfl, rfl, hxy⟩ := fromB_of (by omega) hf
            obtain ⟨x2, y2, rfl, ey, hxy2⟩ := fromB_of (by omega) hf2
            have eyy : y = y2 := by
              have := congrArg ix ey
              rw [ix_n (by omega), ix_n (by omega)] at this
              exact this
            subst eyy
            rw [ix_n (by omega), ix_n (by omega), ix_n (by omega)] at eC
            refine J_pushI qX6_copy_101 ?_
            refine J_ist6 qX6_copy_102 (Nat.le_of_ble_eq_true rfl) rfl ?_
            have H2 : ∀ k, k ≤ y → ∀ ν : Mm, Fr μ ν (PmR c) → ν.1 200 c = nI m.length → (∀ q, q < y → ν.1 202 q = l.getD (x + q) 0) → (∀ q, q < m.length → ν.1 201 (40 * c + q) = if x2 ≤ q ∧ q < x2 + k then l.getD (x + (q - x2)) 0 else m.getD q 0) → J mX6_copy (d+2) (0, 0) s0 (Ki G (fun q μ' => q = (copyS s (nI a) (nI x) (nI c) (nI x2) (nI y)).1 ∧ RelM μ' (copyS s (nI a) (nI x) (nI c) (nI x2) (nI y)).2 ∧ FrM μ μ')) (0, 0) 136 [.ref 198, .int (nI a), .int (nI x), .int (nI c), .int (nI x2), .int (nI y), .int (nI k)] [] (G, ν) := by
              refine ind_up (fun k hk ih ν hF hz hco hinv => ?_)
              refine J_iload (i := 6) qX6_copy_136 rfl ?_
              refine J_iload (i := 5) qX6_copy_138 rfl ?_
              first | with_reducible refine J_icmp_ge_n qX6_copy_140 (by omega) (by omega) (fun c6 => ?_) (fun c6 => ?_) | refine J_icmp_ge qX6_copy_140 (fun c6 => ?_) (fun c6 => ?_)
              · refine J_pushI qX6_copy_171 ?_
                refine Ji_ret qX6_copy_172 ?_
                rw [eC]
                refine ⟨rfl, h.row hF hc ⟨by rw [cpL_len]; exact hz, by rw [cpL_len]; exact m40, fun q hq => ?_⟩⟩
                rw [cpL_len] at hq
                rw [cpL_at hq, hinv q hq, show k = y by omega]
              · have e6 := hco k c6
                refine J_aload_n (i := 0) qX6_copy_143 rfl rfl ?_
                refine J_getR qX6_copy_144 fX6_16 (by assumption) (by assumption) ?_
                refine J_pushI qX6_copy_147 ?_
                refine J_iload_n (i := 3) qX6_copy_149 rfl rfl ?_
                first | with_reducible refine J_imul_n qX6_copy_150 ?_ | refine J_imul qX6_copy_150 ?_
                refine J_iload (i := 4) qX6_copy_151 rfl ?_
                first | with_reducible refine J_iadd_n qX6_copy_153 ?_ | refine J_iadd qX6_copy_153 ?_
                refine J_iload (i := 6) qX6_copy_154 rfl ?_
                first | with_reducible refine J_iadd_n qX6_copy_156 ?_ | refine J_iadd qX6_copy_156 ?_
                refine J_aload_n (i := 0) qX6_copy_157 rfl rfl ?_
                refine J_getR qX6_copy_158 fX6_19 (by assumption) (by assumption) ?_
                refine J_iload (i := 6) qX6_copy_161 rfl ?_
                refine J_ialde qX6_copy_163 (by assumption) rfl (by omega) (by (repeat first | with_reducible exact wI_e _ _ _ _ | (with_reducible apply rd_s; focus omega) | (with_reducible apply rd_c; focus omega) | (with_reducible apply rd_k; focus omega) | with_reducible exact rd_e (by omega)); first | done | assumption | rfl) ?_
                refine J_iast qX6_copy_164 (by assumption) rfl (by omega) ?_
                refine J_inc6 qX6_copy_165 (Nat.le_of_ble_eq_true rfl) (by first | with_reducible exact nI_inc _ | rfl) rfl ?_
                refine J_goto qX6_copy_168 ?_
                refine ih c6 _ (hF.w (Or.inr (Or.inl ⟨rfl, by omega, by omega⟩))) (by rw [wI_n (by omega)]; exact hz) (fun q hq => by rw [wI_n (by omega)]; exact hco q hq) (fun q hq => ?_)
                by_cases eq : q = x2 + k
                · subst eq
                  rw [show 40 * c + (x2 + k) = 40 * c + x2 + k by omega, wI_e, if_pos (by omega), show x2 + k - x2 = k by omega]
                · rw [wI_n (by omega), hinv q hq]
                  by_cases e7 : x2 ≤ q ∧ q < x2 + k
                  · rw [if_pos e7, if_pos (by omega)]
                  · rw [if_neg e7, if_neg (by omega)]
            have H1 : ∀ k, k ≤ y → ∀ ν : Mm, Fr μ ν (fun c _ => c = 202) → (∀ q, q < k → ν.1 202 q = l.getD (x + q) 0) → J mX6_copy (d+2) (0, 0) s0 (Ki G (fun q μ' => q = (copyS s (nI a) (nI x) (nI c) (nI x2) (nI y)).1 ∧ RelM μ' (copyS s (nI a) (nI x) (nI c) (nI x2) (nI y)).2 ∧ FrM μ μ')) (0, 0) 104 [.ref 198, .int (nI a), .int (nI x), .int (nI c), .int (nI x2), .int (nI y), .int (nI k)] [] (G, ν) := by
              refine ind_up (fun k hk ih ν hF hinv => ?_)
              refine J_iload (i := 6) qX6_copy_104 rfl ?_
              refine J_iload (i := 5) qX6_copy_106 rfl ?_
              first | with_reducible refine J_icmp_ge_n qX6_copy_108 (by omega) (by omega) (fun c6 => ?_) (fun c6 => ?_) | refine J_icmp_ge qX6_copy_108 (fun c6 => ?_) (fun c6 => ?_)
              · refine J_pushI qX6_copy_133 ?_
                refine J_ist6 qX6_copy_134 (Nat.le_of_ble_eq_true rfl) rfl ?_
                refine H2 0 (Nat.zero_le _) ν (hF.mono (fun c k z => Or.inr (Or.inr z))) (by rw [hF.1 _ _ (by omega)]; exact e2) (fun q hq => hinv q (by omega)) (fun q hq => ?_)
                rw [if_neg (by omega), hF.1 _ _ (by omega)]
                exact hC.2.2 q hq
              · refine J_aload_n (i := 0) qX6_copy_111 rfl rfl ?_
                refine J_getR qX6_copy_112 fX6_19 (by assumption) (by assumption) ?_
                refine J_iload (i := 6) qX6_copy_115 rfl ?_
                refine J_aload_n (i := 0) qX6_copy_117 rfl rfl ?_
                refine J_iload_n (i := 1) qX6_copy_118 rfl rfl ?_
                refine J_iload_n (i := 2) qX6_copy_119 rfl rfl ?_
                refine J_iload (i := 6) qX6_copy_120 rfl ?_
                first | with_reducible refine J_iadd_n qX6_copy_122 ?_ | refine J_iadd qX6_copy_122 ?_
                refine J_vi2 qX6_copy_123 kX6_87 (by assumption) (m_rowAt (d := d + 1) hM0 ha (i := x + k) (by omega)) (Nat.le_of_ble_eq_true rfl) (fun v1 μ' hr => ?_)
                rw [hF.1 _ _ (by omega), hA.2.2 (x + k) (by omega)] at hr
                obtain ⟨rfl, rfl⟩ := hr
                refine J_iast qX6_copy_126 (by assumption) rfl (by omega) ?_
                refine J_inc6 qX6_copy_127 (Nat.le_of_ble_eq_true rfl) (by first | with_reducible exact nI_inc _ | rfl) rfl ?_
                refine J_goto qX6_copy_130 ?_
                refine ih c6 _ (hF.w rfl) (fun q hq => ?_)
                by_cases eq : q = k
                · rw [eq]; exact wI_e _ _ _ _
                · rw [wI_n (by omega)]; exact hinv q (by omega)
            exact H1 0 (Nat.zero_le _) μ Fr.rf (fun q hq => absurd hq (Nat.not_lt_zero q))
      · rw [copyS_neg hb3 (i32_nle c1)]
        refine J_aload_n (i := 0) qX6_copy_21 rfl rfl ?_
        refine J_pushI qX6_copy_22 ?_
        refine J_vi1 qX6_copy_23 kX6_83 (by assumption) (m_found (d := d + 1) hM0 h (f := 5) (by omega)) (Nat.le_of_ble_eq_true rfl) (fun v1 ν hr => ?_)
        refine Ji_ret qX6_copy_26 ?_
        exact hr
def okB (l : List Int32) : Nat → Bool
  | 0 => true
  | m + 1 => okB l m && hasB 26 (l.getD m 0)
theorem okB_succ (l : List Int32) (m : Nat) : okB l (m + 1) = (okB l m && hasB 26 (l.getD m 0)) := rfl
theorem okB_all (l : List Int32) : ∀ m, okB l m = true ↔ ∀ k, k < m → hasB 26 (l.getD k 0) = true
  | 0 => ⟨fun _ k hk => absurd hk (Nat.not_lt_zero k), fun _ => rfl⟩
  | m + 1 => by
    rw [okB_succ, Bool.and_eq_true, okB_all l m]
    constructor
    · rintro ⟨h1, h2⟩ k hk
      by_cases e : k = m
      · rw [e]; exact h2
      · exact h1 k (by omega)
    · intro h1
      exact ⟨fun k hk => h1 k (by omega), h1 m (by omega)⟩
theorem okB_let (l : List Int32) : okB l l.length = letB l := by
  unfold letB
  cases h : okB l l.length with
  | true => exact (decide_eq_true ((okB_all l _).mp h)).symm
  | false => exact (decide_eq_false (fun q => by rw [(okB_all l _).mpr q] at h; cases h)).symm
theorem m_hash (hM : LayM G) (h : RelM μ s) (r : Int32) : Si mX6_hash (d+2) [.ref 198, .int r] G μ (fun q μ' => q = (hashS s r).1 ∧ RelM μ' (hashS s r).2 ∧ FrM μ μ') := by
  have hM0 := hM
  obtain ⟨mO, ⟨f2, f3, f4, -⟩, ⟨b199, b200, b201, -⟩⟩ := hM
  refine Si_of (ls := [.ref 198, .int r, .null, .null, .null]) (by decide +kernel) (Nat.le_of_ble_eq_true rfl) rfl ?_
  refine J_iload_n (i := 1) qX6_hash_0 rfl rfl ?_
  refine J_si1 qX6_hash_1 kX6_79 (m_isRow (d := d) r) (Nat.le_of_ble_eq_true rfl) (fun v1 μ' hr => ?_)
  obtain ⟨rfl, rfl⟩ := hr
  cases hb : hasB 6 r with
  | false =>
    first | refine J_if_ne qX6_hash_4 (fun c => absurd b2i_f0 c) (fun _ => ?_) | refine J_if_ne qX6_hash_4 (fun _ => ?_) (fun c => absurd c b2i_t0)
    refine J_pushI qX6_hash_7 ?_
    refine Ji_ret qX6_hash_8 ?_
    rw [show hashS s r = (-1, s) from if_pos hb]
    exact ⟨rfl, h, FrM.rf⟩
  | true =>
    first | refine J_if_ne qX6_hash_4 (fun c => absurd b2i_f0 c) (fun _ => ?_) | refine J_if_ne qX6_hash_4 (fun _ => ?_) (fun c => absurd c b2i_t0)
    obtain ⟨j, hj, rfl⟩ := hasB_of (by omega) hb
    have hA := h.1 j hj
    cases hm : sRw s j with
    | none =>
      rw [hm] at hA
      have e := hA.n
      rw [hashS_n hb hj hm]
      refine J_aload_n (i := 0) qX6_hash_9 rfl rfl ?_
      refine J_getR qX6_hash_10 fX6_13 (by assumption) (by assumption) ?_
      refine J_iload_n (i := 1) qX6_hash_13 rfl rfl ?_
      refine J_ialde qX6_hash_14 (by assumption) rfl (by omega) (by (repeat first | with_reducible exact wI_e _ _ _ _ | (with_reducible apply rd_s; focus omega) | (with_reducible apply rd_c; focus omega) | (with_reducible apply rd_k; focus omega) | with_reducible exact rd_e (by omega)); first | done | assumption | rfl) ?_
      refine J_if_ge qX6_hash_15 (fun c => absurd c (by decide)) (fun _ => ?_)
      refine J_aload_n (i := 0) qX6_hash_18 rfl rfl ?_
      refine J_pushI qX6_hash_19 ?_
      refine J_vi1 qX6_hash_20 kX6_83 (by assumption) (m_found (d := d + 1) hM0 h (f := 1) (by omega)) (Nat.le_of_ble_eq_true rfl) (fun v1 ν hr => ?_)
      refine Ji_ret qX6_hash_23 ?_
      exact hr
    | some l =>
      rw [hm] at hA
      have e := hA.1
      have l40 := hA.2.1
      have eH := hashS_s hb hj hm
      refine J_aload_n (i := 0) qX6_hash_9 rfl rfl ?_
      refine J_getR qX6_hash_10 fX6_13 (by assumption) (by assumption) ?_
      refine J_iload_n (i := 1) qX6_hash_13 rfl rfl ?_
      refine J_ialde qX6_hash_14 (by assumption) rfl (by omega) (by (repeat first | with_reducible exact wI_e _ _ _ _ | (with_reducible apply rd_s; focus omega) | (with_reducible apply rd_c; focus omega) | (with_reducible apply rd_k; focus omega) | with_reducible exact rd_e (by omega)); first | done | assumption | rfl) ?_
      refine J_if_ge_n qX6_hash_15 (by omega) ?_
      refine J_aload_n (i := 0) qX6_hash_24 rfl rfl ?_
      refine J_getR qX6_hash_25 fX6_13 (by assumption) (by assumption) ?_
      refine J_iload_n (i := 1) qX6_hash_28 rfl rfl ?_
      refine J_ialde qX6_hash_29 (by assumption) rfl (by omega) (by (repeat first | with_reducible exact wI_e _ _ _ _ | (with_reducible apply rd_s; focus omega) | (with_reducible apply rd_c; focus omega) | (with_reducible apply rd_k; focus omega) | with_reducible exact rd_e (by omega)); first | done | assumption | rfl) ?_
      refine J_pushI qX6_hash_30 ?_
      refine J_pushI qX6_hash_31 ?_
      refine J_si3 qX6_hash_33 kX6_75 (m_in (d := d + 1) (nI l.length) (nI 1) (nI 6)) (Nat.le_of_ble_eq_true rfl) (fun v1 μ' hr => ?_)
      obtain ⟨rfl, rfl⟩ := hr
      have eI : inB (nI l.length) (nI 1) (nI 6) = decide (¬ (l.length < 1 ∨ 6 < l.length)) := by
        unfold inB
        apply decide_eq_decide.mpr
        rw [nI_leI (by omega) (by omega), nI_leI (by omega) (by omega)]
        omega
      rw [eI]
      by_cases cz : l.length < 1 ∨ 6 < l.length
      · rw [show decide (¬ (l.length < 1 ∨ 6 < l.length)) = false from decide_eq_false (fun z => z cz), eH, if_pos cz]
        first | refine J_if_ne qX6_hash_36 (fun c => absurd b2i_f0 c) (fun _ => ?_) | refine J_if_ne qX6_hash_36 (fun _ => ?_) (fun c => absurd c b2i_t0)
        refine J_aload_n (i := 0) qX6_hash_39 rfl rfl ?_
        refine J_pushI qX6_hash_40 ?_
        refine J_vi1 qX6_hash_41 kX6_83 (by assumption) (m_found (d := d + 1) hM0 h (f := 5) (by omega)) (Nat.le_of_ble_eq_true rfl) (fun v1 ν hr => ?_)
        refine Ji_ret qX6_hash_44 ?_
        exact hr
      · rw [show decide (¬ (l.length < 1 ∨ 6 < l.length)) = true from decide_eq_true cz]
        rw [if_neg cz] at eH
        first | refine J_if_ne qX6_hash_36 (fun c => absurd b2i_f0 c) (fun _ => ?_) | refine J_if_ne qX6_hash_36 (fun _ => ?_) (fun c => absurd c b2i_t0)
        refine J_pushI qX6_hash_45 ?_
        refine J_ist2 qX6_hash_46 (Nat.le_of_ble_eq_true rfl) rfl ?_
        refine J_pushI qX6_hash_47 ?_
        refine J_ist3 qX6_hash_48 (Nat.le_of_ble_eq_true rfl) rfl ?_
        refine J_pushI qX6_hash_49 ?_
        refine J_ist4 qX6_hash_50 (Nat.le_of_ble_eq_true rfl) rfl ?_
        refine ind_up (n := l.length) (P := fun m => J mX6_hash (d+2) (0, 0) s0 (Ki G (fun q μ' => q = (hashS s (nI j)).1 ∧ RelM μ' (hashS s (nI j)).2 ∧ FrM μ μ')) (0, 0) 52 [.ref 198, .int (nI j), .int (hashR l m), .int (b2i (okB l m)), .int (nI m)] [] (G, μ)) (fun m hmn ih => ?_) 0 (Nat.zero_le _)
        refine J_iload (i := 4) qX6_hash_52 rfl ?_
        refine J_aload_n (i := 0) qX6_hash_54 rfl rfl ?_
        refine J_getR qX6_hash_55 fX6_13 (by assumption) (by assumption) ?_
        refine J_iload_n (i := 1) qX6_hash_58 rfl rfl ?_
        refine J_ialde qX6_hash_59 (by assumption) rfl (by omega) (by (repeat first | with_reducible exact wI_e _ _ _ _ | (with_reducible apply rd_s; focus omega) | (with_reducible apply rd_c; focus omega) | (with_reducible apply rd_k; focus omega) | with_reducible exact rd_e (by omega)); first | done | assumption | rfl) ?_
        first | with_reducible refine J_icmp_ge_n qX6_hash_60 (by omega) (by omega) (fun c3 => ?_) (fun c3 => ?_) | refine J_icmp_ge qX6_hash_60 (fun c3 => ?_) (fun c3 => ?_)
        · have em : m = l.length := by omega
          subst em
          rw [eH, okB_let]
          refine J_iload_n (i := 3) qX6_hash_111 rfl rfl ?_
          cases hl : letB l with
          | false =>
            first | refine J_if_eq qX6_hash_112 (fun _ => ?_) (fun c => absurd b2i_f0 c) | refine J_if_eq qX6_hash_112 (fun c => absurd c b2i_t0) (fun _ => ?_)
            rw [if_neg (by decide)]
            refine J_aload_n (i := 0) qX6_hash_124 rfl rfl ?_
            refine J_pushI qX6_hash_125 ?_
            refine J_vi1 qX6_hash_126 kX6_83 (by assumption) (m_found (d := d + 1) hM0 h (f := 3) (by omega)) (Nat.le_of_ble_eq_true rfl) (fun v1 ν hr => ?_)
            refine Ji_ret qX6_hash_129 ?_
            exact hr
          | true =>
            first | refine J_if_eq qX6_hash_112 (fun _ => ?_) (fun c => absurd b2i_f0 c) | refine J_if_eq qX6_hash_112 (fun c => absurd c b2i_t0) (fun _ => ?_)
            rw [if_pos rfl]
            refine J_aload_n (i := 0) qX6_hash_115 rfl rfl ?_
            refine J_iload_n (i := 2) qX6_hash_116 rfl rfl ?_
            refine J_pushI qX6_hash_117 ?_
            refine J_vi2 qX6_hash_118 kX6_91 (by assumption) (m_tells (d := d + 1) hM0 h _ (nI 1)) (Nat.le_of_ble_eq_true rfl) (fun v1 ν hr => ?_)
            refine J_goto qX6_hash_121 ?_
            refine Ji_ret qX6_hash_129 ?_
            exact hr
        · have h3 := ih c3
          rw [okB_succ, hashR_succ] at h3
          have e3 := hA.2.2 m c3
          have nxt : ∀ b : Bool, b = (okB l m && hasB 26 (l.getD m 0)) → J mX6_hash (d+2) (0, 0) s0 (Ki G (fun q μ' => q = (hashS s (nI j)).1 ∧ RelM μ' (hashS s (nI j)).2 ∧ FrM μ μ')) (0, 0) 88 [.ref 198, .int (nI j), .int (hashR l m), .int (b2i (okB l m)), .int (nI m)] [.int (b2i b)] (G, μ) := fun b eb => by
            subst eb
            refine J_ist3 qX6_hash_88 (Nat.le_of_ble_eq_true rfl) rfl ?_
            refine J_pushI qX6_hash_89 ?_
            refine J_iload_n (i := 2) qX6_hash_91 rfl rfl ?_
            refine J_imul qX6_hash_92 ?_
            refine J_pushI qX6_hash_93 ?_
            refine J_iadd qX6_hash_95 ?_
            refine J_aload_n (i := 0) qX6_hash_96 rfl rfl ?_
            refine J_iload_n (i := 1) qX6_hash_97 rfl rfl ?_
            refine J_iload (i := 4) qX6_hash_98 rfl ?_
            refine J_vi2 qX6_hash_100 kX6_87 (by assumption) (m_rowAt (d := d + 1) hM0 hj (i := m) (by omega)) (Nat.le_of_ble_eq_true rfl) (fun v1 μ' hr => ?_)
            rw [e3] at hr
            obtain ⟨rfl, rfl⟩ := hr
            refine J_iadd qX6_hash_103 ?_
            rw [Int32.add_assoc]
            refine J_ist2 qX6_hash_104 (Nat.le_of_ble_eq_true rfl) rfl ?_
            refine J_inc4 qX6_hash_105 (Nat.le_of_ble_eq_true rfl) (by first | with_reducible exact nI_inc _ | rfl) rfl ?_
            refine J_goto qX6_hash_108 ?_
            exact h3
          refine J_iload_n (i := 3) qX6_hash_63 rfl rfl ?_
          cases ho : okB l m with
          | false =>
            rw [ho] at nxt h3
            first | refine J_if_eq qX6_hash_64 (fun _ => ?_) (fun c => absurd b2i_f0 c) | refine J_if_eq qX6_hash_64 (fun c => absurd c b2i_t0) (fun _ => ?_)
            refine J_pushI qX6_hash_87 ?_
            exact nxt false rfl
          | true =>
            rw [ho] at nxt h3
            first | refine J_if_eq qX6_hash_64 (fun _ => ?_) (fun c => absurd b2i_f0 c) | refine J_if_eq qX6_hash_64 (fun c => absurd c b2i_t0) (fun _ => ?_)
            refine J_aload_n (i := 0) qX6_hash_67 rfl rfl ?_
            refine J_iload_n (i := 1) qX6_hash_68 rfl rfl ?_
            refine J_iload (i := 4) qX6_hash_69 rfl ?_
            refine J_vi2 qX6_hash_71 kX6_87 (by assumption) (m_rowAt (d := d + 1) hM0 hj (i := m) (by omega)) (Nat.le_of_ble_eq_true rfl) (fun v1 μ' hr => ?_)
            rw [e3] at hr
            obtain ⟨rfl, rfl⟩ := hr
            refine J_pushI qX6_hash_74 ?_
            refine J_pushI qX6_hash_75 ?_
            refine J_si3 qX6_hash_77 kX6_75 (m_in (d := d + 1) (l.getD m 0) (nI 0) (lv 26)) (Nat.le_of_ble_eq_true rfl) (fun v1 μ' hr => ?_)
            rw [inB_lv (by omega)] at hr
            obtain ⟨rfl, rfl⟩ := hr
            cases hq : hasB 26 (l.getD m 0) with
            | false =>
              rw [hq] at nxt
              first | refine J_if_eq qX6_hash_80 (fun _ => ?_) (fun c => absurd b2i_f0 c) | refine J_if_eq qX6_hash_80 (fun c => absurd c b2i_t0) (fun _ => ?_)
              refine J_pushI qX6_hash_87 ?_
              exact nxt false rfl
            | true =>
              rw [hq] at nxt
              first | refine J_if_eq qX6_hash_80 (fun _ => ?_) (fun c => absurd b2i_f0 c) | refine J_if_eq qX6_hash_80 (fun c => absurd c b2i_t0) (fun _ => ?_)
              refine J_pushI qX6_hash_83 ?_
              refine J_goto qX6_hash_84 ?_
              exact nxt true rfl
end MM
