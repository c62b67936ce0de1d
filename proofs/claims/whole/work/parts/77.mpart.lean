/-! THE MODEL: what the plan tells -/
def PlnM (μ : Mm) (cs : List Cs) : Prop := AtM μ (prtF cs true true) ∧ μ.1 198 26 = nI (prtF cs true true).length ∧ TbA μ cs
theorem prt_sort {cs : List Cs} (ho : OkC cs) (h12 : cs.length ≤ 12) {k : Nat} (hk : k < (prtF cs true true).length) : 1 ≤ psF cs true true k ∧ psF cs true true k ≤ 4 := by
  have h1 := prt_at h12 hk
  have h2 := cut_some ho h12 true true h1.1 h1.2.1 h1.2.2.1
  have h3 := sort_le cs true true (pg (prtF cs true true) k).1 (pg (prtF cs true true) k).2.1
  unfold psF
  omega
section MM
variable {G : Gm} {μ : Mm} {d : Nat} {s : St} {cs : List Cs}
theorem m_partSort (hM : LayM G) (hc : MC μ 206 0 cs) (ho : OkC cs) (hA : AtM μ (prtF cs true true)) {k : Nat} (hk : k < (prtF cs true true).length) : Si mX6_partSort (d+3) [.ref 198, .int (nI k)] G μ (fun r μ' => μ = μ' ∧ r = nI (psF cs true true k)) := by
  have hM0 := hM
  obtain ⟨mO, ⟨-, -, -, -, -, -, -, -, -, -, -, -, f24, f25, f27, f28, -⟩, ⟨-, -, -, -, -, -, -, -, -, -, -, -, b211, b212, b213, b214, -⟩⟩ := hM
  have h12 := hc.2.1
  have pl12 := prt_len (cs := cs) true true h12
  obtain ⟨a1, a2, a3⟩ := hA k hk
  have pa := prt_at h12 hk
  refine Si_of (ls := [.ref 198, .int (nI k)]) (by decide +kernel) (Nat.le_of_ble_eq_true rfl) rfl ?_
  refine J_aload_n (i := 0) qX6_partSort_0 rfl rfl ?_
  refine J_aload_n (i := 0) qX6_partSort_1 rfl rfl ?_
  refine J_getR qX6_partSort_2 fX6_53 (by assumption) (by assumption) ?_
  refine J_iload_n (i := 1) qX6_partSort_5 rfl rfl ?_
  refine J_ialde qX6_partSort_6 (by assumption) rfl (by omega) (by (repeat first | with_reducible exact wI_e _ _ _ _ | (with_reducible apply rd_s; focus omega) | (with_reducible apply rd_c; focus omega) | (with_reducible apply rd_k; focus omega) | with_reducible exact rd_e (by omega)); first | done | assumption | rfl) ?_
  refine J_aload_n (i := 0) qX6_partSort_7 rfl rfl ?_
  refine J_getR qX6_partSort_8 fX6_56 (by assumption) (by assumption) ?_
  refine J_iload_n (i := 1) qX6_partSort_11 rfl rfl ?_
  refine J_ialde qX6_partSort_12 (by assumption) rfl (by omega) (by (repeat first | with_reducible exact wI_e _ _ _ _ | (with_reducible apply rd_s; focus omega) | (with_reducible apply rd_c; focus omega) | (with_reducible apply rd_k; focus omega) | with_reducible exact rd_e (by omega)); first | done | assumption | rfl) ?_
  refine J_pushI qX6_partSort_13 ?_
  refine J_vi3 qX6_partSort_15 kX6_256 (by assumption) (m_sortOf (d := d) hM0 hc ho (i := (pg (prtF cs true true) k).1) (j := (pg (prtF cs true true) k).2.1) (al := 12) pa.1 pa.2.1 (by omega)) (Nat.le_of_ble_eq_true rfl) (fun v1 μ' hr => ?_)
  rw [show bitB 12 2 = true by decide, show bitB 12 3 = true by decide] at hr
  obtain ⟨rfl, rfl⟩ := hr
  refine Ji_ret qX6_partSort_18 ?_
  exact ⟨rfl, rfl⟩
theorem m_partSteps (hM : LayM G) (hc : MC μ 206 0 cs) (ho : OkC cs) (hA : AtM μ (prtF cs true true)) {k : Nat} (hk : k < (prtF cs true true).length) : Si mX6_partSteps (d+4) [.ref 198, .int (nI k)] G μ (fun r μ' => μ = μ' ∧ r = nI (ptF cs true true k)) := by
  have hM0 := hM
  obtain ⟨mO, ⟨-, -, -, -, -, -, -, -, -, -, -, -, f24, f25, f27, f28, -⟩, ⟨-, -, -, -, -, -, -, -, -, -, -, -, b211, b212, b213, b214, -⟩⟩ := hM
  have h12 := hc.2.1
  have pl12 := prt_len (cs := cs) true true h12
  obtain ⟨a1, a2, a3⟩ := hA k hk
  have pa := prt_at h12 hk
  have ps := prt_sort ho h12 hk
  refine Si_of (ls := [.ref 198, .int (nI k)]) (by decide +kernel) (Nat.le_of_ble_eq_true rfl) rfl ?_
  refine J_aload_n (i := 0) qX6_partSteps_0 rfl rfl ?_
  refine J_aload_n (i := 0) qX6_partSteps_1 rfl rfl ?_
  refine J_iload_n (i := 1) qX6_partSteps_2 rfl rfl ?_
  refine J_vi1 qX6_partSteps_3 kX6_280 (by assumption) (m_partSort (d := d) hM0 hc ho hA hk) (Nat.le_of_ble_eq_true rfl) (fun v1 μ' hr => ?_)
  obtain ⟨rfl, rfl⟩ := hr
  refine J_aload_n (i := 0) qX6_partSteps_6 rfl rfl ?_
  refine J_getR qX6_partSteps_7 fX6_53 (by assumption) (by assumption) ?_
  refine J_iload_n (i := 1) qX6_partSteps_10 rfl rfl ?_
  refine J_ialde qX6_partSteps_11 (by assumption) rfl (by omega) (by (repeat first | with_reducible exact wI_e _ _ _ _ | (with_reducible apply rd_s; focus omega) | (with_reducible apply rd_c; focus omega) | (with_reducible apply rd_k; focus omega) | with_reducible exact rd_e (by omega)); first | done | assumption | rfl) ?_
  refine J_aload_n (i := 0) qX6_partSteps_12 rfl rfl ?_
  refine J_getR qX6_partSteps_13 fX6_56 (by assumption) (by assumption) ?_
  refine J_iload_n (i := 1) qX6_partSteps_16 rfl rfl ?_
  refine J_ialde qX6_partSteps_17 (by assumption) rfl (by omega) (by (repeat first | with_reducible exact wI_e _ _ _ _ | (with_reducible apply rd_s; focus omega) | (with_reducible apply rd_c; focus omega) | (with_reducible apply rd_k; focus omega) | with_reducible exact rd_e (by omega)); first | done | assumption | rfl) ?_
  refine J_vi3 qX6_partSteps_18 kX6_261 (by assumption) (m_stepsBy (d := d + 1) hM0 hc ho (t := psF cs true true k) (i := (pg (prtF cs true true) k).1) (j := (pg (prtF cs true true) k).2.1) ps.1 ps.2 pa.1 pa.2.1) (Nat.le_of_ble_eq_true rfl) (fun v1 μ' hr => ?_)
  obtain ⟨rfl, rfl⟩ := hr
  refine Ji_ret qX6_partSteps_21 ?_
  exact ⟨rfl, rfl⟩
theorem m_isPart (hM : LayM G) (hc : MC μ 206 0 cs) (ho : OkC cs) (k : Int32) : Si mX6_isPart (d+6) [.ref 198, .int k] G μ (fun r μ' => r = b2i (hasB (prtF cs true true).length k) ∧ PlnM μ' cs ∧ Fr μ μ' PlM) := by
  have hM0 := hM
  have mO := hM.1
  have h12 := hc.2.1
  have pl12 := prt_len (cs := cs) true true h12
  refine Si_of (ls := [.ref 198, .int k]) (by decide +kernel) (Nat.le_of_ble_eq_true rfl) rfl ?_
  refine J_aload_n (i := 0) qX6_isPart_0 rfl rfl ?_
  refine J_vi0 qX6_isPart_1 kX6_283 (by assumption) (m_layPlan (d := d) hM0 hc ho) (Nat.le_of_ble_eq_true rfl) (fun v1 ν hr => ?_)
  obtain ⟨rfl, hA, h26, hT, hF⟩ := hr
  refine J_pop qX6_isPart_4 rfl ?_
  refine J_iload_n (i := 1) qX6_isPart_5 rfl rfl ?_
  refine J_pushI qX6_isPart_6 ?_
  refine J_aload_n (i := 0) qX6_isPart_7 rfl rfl ?_
  refine J_getIe qX6_isPart_8 fX6_274 (by assumption) (by (repeat first | with_reducible exact wI_e _ _ _ _ | (with_reducible apply rd_s; focus omega) | (with_reducible apply rd_c; focus omega) | (with_reducible apply rd_k; focus omega) | with_reducible exact rd_e (by omega)); first | done | assumption | rfl) ?_
  refine J_pushI qX6_isPart_11 ?_
  refine J_isub qX6_isPart_12 ?_
  rw [subl]
  refine J_si3 qX6_isPart_13 kX6_75 (m_in (d := d + 5) k (nI 0) (lv (prtF cs true true).length)) (Nat.le_of_ble_eq_true rfl) (fun v1 μ' hr => ?_)
  rw [inB_lv (by omega)] at hr
  obtain ⟨rfl, rfl⟩ := hr
  refine Jz_ret qX6_isPart_16 (b2i_01 _) ?_
  exact ⟨rfl, ⟨hA, h26, hT⟩, hF⟩
theorem m_partTells (hM : LayM G) (hc : MC μ 206 0 cs) (ho : OkC cs) (hA : AtM μ (prtF cs true true)) {k w : Nat} (hk : k < (prtF cs true true).length) (hw : w < 6) : Si mX6_partTells (d+5) [.ref 198, .int (nI k), .int (nI w)] G μ (fun r μ' => μ = μ' ∧ r = vpF cs true true k w) := by
  have hM0 := hM
  obtain ⟨mO, ⟨-, -, -, -, -, -, -, -, -, -, -, -, f24, f25, f27, f28, f29, -⟩, ⟨-, -, -, -, -, -, -, -, -, -, -, -, b211, b212, b213, b214, b215, -⟩⟩ := hM
  have h12 := hc.2.1
  have pl12 := prt_len (cs := cs) true true h12
  obtain ⟨a1, a2, a3⟩ := hA k hk
  have pa := prt_at h12 hk
  refine Si_of (ls := [.ref 198, .int (nI k), .int (nI w), .null, .null]) (by decide +kernel) (Nat.le_of_ble_eq_true rfl) rfl ?_
  refine J_aload_n (i := 0) qX6_partTells_0 rfl rfl ?_
  refine J_aload_n (i := 0) qX6_partTells_1 rfl rfl ?_
  refine J_getR qX6_partTells_2 fX6_53 (by assumption) (by assumption) ?_
  refine J_iload_n (i := 1) qX6_partTells_5 rfl rfl ?_
  refine J_ialde qX6_partTells_6 (by assumption) rfl (by omega) (by (repeat first | with_reducible exact wI_e _ _ _ _ | (with_reducible apply rd_s; focus omega) | (with_reducible apply rd_c; focus omega) | (with_reducible apply rd_k; focus omega) | with_reducible exact rd_e (by omega)); first | done | assumption | rfl) ?_
  refine J_aload_n (i := 0) qX6_partTells_7 rfl rfl ?_
  refine J_getR qX6_partTells_8 fX6_56 (by assumption) (by assumption) ?_
  refine J_iload_n (i := 1) qX6_partTells_11 rfl rfl ?_
  refine J_ialde qX6_partTells_12 (by assumption) rfl (by omega) (by (repeat first | with_reducible exact wI_e _ _ _ _ | (with_reducible apply rd_s; focus omega) | (with_reducible apply rd_c; focus omega) | (with_reducible apply rd_k; focus omega) | with_reducible exact rd_e (by omega)); first | done | assumption | rfl) ?_
  refine J_vl2 qX6_partTells_13 kX6_234 (by assumption) (m_spanOf (d := d + 4) hM0 hc (i := (pg (prtF cs true true) k).1) (j := (pg (prtF cs true true) k).2.1) (by omega) pa.2.1) (Nat.le_of_ble_eq_true rfl) (fun v1 μ' hr => ?_)
  obtain ⟨rfl, rfl⟩ := hr
  refine J_lst3 qX6_partTells_16 (Nat.le_of_ble_eq_true rfl) rfl ?_
  refine J_iload_n (i := 2) qX6_partTells_17 rfl rfl ?_
  match w, hw with
  | 0, _ =>
    refine J_tabIn (tgt := 52) qX6_partTells_18 (by decide) (by decide) rfl (by decide) ?_
    refine J_aload_n (i := 0) qX6_partTells_52 rfl rfl ?_
    refine J_iload_n (i := 1) qX6_partTells_53 rfl rfl ?_
    refine J_vi1 qX6_partTells_54 kX6_280 (by assumption) (m_partSort (d := d + 1) hM0 hc ho hA hk) (Nat.le_of_ble_eq_true rfl) (fun v1 μ' hr => ?_)
    obtain ⟨rfl, rfl⟩ := hr
    refine Ji_ret qX6_partTells_57 ?_
    exact ⟨rfl, rfl⟩
  | 1, _ =>
    refine J_tabIn (tgt := 58) qX6_partTells_18 (by decide) (by decide) rfl (by decide) ?_
    refine J_aload_n (i := 0) qX6_partTells_58 rfl rfl ?_
    refine J_getR qX6_partTells_59 fX6_53 (by assumption) (by assumption) ?_
    refine J_iload_n (i := 1) qX6_partTells_62 rfl rfl ?_
    refine J_ialde qX6_partTells_63 (by assumption) rfl (by omega) (by (repeat first | with_reducible exact wI_e _ _ _ _ | (with_reducible apply rd_s; focus omega) | (with_reducible apply rd_c; focus omega) | (with_reducible apply rd_k; focus omega) | with_reducible exact rd_e (by omega)); first | done | assumption | rfl) ?_
    refine Ji_ret qX6_partTells_64 ?_
    exact ⟨rfl, rfl⟩
  | 2, _ =>
    refine J_tabIn (tgt := 65) qX6_partTells_18 (by decide) (by decide) rfl (by decide) ?_
    refine J_aload_n (i := 0) qX6_partTells_65 rfl rfl ?_
    refine J_getR qX6_partTells_66 fX6_56 (by assumption) (by assumption) ?_
    refine J_iload_n (i := 1) qX6_partTells_69 rfl rfl ?_
    refine J_ialde qX6_partTells_70 (by assumption) rfl (by omega) (by (repeat first | with_reducible exact wI_e _ _ _ _ | (with_reducible apply rd_s; focus omega) | (with_reducible apply rd_c; focus omega) | (with_reducible apply rd_k; focus omega) | with_reducible exact rd_e (by omega)); first | done | assumption | rfl) ?_
    refine Ji_ret qX6_partTells_71 ?_
    exact ⟨rfl, rfl⟩
  | 3, _ =>
    refine J_tabIn (tgt := 72) qX6_partTells_18 (by decide) (by decide) rfl (by decide) ?_
    refine J_aload_n (i := 0) qX6_partTells_72 rfl rfl ?_
    refine J_getR qX6_partTells_73 fX6_59 (by assumption) (by assumption) ?_
    refine J_iload_n (i := 1) qX6_partTells_76 rfl rfl ?_
    refine J_ialde qX6_partTells_77 (by assumption) rfl (by omega) (by (repeat first | with_reducible exact wI_e _ _ _ _ | (with_reducible apply rd_s; focus omega) | (with_reducible apply rd_c; focus omega) | (with_reducible apply rd_k; focus omega) | with_reducible exact rd_e (by omega)); first | done | assumption | rfl) ?_
    refine Ji_ret qX6_partTells_78 ?_
    exact ⟨rfl, rfl⟩
  | 4, _ =>
    refine J_tabIn (tgt := 79) qX6_partTells_18 (by decide) (by decide) rfl (by decide) ?_
    refine J_aload_n (i := 0) qX6_partTells_79 rfl rfl ?_
    refine J_iload_n (i := 1) qX6_partTells_80 rfl rfl ?_
    refine J_vi1 qX6_partTells_81 kX6_287 (by assumption) (m_partSteps (d := d) hM0 hc ho hA hk) (Nat.le_of_ble_eq_true rfl) (fun v1 μ' hr => ?_)
    obtain ⟨rfl, rfl⟩ := hr
    refine Ji_ret qX6_partTells_84 ?_
    exact ⟨rfl, rfl⟩
  | 5, _ =>
    refine J_tabOut (tgt := 85) qX6_partTells_18 (by decide) (by decide) ?_
    refine J_lload_n (i := 3) qX6_partTells_85 rfl rfl ?_
    refine J_pushL qX6_partTells_86 ?_
    refine J_lif_le qX6_partTells_89 qX6_partTells_90 (fun c => ?_) (fun c => ?_)
    · refine J_lload_n (i := 3) qX6_partTells_97 rfl rfl ?_
      refine J_l2i qX6_partTells_98 ?_
      refine Ji_ret qX6_partTells_99 ?_
      refine ⟨rfl, ?_⟩
      show _ = bigF _
      unfold bigF
      rw [if_neg (fun z => absurd c (Int64.not_le.mpr z))]
    · refine J_pushI qX6_partTells_93 ?_
      refine J_goto qX6_partTells_94 ?_
      refine Ji_ret qX6_partTells_99 ?_
      refine ⟨rfl, ?_⟩
      show _ = bigF _
      unfold bigF
      rw [if_pos (Int64.not_le.mp c)]
theorem m_part (hM : LayM G) (h : RelM μ s) (k w : Int32) : Si mX6_part (d+7) [.ref 198, .int k, .int w] G μ (fun q μ' => q = (partS s k w).1 ∧ RelM μ' (partS s k w).2 ∧ FrM μ μ') := by
  have hM0 := hM
  have mO := hM.1
  have hc := h.2.2.1.1
  have ho := h.2.2.1.2.2.2.1.1
  have h12 := hc.2.1
  have pl12 := prt_len (cs := (sP s).1) true true h12
  refine Si_of (ls := [.ref 198, .int k, .int w]) (by decide +kernel) (Nat.le_of_ble_eq_true rfl) rfl ?_
  refine J_aload_n (i := 0) qX6_part_0 rfl rfl ?_
  refine J_iload_n (i := 1) qX6_part_1 rfl rfl ?_
  refine J_vi1 qX6_part_2 kX6_290 (by assumption) (m_isPart (d := d) hM0 hc ho k) (Nat.le_of_ble_eq_true rfl) (fun v1 ν hr => ?_)
  obtain ⟨rfl, ⟨hA, h26, hT⟩, hF⟩ := hr
  obtain ⟨h', hF'⟩ := h.free hF.pl
  have bad : (hasB (PL s).length k && hasB 6 w) = false → J mX6_part (d+7) (0, 0) s0 (Ki G (fun q μ' => q = (partS s k w).1 ∧ RelM μ' (partS s k w).2 ∧ FrM μ μ')) (0, 0) 31 [.ref 198, .int k, .int w] [] (G, ν) := fun hz => by
    rw [show partS s k w = (-1, s) from if_neg (by rw [hz]; decide)]
    refine J_pushI qX6_part_31 ?_
    refine Ji_ret qX6_part_32 ?_
    exact ⟨rfl, h', hF'⟩
  cases hb : hasB (prtF (sP s).1 true true).length k with
  | false =>
    first | refine J_if_eq qX6_part_5 (fun _ => ?_) (fun c => absurd b2i_f0 c) | refine J_if_eq qX6_part_5 (fun c => absurd c b2i_t0) (fun _ => ?_)
    exact bad (by rw [hb]; rfl)
  | true =>
    first | refine J_if_eq qX6_part_5 (fun _ => ?_) (fun c => absurd b2i_f0 c) | refine J_if_eq qX6_part_5 (fun c => absurd c b2i_t0) (fun _ => ?_)
    refine J_iload_n (i := 2) qX6_part_8 rfl rfl ?_
    refine J_pushI qX6_part_9 ?_
    refine J_pushI qX6_part_10 ?_
    refine J_si3 qX6_part_11 kX6_75 (m_in (d := d + 6) w (nI 0) (lv 6)) (Nat.le_of_ble_eq_true rfl) (fun v1 μ' hr => ?_)
    rw [inB_lv (by omega)] at hr
    obtain ⟨rfl, rfl⟩ := hr
    cases hb2 : hasB 6 w with
    | false =>
      first | refine J_if_eq qX6_part_14 (fun _ => ?_) (fun c => absurd b2i_f0 c) | refine J_if_eq qX6_part_14 (fun c => absurd c b2i_t0) (fun _ => ?_)
      exact bad (by rw [hb2, Bool.and_false])
    | true =>
      first | refine J_if_eq qX6_part_14 (fun _ => ?_) (fun c => absurd b2i_f0 c) | refine J_if_eq qX6_part_14 (fun c => absurd c b2i_t0) (fun _ => ?_)
      rw [show partS s k w = (nI 1, uAsk s (vpF (sP s).1 true true (ix k) (ix w))) from if_pos (by rw [hb, hb2]; rfl)]
      obtain ⟨kk, hk, rfl⟩ := hasB_of (by omega) hb
      obtain ⟨e, he, rfl⟩ := hasB_of (by omega) hb2
      rw [ix_n (by omega), ix_n (by omega)]
      refine J_aload_n (i := 0) qX6_part_17 rfl rfl ?_
      refine J_aload_n (i := 0) qX6_part_18 rfl rfl ?_
      refine J_iload_n (i := 1) qX6_part_19 rfl rfl ?_
      refine J_iload_n (i := 2) qX6_part_20 rfl rfl ?_
      refine J_vi2 qX6_part_21 kX6_293 (by assumption) (m_partTells (d := d + 1) hM0 (hc.fr hF) ho hA hk he) (Nat.le_of_ble_eq_true rfl) (fun v1 μ' hr => ?_)
      obtain ⟨rfl, rfl⟩ := hr
      refine J_pushI qX6_part_24 ?_
      refine J_vi2 qX6_part_25 kX6_91 (by assumption) (m_tells (d := d + 6) hM0 h' _ (nI 1)) (Nat.le_of_ble_eq_true rfl) (fun v1 ν1 hr => ?_)
      obtain ⟨rfl, g1, g2⟩ := hr
      refine J_goto qX6_part_28 ?_
      refine Ji_ret qX6_part_32 ?_
      exact ⟨rfl, g1, hF'.tr g2⟩
theorem m_cost (hM : LayM G) (h : RelM μ s) : Si mX6_cost (d+6) [.ref 198] G μ (fun q μ' => q = (costS s).1 ∧ RelM μ' (costS s).2 ∧ FrM μ μ') := by
  have mO := hM.1
  refine Si_of (ls := [.ref 198]) (by decide +kernel) (Nat.le_of_ble_eq_true rfl) rfl ?_
  refine J_aload_n (i := 0) qX6_cost_0 rfl rfl ?_
  refine J_vi0 qX6_cost_1 kX6_283 (by assumption) (m_layPlan (d := d) hM h.2.2.1.1 h.2.2.1.2.2.2.1.1) (Nat.le_of_ble_eq_true rfl) (fun v1 ν hr => ?_)
  obtain ⟨rfl, hA, h26, hT, hF⟩ := hr
  refine Ji_ret qX6_cost_4 ?_
  exact ⟨rfl, h.free hF.pl⟩
theorem only_b : ∀ w, 1 ≤ w → w ≤ 3 → bitB (2 ^ w) 2 = decide (w = 2) ∧ bitB (2 ^ w) 3 = decide (w = 3) := by
  intro w h1 h3
  match w, h1, h3 with
  | 1, _, _ => decide
  | 2, _, _ => decide
  | 3, _, _ => decide
theorem m_only (hM : LayM G) (h : RelM μ s) (w : Int32) : Si mX6_only (d+5) [.ref 198, .int w] G μ (fun q μ' => q = (onlyS s w).1 ∧ RelM μ' (onlyS s w).2 ∧ FrM μ μ') := by
  have mO := hM.1
  refine Si_of (ls := [.ref 198, .int w]) (by decide +kernel) (Nat.le_of_ble_eq_true rfl) rfl ?_
  refine J_iload_n (i := 1) qX6_only_0 rfl rfl ?_
  refine J_pushI qX6_only_1 ?_
  refine J_pushI qX6_only_2 ?_
  refine J_si3 qX6_only_3 kX6_75 (m_in (d := d + 4) w (nI 1) (nI 3)) (Nat.le_of_ble_eq_true rfl) (fun v1 μ' hr => ?_)
  obtain ⟨rfl, rfl⟩ := hr
  cases hb : inB w (nI 1) (nI 3) with
  | false =>
    first | refine J_if_eq qX6_only_6 (fun _ => ?_) (fun c => absurd b2i_f0 c) | refine J_if_eq qX6_only_6 (fun c => absurd c b2i_t0) (fun _ => ?_)
    have h1 := of_decide_eq_false hb
    have e : onlyS s w = (-1, s) := if_pos (by
      by_cases c : w < nI 1
      · exact Or.inl c
      · exact Or.inr (Int32.not_le.mp (fun q => h1 ⟨i32_nlt c, q⟩)))
    rw [e]
    refine J_pushI qX6_only_19 ?_
    refine Ji_ret qX6_only_20 ?_
    exact ⟨rfl, h, FrM.rf⟩
  | true =>
    first | refine J_if_eq qX6_only_6 (fun _ => ?_) (fun c => absurd b2i_f0 c) | refine J_if_eq qX6_only_6 (fun c => absurd c b2i_t0) (fun _ => ?_)
    have h1 := of_decide_eq_true hb
    have e : onlyS s w = (nI (priceF (sP s).1 (decide (w = nI 2)) (decide (w = nI 3))), s) := if_neg (fun z => z.elim (fun y => absurd h1.1 (Int32.not_le.mpr y)) (fun y => absurd h1.2 (Int32.not_le.mpr y)))
    rw [e]
    obtain ⟨m, hm1, hm3, rfl⟩ : ∃ m, 1 ≤ m ∧ m ≤ 3 ∧ w = nI m := by
      rw [Int32.le_iff_toInt_le, Int32.le_iff_toInt_le, nI_toInt (by omega), nI_toInt (by omega)] at h1
      exact ⟨w.toInt.toNat, by omega, by omega, i32_inj (by rw [nI_toInt (by omega)]; omega)⟩
    obtain ⟨b1, b2⟩ := only_b m hm1 hm3
    have d1 : decide (nI m = nI 2) = decide (m = 2) := decide_eq_decide.mpr (nI_eq (by omega) (by omega))
    have d2 : decide (nI m = nI 3) = decide (m = 3) := decide_eq_decide.mpr (nI_eq (by omega) (by omega))
    rw [d1, d2]
    refine J_aload_n (i := 0) qX6_only_9 rfl rfl ?_
    refine J_pushI qX6_only_10 ?_
    refine J_iload_n (i := 1) qX6_only_11 rfl rfl ?_
    refine J_ishl qX6_only_12 ?_
    rw [ni_shl1 m (by omega)]
    have p2 : 2 ^ m < 256 := by
      match m, hm1, hm3 with
      | 1, _, _ => decide
      | 2, _, _ => decide
      | 3, _, _ => decide
    refine J_vi1 qX6_only_13 kX6_271 (by assumption) (m_layCosts (d := d) hM h.2.2.1.1 h.2.2.1.2.2.2.1.1 p2 b1 b2) (Nat.le_of_ble_eq_true rfl) (fun v1 ν hr => ?_)
    obtain ⟨rfl, hT, hF⟩ := hr
    refine J_goto qX6_only_16 ?_
    refine Ji_ret qX6_only_20 ?_
    exact ⟨rfl, h.free (Fr.pl (hF.mono (fun c k z => Or.inl (by omega))))⟩
theorem m_markOf (hM : LayM G) (hc : MC μ 206 0 cs) (ho : OkC cs) (hA : AtM μ (prtF cs true true)) {k w : Nat} (hk : k < (prtF cs true true).length) (hw : 1 ≤ w) (hw4 : w ≤ 4) : Si mX6_markOf (d+2) [.ref 198, .int (nI k), .int (nI w)] G μ (fun q μ' => μ = μ' ∧ q = mkV cs (pg (prtF cs true true) k).1 (pg (prtF cs true true) k).2.1 w) := by
  have hM0 := hM
  obtain ⟨mO, ⟨-, -, -, -, -, -, -, f17, -, -, -, -, f24, f25, f27, f28, f29, -⟩, ⟨-, -, -, -, -, -, -, b206, -, -, -, -, b211, b212, b213, b214, b215, -⟩⟩ := hM
  have h12 := hc.2.1
  have pl12 := prt_len (cs := cs) true true h12
  obtain ⟨a1, a2, a3⟩ := hA k hk
  have pa := prt_at h12 hk
  have e1 := hc.lo (k := (pg (prtF cs true true) k).1) (by omega)
  have e3 := hc.am (k := (pg (prtF cs true true) k).1) (by omega)
  refine Si_of (ls := [.ref 198, .int (nI k), .int (nI w), .null, .null]) (by decide +kernel) (Nat.le_of_ble_eq_true rfl) rfl ?_
  refine J_aload_n (i := 0) qX6_markOf_0 rfl rfl ?_
  refine J_getR qX6_markOf_1 fX6_53 (by assumption) (by assumption) ?_
  refine J_iload_n (i := 1) qX6_markOf_4 rfl rfl ?_
  refine J_ialde qX6_markOf_5 (by assumption) rfl (by omega) (by (repeat first | with_reducible exact wI_e _ _ _ _ | (with_reducible apply rd_s; focus omega) | (with_reducible apply rd_c; focus omega) | (with_reducible apply rd_k; focus omega) | with_reducible exact rd_e (by omega)); first | done | assumption | rfl) ?_
  refine J_ist3 qX6_markOf_6 (Nat.le_of_ble_eq_true rfl) rfl ?_
  refine J_aload_n (i := 0) qX6_markOf_7 rfl rfl ?_
  refine J_getR qX6_markOf_8 fX6_56 (by assumption) (by assumption) ?_
  refine J_iload_n (i := 1) qX6_markOf_11 rfl rfl ?_
  refine J_ialde qX6_markOf_12 (by assumption) rfl (by omega) (by (repeat first | with_reducible exact wI_e _ _ _ _ | (with_reducible apply rd_s; focus omega) | (with_reducible apply rd_c; focus omega) | (with_reducible apply rd_k; focus omega) | with_reducible exact rd_e (by omega)); first | done | assumption | rfl) ?_
  refine J_ist4 qX6_markOf_13 (Nat.le_of_ble_eq_true rfl) rfl ?_
  refine J_iload_n (i := 2) qX6_markOf_15 rfl rfl ?_
  match w, hw, hw4 with
  | 1, _, _ =>
    refine J_tabIn (tgt := 44) qX6_markOf_16 (by decide) (by decide) rfl (by decide) ?_
    refine J_aload_n (i := 0) qX6_markOf_44 rfl rfl ?_
    refine J_getR qX6_markOf_45 fX6_32 (by assumption) (by assumption) ?_
    refine J_pushI qX6_markOf_48 ?_
    refine J_iload_n (i := 3) qX6_markOf_49 rfl rfl ?_
    first | with_reducible refine J_iadd_n qX6_markOf_50 ?_ | refine J_iadd qX6_markOf_50 ?_
    refine J_ialde qX6_markOf_51 (by assumption) rfl (by omega) (by (repeat first | with_reducible exact wI_e _ _ _ _ | (with_reducible apply rd_s; focus omega) | (with_reducible apply rd_c; focus omega) | (with_reducible apply rd_k; focus omega) | with_reducible exact rd_e (by omega)); first | done | assumption | rfl) ?_
    refine Ji_ret qX6_markOf_52 ?_
    exact ⟨rfl, rfl⟩
  | 2, _, _ =>
    refine J_tabIn (tgt := 53) qX6_markOf_16 (by decide) (by decide) rfl (by decide) ?_
    refine J_aload_n (i := 0) qX6_markOf_53 rfl rfl ?_
    refine J_iload_n (i := 3) qX6_markOf_54 rfl rfl ?_
    refine J_iload (i := 4) qX6_markOf_55 rfl ?_
    refine J_vl2 qX6_markOf_57 kX6_234 (by assumption) (m_spanOf (d := d + 1) hM0 hc (i := (pg (prtF cs true true) k).1) (j := (pg (prtF cs true true) k).2.1) (by omega) pa.2.1) (Nat.le_of_ble_eq_true rfl) (fun v1 μ' hr => ?_)
    obtain ⟨rfl, rfl⟩ := hr
    refine J_aload_n (i := 0) qX6_markOf_60 rfl rfl ?_
    refine J_iload_n (i := 3) qX6_markOf_61 rfl rfl ?_
    refine J_iload (i := 4) qX6_markOf_62 rfl ?_
    refine J_vl2 qX6_markOf_64 kX6_248 (by assumption) (m_coveredBy (d := d) hM0 hc pa.1 pa.2.1) (Nat.le_of_ble_eq_true rfl) (fun v1 μ' hr => ?_)
    obtain ⟨rfl, rfl⟩ := hr
    refine J_lsub qX6_markOf_67 ?_
    refine J_l2i qX6_markOf_68 ?_
    refine Ji_ret qX6_markOf_69 ?_
    exact ⟨rfl, rfl⟩
  | 3, _, _ =>
    refine J_tabIn (tgt := 70) qX6_markOf_16 (by decide) (by decide) rfl (by decide) ?_
    refine J_aload_n (i := 0) qX6_markOf_70 rfl rfl ?_
    refine J_iload_n (i := 3) qX6_markOf_71 rfl rfl ?_
    refine J_iload (i := 4) qX6_markOf_72 rfl ?_
    refine J_vi2 qX6_markOf_74 kX6_241 (by assumption) (m_aimsOf (d := d) hM0 hc ho pa.1 pa.2.1) (Nat.le_of_ble_eq_true rfl) (fun v1 μ' hr => ?_)
    obtain ⟨rfl, rfl⟩ := hr
    refine Ji_ret qX6_markOf_77 ?_
    exact ⟨rfl, rfl⟩
  | 4, _, _ =>
    refine J_tabOut (tgt := 78) qX6_markOf_16 (by decide) (by decide) ?_
    refine J_aload_n (i := 0) qX6_markOf_78 rfl rfl ?_
    refine J_getR qX6_markOf_79 fX6_32 (by assumption) (by assumption) ?_
    refine J_pushI qX6_markOf_82 ?_
    refine J_iload_n (i := 3) qX6_markOf_84 rfl rfl ?_
    first | with_reducible refine J_iadd_n qX6_markOf_85 ?_ | refine J_iadd qX6_markOf_85 ?_
    refine J_ialde qX6_markOf_86 (by assumption) rfl (by omega) (by (repeat first | with_reducible exact wI_e _ _ _ _ | (with_reducible apply rd_s; focus omega) | (with_reducible apply rd_c; focus omega) | (with_reducible apply rd_k; focus omega) | with_reducible exact rd_e (by omega)); first | done | assumption | rfl) ?_
    refine Ji_ret qX6_markOf_87 ?_
    exact ⟨rfl, rfl⟩
theorem m_mark (hM : LayM G) (h : RelM μ s) (k w : Int32) : Si mX6_mark (d+7) [.ref 198, .int k, .int w] G μ (fun q μ' => q = (markS s k w).1 ∧ RelM μ' (markS s k w).2 ∧ FrM μ μ') := by
  have hM0 := hM
  have mO := hM.1
  have hc := h.2.2.1.1
  have ho := h.2.2.1.2.2.2.1.1
  have h12 := hc.2.1
  have pl12 := prt_len (cs := (sP s).1) true true h12
  refine Si_of (ls := [.ref 198, .int k, .int w, .null]) (by decide +kernel) (Nat.le_of_ble_eq_true rfl) rfl ?_
  refine J_aload_n (i := 0) qX6_mark_0 rfl rfl ?_
  refine J_iload_n (i := 1) qX6_mark_1 rfl rfl ?_
  refine J_vi1 qX6_mark_2 kX6_290 (by assumption) (m_isPart (d := d) hM0 hc ho k) (Nat.le_of_ble_eq_true rfl) (fun v1 ν hr => ?_)
  obtain ⟨rfl, ⟨hA, h26, hT⟩, hF⟩ := hr
  obtain ⟨h', hF'⟩ := h.free hF.pl
  have hc' := hc.fr hF
  have bad : (hasB (PL s).length k = false ∨ w < nI 1 ∨ nI 4 < w) → J mX6_mark (d+7) (0, 0) s0 (Ki G (fun q μ' => q = (markS s k w).1 ∧ RelM μ' (markS s k w).2 ∧ FrM μ μ')) (0, 0) 17 [.ref 198, .int k, .int w, .null] [] (G, ν) := fun hz => by
    rw [show markS s k w = (-1, s) from if_pos hz]
    refine J_pushI qX6_mark_17 ?_
    refine Ji_ret qX6_mark_18 ?_
    exact ⟨rfl, h', hF'⟩
  cases hb : hasB (prtF (sP s).1 true true).length k with
  | false =>
    first | refine J_if_eq qX6_mark_5 (fun _ => ?_) (fun c => absurd b2i_f0 c) | refine J_if_eq qX6_mark_5 (fun c => absurd c b2i_t0) (fun _ => ?_)
    exact bad (Or.inl hb)
  | true =>
    first | refine J_if_eq qX6_mark_5 (fun _ => ?_) (fun c => absurd b2i_f0 c) | refine J_if_eq qX6_mark_5 (fun c => absurd c b2i_t0) (fun _ => ?_)
    refine J_iload_n (i := 2) qX6_mark_8 rfl rfl ?_
    refine J_pushI qX6_mark_9 ?_
    refine J_pushI qX6_mark_10 ?_
    refine J_si3 qX6_mark_11 kX6_75 (m_in (d := d + 6) w (nI 1) (nI 4)) (Nat.le_of_ble_eq_true rfl) (fun v1 μ' hr => ?_)
    obtain ⟨rfl, rfl⟩ := hr
    cases hb2 : inB w (nI 1) (nI 4) with
    | false =>
      first | refine J_if_ne qX6_mark_14 (fun c => absurd b2i_f0 c) (fun _ => ?_) | refine J_if_ne qX6_mark_14 (fun _ => ?_) (fun c => absurd c b2i_t0)
      have h1 := of_decide_eq_false hb2
      by_cases c : w < nI 1
      · exact bad (Or.inr (Or.inl c))
      · exact bad (Or.inr (Or.inr (Int32.not_le.mp (fun q => h1 ⟨i32_nlt c, q⟩))))
    | true =>
      first | refine J_if_ne qX6_mark_14 (fun c => absurd b2i_f0 c) (fun _ => ?_) | refine J_if_ne qX6_mark_14 (fun _ => ?_) (fun c => absurd c b2i_t0)
      have h1 := of_decide_eq_true hb2
      clear bad
      have e1 : markS s k w = if nI (psF (sP s).1 true true (ix k)) = w ∨ (psF (sP s).1 true true (ix k) = 4 ∧ w = nI 1) then (nI 1, uAsk s (mkV (sP s).1 (pg (PL s) (ix k)).1 (pg (PL s) (ix k)).2.1 (ix w))) else (-3, uFnd s 3) := if_neg (fun z => by
        rcases z with z | z | z
        · rw [hb] at z; cases z
        · exact absurd h1.1 (Int32.not_le.mpr z)
        · exact absurd h1.2 (Int32.not_le.mpr z))
      obtain ⟨kk, hk, rfl⟩ := hasB_of (by omega) hb
      obtain ⟨ww, hw1, hw4, rfl⟩ : ∃ ww, 1 ≤ ww ∧ ww ≤ 4 ∧ w = nI ww := by
        rw [Int32.le_iff_toInt_le, Int32.le_iff_toInt_le, nI_toInt (by omega), nI_toInt (by omega)] at h1
        exact ⟨w.toInt.toNat, by omega, by omega, i32_inj (by rw [nI_toInt (by omega)]; omega)⟩
      have ps := prt_sort ho h12 hk
      refine J_aload_n (i := 0) qX6_mark_19 rfl rfl ?_
      refine J_iload_n (i := 1) qX6_mark_20 rfl rfl ?_
      refine J_vi1 qX6_mark_21 kX6_280 (by assumption) (m_partSort (d := d + 3) hM0 hc' ho hA hk) (Nat.le_of_ble_eq_true rfl) (fun v1 μ' hr => ?_)
      obtain ⟨rfl, rfl⟩ := hr
      have good : (nI (psF (sP s).1 true true kk) = nI ww ∨ (psF (sP s).1 true true kk = 4 ∧ nI ww = nI 1)) → J mX6_mark (d+7) (0, 0) s0 (Ki G (fun q μ' => q = (markS s (nI kk) (nI ww)).1 ∧ RelM μ' (markS s (nI kk) (nI ww)).2 ∧ FrM μ μ')) (0, 0) 40 [.ref 198, .int (nI kk), .int (nI ww), .int (nI (psF (sP s).1 true true kk))] [] (G, ν) := fun hg => by
        rw [e1, ix_n (by omega), ix_n (by omega), if_pos hg]
        refine J_aload_n (i := 0) qX6_mark_40 rfl rfl ?_
        refine J_aload_n (i := 0) qX6_mark_41 rfl rfl ?_
        refine J_iload_n (i := 1) qX6_mark_42 rfl rfl ?_
        refine J_iload_n (i := 2) qX6_mark_43 rfl rfl ?_
        refine J_vi2 qX6_mark_44 kX6_296 (by assumption) (m_markOf (d := d + 4) hM0 hc' ho hA hk hw1 hw4) (Nat.le_of_ble_eq_true rfl) (fun v1 μ' hr => ?_)
        obtain ⟨rfl, rfl⟩ := hr
        refine J_pushI qX6_mark_47 ?_
        refine J_vi2 qX6_mark_48 kX6_91 (by assumption) (m_tells (d := d + 6) hM0 h' _ (nI 1)) (Nat.le_of_ble_eq_true rfl) (fun v1 ν1 hr => ?_)
        obtain ⟨rfl, g1, g2⟩ := hr
        refine J_goto qX6_mark_51 ?_
        refine Ji_ret qX6_mark_59 ?_
        exact ⟨rfl, g1, hF'.tr g2⟩
      have wrong : ¬ (nI (psF (sP s).1 true true kk) = nI ww ∨ (psF (sP s).1 true true kk = 4 ∧ nI ww = nI 1)) → J mX6_mark (d+7) (0, 0) s0 (Ki G (fun q μ' => q = (markS s (nI kk) (nI ww)).1 ∧ RelM μ' (markS s (nI kk) (nI ww)).2 ∧ FrM μ μ')) (0, 0) 54 [.ref 198, .int (nI kk), .int (nI ww), .int (nI (psF (sP s).1 true true kk))] [] (G, ν) := fun hg => by
        rw [e1, ix_n (by omega), ix_n (by omega), if_neg hg]
        refine J_aload_n (i := 0) qX6_mark_54 rfl rfl ?_
        refine J_pushI qX6_mark_55 ?_
        refine J_vi1 qX6_mark_56 kX6_83 (by assumption) (m_found (d := d + 6) hM0 h' (f := 3) (by omega)) (Nat.le_of_ble_eq_true rfl) (fun v1 ν1 hr => ?_)
        refine Ji_ret qX6_mark_59 ?_
        exact ⟨hr.1, hr.2.1, hF'.tr hr.2.2⟩
      refine J_ist3 qX6_mark_24 (Nat.le_of_ble_eq_true rfl) rfl ?_
      refine J_iload_n (i := 3) qX6_mark_25 rfl rfl ?_
      refine J_iload_n (i := 2) qX6_mark_26 rfl rfl ?_
      refine J_icmp_eq qX6_mark_27 (fun c3 => good (Or.inl c3)) (fun c3 => ?_)
      refine J_iload_n (i := 3) qX6_mark_30 rfl rfl ?_
      refine J_pushI qX6_mark_31 ?_
      refine J_icmp_ne qX6_mark_32 (fun c4 => wrong (fun z => z.elim c3 (fun y => c4 (by rw [y.1])))) (fun c4 => ?_)
      have c4' : psF (sP s).1 true true kk = 4 := (nI_eq (by omega) (by omega)).mp c4
      refine J_iload_n (i := 2) qX6_mark_35 rfl rfl ?_
      refine J_pushI qX6_mark_36 ?_
      refine J_icmp_ne qX6_mark_37 (fun c5 => wrong (fun z => z.elim c3 (fun y => c5 y.2))) (fun c5 => good (Or.inr ⟨c4', c5⟩))
theorem jin_ok {cs : List Cs} {i j : Nat} (h1 : 1 ≤ (spanF cs i j).toInt) (h2 : (spanF cs i j).toInt ≤ 64) (x : Int32) : inB x (nI 0) ((spanF cs i j).toInt32 - nI 1) = decide (¬ (x < 0 ∨ spanF cs i j ≤ x.toInt64)) := by
  have e : (spanF cs i j).toInt32 = nI (spanF cs i j).toInt.toNat := l2i_n rfl (by omega) (by omega)
  rw [e, subl, inB_lv (by omega)]
  unfold hasB
  apply decide_eq_decide.mpr
  rw [Int32.lt_iff_toInt_lt, nI_toInt (by omega), Int64.le_iff_toInt_le, Int32.toInt_toInt64, i32_lt0, i32_0le]
  omega
theorem m_jump (hM : LayM G) (h : RelM μ s) (k i : Int32) : Si mX6_jump (d+7) [.ref 198, .int k, .int i] G μ (fun q μ' => q = (jumpS s k i).1 ∧ RelM μ' (jumpS s k i).2 ∧ FrM μ μ') := by
  have hM0 := hM
  obtain ⟨mO, ⟨-, -, -, -, -, -, -, f17, -, -, -, -, f24, f25, f27, f28, f29, -⟩, ⟨-, -, -, -, -, -, -, b206, -, -, -, -, b211, b212, b213, b214, b215, -⟩⟩ := hM
  have hc := h.2.2.1.1
  have ho := h.2.2.1.2.2.2.1.1
  have h12 := hc.2.1
  have pl12 := prt_len (cs := (sP s).1) true true h12
  refine Si_of (ls := [.ref 198, .int k, .int i, .null]) (by decide +kernel) (Nat.le_of_ble_eq_true rfl) rfl ?_
  refine J_aload_n (i := 0) qX6_jump_0 rfl rfl ?_
  refine J_iload_n (i := 1) qX6_jump_1 rfl rfl ?_
  refine J_vi1 qX6_jump_2 kX6_290 (by assumption) (m_isPart (d := d) hM0 hc ho k) (Nat.le_of_ble_eq_true rfl) (fun v1 ν hr => ?_)
  obtain ⟨rfl, ⟨hA, h26, hT⟩, hF⟩ := hr
  obtain ⟨h', hF'⟩ := h.free hF.pl
  have hc' := hc.fr hF
  cases hb : hasB (prtF (sP s).1 true true).length k with
  | false =>
    first | refine J_if_ne qX6_jump_5 (fun c => absurd b2i_f0 c) (fun _ => ?_) | refine J_if_ne qX6_jump_5 (fun _ => ?_) (fun c => absurd c b2i_t0)
    rw [show jumpS s k i = (-1, s) from if_pos hb]
    refine J_pushI qX6_jump_8 ?_
    refine Ji_ret qX6_jump_9 ?_
    exact ⟨rfl, h', hF'⟩
  | true =>
    first | refine J_if_ne qX6_jump_5 (fun c => absurd b2i_f0 c) (fun _ => ?_) | refine J_if_ne qX6_jump_5 (fun _ => ?_) (fun c => absurd c b2i_t0)
    have e1 : jumpS s k i = if ¬ psF (sP s).1 true true (ix k) = 2 then (-3, uFnd s 3) else if i < 0 ∨ spanF (sP s).1 (pg (PL s) (ix k)).1 (pg (PL s) (ix k)).2.1 ≤ i.toInt64 then (-3, uFnd s 2) else (nI 1, uAsk s (ownV (sP s).1 ((cg (sP s).1 (pg (PL s) (ix k)).1).1 + i) (nI 8))) := if_neg (by rw [hb]; decide)
    obtain ⟨kk, hk, rfl⟩ := hasB_of (by omega) hb
    rw [ix_n (by omega)] at e1
    have ps := prt_sort ho h12 hk
    have pa := prt_at h12 hk
    obtain ⟨a1, a2, a3⟩ := hA kk hk
    have e4 := hc'.lo (k := (pg (prtF (sP s).1 true true) kk).1) (by omega)
    refine J_aload_n (i := 0) qX6_jump_10 rfl rfl ?_
    refine J_iload_n (i := 1) qX6_jump_11 rfl rfl ?_
    refine J_vi1 qX6_jump_12 kX6_280 (by assumption) (m_partSort (d := d + 3) hM0 hc' ho hA hk) (Nat.le_of_ble_eq_true rfl) (fun v1 μ' hr => ?_)
    obtain ⟨rfl, rfl⟩ := hr
    refine J_pushI qX6_jump_15 ?_
    refine J_icmp_eq qX6_jump_16 (fun c1 => ?_) (fun c1 => ?_)
    · have c1' : psF (sP s).1 true true kk = 2 := (nI_eq (by omega) (by omega)).mp c1
      rw [if_neg (fun z => z c1')] at e1
      have s64 : (spanF (sP s).1 (pg (prtF (sP s).1 true true) kk).1 (pg (prtF (sP s).1 true true) kk).2.1).toInt ≤ 64 := span_64 c1'
      have sps : 1 ≤ (spanF (sP s).1 (pg (prtF (sP s).1 true true) kk).1 (pg (prtF (sP s).1 true true) kk).2.1).toInt := span_pos ho pa.1 pa.2.1
      refine J_iload_n (i := 2) qX6_jump_25 rfl rfl ?_
      refine J_pushI qX6_jump_26 ?_
      refine J_aload_n (i := 0) qX6_jump_27 rfl rfl ?_
      refine J_aload_n (i := 0) qX6_jump_28 rfl rfl ?_
      refine J_getR qX6_jump_29 fX6_53 (by assumption) (by assumption) ?_
      refine J_iload_n (i := 1) qX6_jump_32 rfl rfl ?_
      refine J_ialde qX6_jump_33 (by assumption) rfl (by omega) (by (repeat first | with_reducible exact wI_e _ _ _ _ | (with_reducible apply rd_s; focus omega) | (with_reducible apply rd_c; focus omega) | (with_reducible apply rd_k; focus omega) | with_reducible exact rd_e (by omega)); first | done | assumption | rfl) ?_
      refine J_aload_n (i := 0) qX6_jump_34 rfl rfl ?_
      refine J_getR qX6_jump_35 fX6_56 (by assumption) (by assumption) ?_
      refine J_iload_n (i := 1) qX6_jump_38 rfl rfl ?_
      refine J_ialde qX6_jump_39 (by assumption) rfl (by omega) (by (repeat first | with_reducible exact wI_e _ _ _ _ | (with_reducible apply rd_s; focus omega) | (with_reducible apply rd_c; focus omega) | (with_reducible apply rd_k; focus omega) | with_reducible exact rd_e (by omega)); first | done | assumption | rfl) ?_
      refine J_vl2 qX6_jump_40 kX6_234 (by assumption) (m_spanOf (d := d + 6) hM0 hc' (i := (pg (prtF (sP s).1 true true) kk).1) (j := (pg (prtF (sP s).1 true true) kk).2.1) (by omega) pa.2.1) (Nat.le_of_ble_eq_true rfl) (fun v1 μ' hr => ?_)
      obtain ⟨rfl, rfl⟩ := hr
      refine J_l2i qX6_jump_43 ?_
      refine J_pushI qX6_jump_44 ?_
      refine J_isub qX6_jump_45 ?_
      refine J_si3 qX6_jump_46 kX6_75 (m_in (d := d + 6) i (nI 0) _) (Nat.le_of_ble_eq_true rfl) (fun v1 μ' hr => ?_)
      rw [jin_ok sps s64] at hr
      obtain ⟨rfl, rfl⟩ := hr
      by_cases c2 : i < 0 ∨ spanF (sP s).1 (pg (prtF (sP s).1 true true) kk).1 (pg (prtF (sP s).1 true true) kk).2.1 ≤ i.toInt64
      · rw [show decide (¬ (i < 0 ∨ spanF (sP s).1 (pg (prtF (sP s).1 true true) kk).1 (pg (prtF (sP s).1 true true) kk).2.1 ≤ i.toInt64)) = false from decide_eq_false (fun z => z c2), e1, if_pos c2]
        first | refine J_if_ne qX6_jump_49 (fun c => absurd b2i_f0 c) (fun _ => ?_) | refine J_if_ne qX6_jump_49 (fun _ => ?_) (fun c => absurd c b2i_t0)
        refine J_aload_n (i := 0) qX6_jump_52 rfl rfl ?_
        refine J_pushI qX6_jump_53 ?_
        refine J_vi1 qX6_jump_54 kX6_83 (by assumption) (m_found (d := d + 6) hM0 h' (f := 2) (by omega)) (Nat.le_of_ble_eq_true rfl) (fun v1 ν1 hr => ?_)
        refine Ji_ret qX6_jump_57 ?_
        exact ⟨hr.1, hr.2.1, hF'.tr hr.2.2⟩
      · rw [show decide (¬ (i < 0 ∨ spanF (sP s).1 (pg (prtF (sP s).1 true true) kk).1 (pg (prtF (sP s).1 true true) kk).2.1 ≤ i.toInt64)) = true from decide_eq_true c2]
        rw [if_neg c2] at e1
        first | refine J_if_ne qX6_jump_49 (fun c => absurd b2i_f0 c) (fun _ => ?_) | refine J_if_ne qX6_jump_49 (fun _ => ?_) (fun c => absurd c b2i_t0)
        refine J_aload_n (i := 0) qX6_jump_58 rfl rfl ?_
        refine J_getR qX6_jump_59 fX6_32 (by assumption) (by assumption) ?_
        refine J_aload_n (i := 0) qX6_jump_62 rfl rfl ?_
        refine J_getR qX6_jump_63 fX6_32 (by assumption) (by assumption) ?_
        refine J_pushI qX6_jump_66 ?_
        refine J_aload_n (i := 0) qX6_jump_67 rfl rfl ?_
        refine J_getR qX6_jump_68 fX6_53 (by assumption) (by assumption) ?_
        refine J_iload_n (i := 1) qX6_jump_71 rfl rfl ?_
        refine J_ialde qX6_jump_72 (by assumption) rfl (by omega) (by (repeat first | with_reducible exact wI_e _ _ _ _ | (with_reducible apply rd_s; focus omega) | (with_reducible apply rd_c; focus omega) | (with_reducible apply rd_k; focus omega) | with_reducible exact rd_e (by omega)); first | done | assumption | rfl) ?_
        first | with_reducible refine J_iadd_n qX6_jump_73 ?_ | refine J_iadd qX6_jump_73 ?_
        refine J_ialde qX6_jump_74 (by assumption) rfl (by omega) (by (repeat first | with_reducible exact wI_e _ _ _ _ | (with_reducible apply rd_s; focus omega) | (with_reducible apply rd_c; focus omega) | (with_reducible apply rd_k; focus omega) | with_reducible exact rd_e (by omega)); first | done | assumption | rfl) ?_
        refine J_iload_n (i := 2) qX6_jump_75 rfl rfl ?_
        refine J_iadd qX6_jump_76 ?_
        refine J_si2 qX6_jump_77 kX6_159 (m_caseOf (d := d + 6) b206 hc' _) (Nat.le_of_ble_eq_true rfl) (fun v1 μ' hr => ?_)
        obtain ⟨rfl, rfl⟩ := hr
        have fin : ∀ v v2 : Int32, v = ownV (sP s).1 ((cg (sP s).1 (pg (PL s) kk).1).1 + i) (nI 8) → J mX6_jump (d+7) (0, 0) s0 (Ki G (fun q μ' => q = (jumpS s (nI kk) i).1 ∧ RelM μ' (jumpS s (nI kk) i).2 ∧ FrM μ μ')) (0, 0) 102 [.ref 198, .int (nI kk), .int i, .int v2] [.int v, .ref 198] (G, ν) := fun v v2 hz => by
          rw [e1, ← hz]
          refine J_pushI qX6_jump_102 ?_
          refine J_vi2 qX6_jump_103 kX6_91 (by assumption) (m_tells (d := d + 6) hM0 h' v (nI 1)) (Nat.le_of_ble_eq_true rfl) (fun v1 ν1 hr => ?_)
          obtain ⟨rfl, g1, g2⟩ := hr
          refine Ji_ret qX6_jump_106 ?_
          exact ⟨rfl, g1, hF'.tr g2⟩
        rcases own_is (sP s).1 ((cg (sP s).1 (pg (prtF (sP s).1 true true) kk).1).1 + i) with e | ⟨o, hoo, e⟩
        · rw [show ownM (sP s).1 ((cg (sP s).1 (pg (prtF (sP s).1 true true) kk).1).1 + i) = -9 from if_pos e]
          refine J_ist3 qX6_jump_80 (Nat.le_of_ble_eq_true rfl) rfl ?_
          refine J_aload_n (i := 0) qX6_jump_81 rfl rfl ?_
          refine J_iload_n (i := 3) qX6_jump_82 rfl rfl ?_
          refine J_pushI qX6_jump_83 ?_
          refine J_icmp_ne qX6_jump_85 (fun z => absurd rfl z) (fun _ => ?_)
          refine J_pushI qX6_jump_88 ?_
          refine J_goto qX6_jump_90 ?_
          exact fin _ _ (ownV_no e).symm
        · have e5 := hc'.am hoo
          rw [show ownM (sP s).1 ((cg (sP s).1 (pg (prtF (sP s).1 true true) kk).1).1 + i) = nI o by unfold ownM; rw [e, if_neg (nI_m1 (by omega))]]
          refine J_ist3 qX6_jump_80 (Nat.le_of_ble_eq_true rfl) rfl ?_
          refine J_aload_n (i := 0) qX6_jump_81 rfl rfl ?_
          refine J_iload_n (i := 3) qX6_jump_82 rfl rfl ?_
          refine J_pushI qX6_jump_83 ?_
          refine J_icmp_ne qX6_jump_85 (fun _ => ?_) (fun z => absurd z (nI_m9 (by omega)))
          refine J_aload_n (i := 0) qX6_jump_93 rfl rfl ?_
          refine J_getR qX6_jump_94 fX6_32 (by assumption) (by assumption) ?_
          refine J_pushI qX6_jump_97 ?_
          refine J_iload_n (i := 3) qX6_jump_99 rfl rfl ?_
          first | with_reducible refine J_iadd_n qX6_jump_100 ?_ | refine J_iadd qX6_jump_100 ?_
          refine J_ialde qX6_jump_101 (by assumption) rfl (by omega) (by (repeat first | with_reducible exact wI_e _ _ _ _ | (with_reducible apply rd_s; focus omega) | (with_reducible apply rd_c; focus omega) | (with_reducible apply rd_k; focus omega) | with_reducible exact rd_e (by omega)); first | done | assumption | rfl) ?_
          exact fin _ _ (ownV_so e (by omega)).symm
    · rw [e1, if_pos (fun z => c1 (by rw [z]))]
      refine J_aload_n (i := 0) qX6_jump_19 rfl rfl ?_
      refine J_pushI qX6_jump_20 ?_
      refine J_vi1 qX6_jump_21 kX6_83 (by assumption) (m_found (d := d + 6) hM0 h' (f := 3) (by omega)) (Nat.le_of_ble_eq_true rfl) (fun v1 ν1 hr => ?_)
      refine Ji_ret qX6_jump_24 ?_
      exact ⟨hr.1, hr.2.1, hF'.tr hr.2.2⟩
def chU (cs : List Cs) (rest : Nat) : Nat → Nat
  | 0 => 0
  | k + 1 => chU cs rest k + loneF cs k * (wgF cs k (cs.length - k) + rest)
theorem chU_succ (cs : List Cs) (rest k : Nat) : chU cs rest (k + 1) = chU cs rest k + loneF cs k * (wgF cs k (cs.length - k) + rest) := rfl
theorem chU_is (cs : List Cs) (rest : Nat) : ∀ k, k ≤ cs.length → chU cs rest k + chn cs rest (cs.length - k) = chn cs rest cs.length
  | 0, _ => by rw [Nat.sub_zero]; exact Nat.zero_add _
  | k + 1, hk => by
    have h1 := chU_is cs rest k (by omega)
    obtain ⟨m, hm⟩ : ∃ m, cs.length - k = m + 1 := ⟨cs.length - k - 1, by omega⟩
    rw [hm, chn_succ, show cs.length - 1 - m = k by omega] at h1
    rw [chU_succ, show cs.length - (k + 1) = m by omega, hm, Nat.add_comm (wgF cs k (m + 1)) rest]
    omega
theorem m_chain (hM : LayM G) (h : RelM μ s) : Si mX6_chain (d+1) [.ref 198] G μ (fun q μ' => q = (chainS s).1 ∧ RelM μ' (chainS s).2 ∧ FrM μ μ') := by
  have hM0 := hM
  obtain ⟨mO, ⟨-, -, -, -, -, -, -, f17, -⟩, ⟨-, -, -, -, -, -, -, b206, -⟩⟩ := hM
  have hc := h.2.2.1.1
  have h12 := hc.2.1
  have e0 := hc.n0
  have er := h.2.2.1.2.2.2.2.1
  refine Si_of (ls := [.ref 198, .null, .null, .null]) (by decide +kernel) (Nat.le_of_ble_eq_true rfl) rfl ?_
  refine J_pushI qX6_chain_0 ?_
  refine J_ist1 qX6_chain_1 (Nat.le_of_ble_eq_true rfl) rfl ?_
  refine J_aload_n (i := 0) qX6_chain_2 rfl rfl ?_
  refine J_getR qX6_chain_3 fX6_32 (by assumption) (by assumption) ?_
  refine J_pushI qX6_chain_6 ?_
  refine J_ialde qX6_chain_7 (by assumption) rfl (by omega) (by (repeat first | with_reducible exact wI_e _ _ _ _ | (with_reducible apply rd_s; focus omega) | (with_reducible apply rd_c; focus omega) | (with_reducible apply rd_k; focus omega) | with_reducible exact rd_e (by omega)); first | done | assumption | rfl) ?_
  refine J_ist2 qX6_chain_8 (Nat.le_of_ble_eq_true rfl) rfl ?_
  refine J_pushI qX6_chain_9 ?_
  refine J_ist3 qX6_chain_10 (Nat.le_of_ble_eq_true rfl) rfl ?_
  have H : ∀ k, k ≤ (sP s).1.length → J mX6_chain (d+1) (0, 0) s0 (Ki G (fun q μ' => q = (chainS s).1 ∧ RelM μ' (chainS s).2 ∧ FrM μ μ')) (0, 0) 11 [.ref 198, .int (nI (chU (sP s).1 (sR s) k)), .int (nI (sP s).1.length), .int (nI k)] [] (G, μ) := by
    refine ind_up (fun k hk ih => ?_)
    refine J_iload_n (i := 3) qX6_chain_11 rfl rfl ?_
    refine J_iload_n (i := 2) qX6_chain_12 rfl rfl ?_
    first | with_reducible refine J_icmp_ge_n qX6_chain_13 (by omega) (by omega) (fun c1 => ?_) (fun c1 => ?_) | refine J_icmp_ge qX6_chain_13 (fun c1 => ?_) (fun c1 => ?_)
    · refine J_iload_n (i := 1) qX6_chain_55 rfl rfl ?_
      refine Ji_ret qX6_chain_56 ?_
      have h1 := chU_is (sP s).1 (sR s) (sP s).1.length (Nat.le_refl _)
      rw [Nat.sub_self] at h1
      have h2 : chU (sP s).1 (sR s) (sP s).1.length = chn (sP s).1 (sR s) (sP s).1.length := h1
      rw [show k = (sP s).1.length by omega, h2]
      exact ⟨rfl, h, FrM.rf⟩
    · have h3 := ih c1
      rw [chU_succ] at h3
      have fin : ∀ v : Nat, v = loneF (sP s).1 k → J mX6_chain (d+1) (0, 0) s0 (Ki G (fun q μ' => q = (chainS s).1 ∧ RelM μ' (chainS s).2 ∧ FrM μ μ')) (0, 0) 33 [.ref 198, .int (nI (chU (sP s).1 (sR s) k)), .int (nI (sP s).1.length), .int (nI k)] [.int (nI v), .int (nI (chU (sP s).1 (sR s) k))] (G, μ) := fun v ev => by
        rw [← ev] at h3
        refine J_aload_n (i := 0) qX6_chain_33 rfl rfl ?_
        refine J_iload_n (i := 3) qX6_chain_34 rfl rfl ?_
        refine J_iload_n (i := 2) qX6_chain_35 rfl rfl ?_
        refine J_pushI qX6_chain_36 ?_
        first | with_reducible refine J_isub_n qX6_chain_37 (by omega) ?_ | refine J_isub qX6_chain_37 ?_
        refine J_vi2 qX6_chain_38 kX6_253 (by assumption) (m_weightOf (d := d) hM0 hc (i := k) (m := (sP s).1.length - k) (by omega) (fun x hx => by rw [nI_ltI (by omega) (by omega)]; omega)) (Nat.le_of_ble_eq_true rfl) (fun v1 μ' hr => ?_)
        obtain ⟨rfl, rfl⟩ := hr
        refine J_aload_n (i := 0) qX6_chain_41 rfl rfl ?_
        refine J_getIe qX6_chain_42 fX6_201 (by assumption) (by (repeat first | with_reducible exact wI_e _ _ _ _ | (with_reducible apply rd_s; focus omega) | (with_reducible apply rd_c; focus omega) | (with_reducible apply rd_k; focus omega) | with_reducible exact rd_e (by omega)); first | done | assumption | rfl) ?_
        first | with_reducible refine J_iadd_n qX6_chain_45 ?_ | refine J_iadd qX6_chain_45 ?_
        first | with_reducible refine J_imul_n qX6_chain_46 ?_ | refine J_imul qX6_chain_46 ?_
        first | with_reducible refine J_iadd_n qX6_chain_47 ?_ | refine J_iadd qX6_chain_47 ?_
        refine J_ist1 qX6_chain_48 (Nat.le_of_ble_eq_true rfl) rfl ?_
        refine J_inc3 qX6_chain_49 (Nat.le_of_ble_eq_true rfl) (by first | with_reducible exact nI_inc _ | rfl) rfl ?_
        refine J_goto qX6_chain_52 ?_
        exact h3
      refine J_iload_n (i := 1) qX6_chain_16 rfl rfl ?_
      refine J_aload_n (i := 0) qX6_chain_17 rfl rfl ?_
      refine J_iload_n (i := 3) qX6_chain_18 rfl rfl ?_
      refine J_iload_n (i := 3) qX6_chain_19 rfl rfl ?_
      refine J_vl2 qX6_chain_20 kX6_234 (by assumption) (m_spanOf (d := d) hM0 hc (i := k) (j := k) c1 c1) (Nat.le_of_ble_eq_true rfl) (fun v1 μ' hr => ?_)
      obtain ⟨rfl, rfl⟩ := hr
      refine J_pushL qX6_chain_23 ?_
      refine J_lif_ne qX6_chain_24 qX6_chain_25 (fun c2 => ?_) (fun c2 => ?_)
      · refine J_pushI qX6_chain_32 ?_
        exact fin 2 (if_neg (fun z => c2 ((span_1 (sP s).1 k).mpr z))).symm
      · refine J_pushI qX6_chain_28 ?_
        refine J_goto qX6_chain_29 ?_
        exact fin 1 (if_pos ((span_1 (sP s).1 k).mp c2)).symm
  exact H 0 (Nat.zero_le _)
theorem m_worst (hM : LayM G) (h : RelM μ s) : Si mX6_worst (d+6) [.ref 198] G μ (fun q μ' => q = (worstS s).1 ∧ RelM μ' (worstS s).2 ∧ FrM μ μ') := by
  have hM0 := hM
  obtain ⟨mO, ⟨-, -, -, -, -, -, -, f17, -, -, -, -, f24, f25, f27, f28, f29, -⟩, ⟨-, -, -, -, -, -, -, b206, -, -, -, -, b211, b212, b213, b214, b215, -⟩⟩ := hM
  have hc := h.2.2.1.1
  have ho := h.2.2.1.2.2.2.1.1
  have h12 := hc.2.1
  have e0 := hc.n0
  refine Si_of (ls := [.ref 198, .null, .null, .null, .null]) (by decide +kernel) (Nat.le_of_ble_eq_true rfl) rfl ?_
  refine J_aload_n (i := 0) qX6_worst_0 rfl rfl ?_
  refine J_getR qX6_worst_1 fX6_32 (by assumption) (by assumption) ?_
  refine J_pushI qX6_worst_4 ?_
  refine J_ialde qX6_worst_5 (by assumption) rfl (by omega) (by (repeat first | with_reducible exact wI_e _ _ _ _ | (with_reducible apply rd_s; focus omega) | (with_reducible apply rd_c; focus omega) | (with_reducible apply rd_k; focus omega) | with_reducible exact rd_e (by omega)); first | done | assumption | rfl) ?_
  refine J_if_ne_n qX6_worst_6 (by omega) (fun c0 => ?_) (fun c0 => ?_)
  · have eW : worstS s = (nI (pg (PL s) (wrF (sP s).1 ((PL s).length - 1))).1, uAsk s (nI (thF (sP s).1 (wrF (sP s).1 ((PL s).length - 1))))) := if_neg c0
    have pl12 := prt_len (cs := (sP s).1) true true h12
    have pl1 := (prt_seg (cs := (sP s).1) true true h12 (by omega)).1
    refine J_aload_n (i := 0) qX6_worst_12 rfl rfl ?_
    refine J_vi0 qX6_worst_13 kX6_283 (by assumption) (m_layPlan (d := d) hM0 hc ho) (Nat.le_of_ble_eq_true rfl) (fun v1 ν hr => ?_)
    obtain ⟨rfl, hA, h26, hT, hF⟩ := hr
    obtain ⟨h', hF'⟩ := h.free hF.pl
    have hc' := hc.fr hF
    refine J_pop qX6_worst_16 rfl ?_
    refine J_pushI qX6_worst_17 ?_
    refine J_ist1 qX6_worst_19 (Nat.le_of_ble_eq_true rfl) rfl ?_
    refine J_pushI qX6_worst_20 ?_
    refine J_ist2 qX6_worst_21 (Nat.le_of_ble_eq_true rfl) rfl ?_
    refine J_pushI qX6_worst_22 ?_
    refine J_ist3 qX6_worst_23 (Nat.le_of_ble_eq_true rfl) rfl ?_
    have step : ∀ k, k < (prtF (sP s).1 true true).length → ∀ (which most : Int32), (most < nI (thF (sP s).1 k) → J mX6_worst (d+6) (0, 0) s0 (Ki G (fun q μ' => q = (worstS s).1 ∧ RelM μ' (worstS s).2 ∧ FrM μ μ')) (0, 0) 24 [.ref 198, .int (nI (pg (prtF (sP s).1 true true) k).1), .int (nI (thF (sP s).1 k)), .int (nI (k + 1)), .int (nI (thF (sP s).1 k))] [] (G, ν)) → (¬ most < nI (thF (sP s).1 k) → J mX6_worst (d+6) (0, 0) s0 (Ki G (fun q μ' => q = (worstS s).1 ∧ RelM μ' (worstS s).2 ∧ FrM μ μ')) (0, 0) 24 [.ref 198, .int which, .int most, .int (nI (k + 1)), .int (nI (thF (sP s).1 k))] [] (G, ν)) → ∀ v4 : Value, J mX6_worst (d+6) (0, 0) s0 (Ki G (fun q μ' => q = (worstS s).1 ∧ RelM μ' (worstS s).2 ∧ FrM μ μ')) (0, 0) 24 [.ref 198, .int which, .int most, .int (nI k), v4] [] (G, ν) := fun k hk which most h1 h2 v4 => by
      obtain ⟨a1, a2, a3⟩ := hA k hk
      refine J_iload_n (i := 3) qX6_worst_24 rfl rfl ?_
      refine J_aload_n (i := 0) qX6_worst_25 rfl rfl ?_
      refine J_getIe qX6_worst_26 fX6_274 (by assumption) (by (repeat first | with_reducible exact wI_e _ _ _ _ | (with_reducible apply rd_s; focus omega) | (with_reducible apply rd_c; focus omega) | (with_reducible apply rd_k; focus omega) | with_reducible exact rd_e (by omega)); first | done | assumption | rfl) ?_
      refine J_icmp_ge_n qX6_worst_29 (by omega) (by omega) (fun z => absurd z (by omega)) (fun _ => ?_)
      refine J_aload_n (i := 0) qX6_worst_32 rfl rfl ?_
      refine J_getR qX6_worst_33 fX6_59 (by assumption) (by assumption) ?_
      refine J_iload_n (i := 3) qX6_worst_36 rfl rfl ?_
      refine J_ialde qX6_worst_37 (by assumption) rfl (by omega) (by (repeat first | with_reducible exact wI_e _ _ _ _ | (with_reducible apply rd_s; focus omega) | (with_reducible apply rd_c; focus omega) | (with_reducible apply rd_k; focus omega) | with_reducible exact rd_e (by omega)); first | done | assumption | rfl) ?_
      refine J_aload_n (i := 0) qX6_worst_38 rfl rfl ?_
      refine J_iload_n (i := 3) qX6_worst_39 rfl rfl ?_
      refine J_vi1 qX6_worst_40 kX6_287 (by assumption) (m_partSteps (d := d + 1) hM0 hc' ho hA hk) (Nat.le_of_ble_eq_true rfl) (fun v1 μ' hr => ?_)
      obtain ⟨rfl, rfl⟩ := hr
      first | with_reducible refine J_iadd_n qX6_worst_43 ?_ | refine J_iadd qX6_worst_43 ?_
      refine J_ist4 qX6_worst_44 (Nat.le_of_ble_eq_true rfl) rfl ?_
      rw [show (pg (prtF (sP s).1 true true) k).2.2 + ptF (sP s).1 true true k = thF (sP s).1 k from rfl]
      refine J_iload (i := 4) qX6_worst_46 rfl ?_
      refine J_iload_n (i := 2) qX6_worst_48 rfl rfl ?_
      refine J_icmp_le qX6_worst_49 (fun c => ?_) (fun c => ?_)
      · refine J_iload_n (i := 1) qX6_worst_61 rfl rfl ?_
        refine J_ist1 qX6_worst_62 (Nat.le_of_ble_eq_true rfl) rfl ?_
        refine J_iload (i := 4) qX6_worst_63 rfl ?_
        refine J_iload_n (i := 2) qX6_worst_65 rfl rfl ?_
        refine J_icmp_le qX6_worst_66 (fun _ => ?_) (fun z => absurd c z)
        refine J_iload_n (i := 2) qX6_worst_74 rfl rfl ?_
        refine J_ist2 qX6_worst_75 (Nat.le_of_ble_eq_true rfl) rfl ?_
        refine J_inc3 qX6_worst_76 (Nat.le_of_ble_eq_true rfl) (by first | with_reducible exact nI_inc _ | rfl) rfl ?_
        refine J_goto qX6_worst_79 ?_
        exact h2 (Int32.not_lt.mpr c)
      · refine J_aload_n (i := 0) qX6_worst_52 rfl rfl ?_
        refine J_getR qX6_worst_53 fX6_53 (by assumption) (by assumption) ?_
        refine J_iload_n (i := 3) qX6_worst_56 rfl rfl ?_
        refine J_ialde qX6_worst_57 (by assumption) rfl (by omega) (by (repeat first | with_reducible exact wI_e _ _ _ _ | (with_reducible apply rd_s; focus omega) | (with_reducible apply rd_c; focus omega) | (with_reducible apply rd_k; focus omega) | with_reducible exact rd_e (by omega)); first | done | assumption | rfl) ?_
        refine J_goto qX6_worst_58 ?_
        refine J_ist1 qX6_worst_62 (Nat.le_of_ble_eq_true rfl) rfl ?_
        refine J_iload (i := 4) qX6_worst_63 rfl ?_
        refine J_iload_n (i := 2) qX6_worst_65 rfl rfl ?_
        refine J_icmp_le qX6_worst_66 (fun z => absurd z c) (fun _ => ?_)
        refine J_iload (i := 4) qX6_worst_69 rfl ?_
        refine J_goto qX6_worst_71 ?_
        refine J_ist2 qX6_worst_75 (Nat.le_of_ble_eq_true rfl) rfl ?_
        refine J_inc3 qX6_worst_76 (Nat.le_of_ble_eq_true rfl) (by first | with_reducible exact nI_inc _ | rfl) rfl ?_
        refine J_goto qX6_worst_79 ?_
        exact h1 (i32_nle c)
    have H : ∀ k, k ≤ (prtF (sP s).1 true true).length - 1 → ∀ v4 : Value, J mX6_worst (d+6) (0, 0) s0 (Ki G (fun q μ' => q = (worstS s).1 ∧ RelM μ' (worstS s).2 ∧ FrM μ μ')) (0, 0) 24 [.ref 198, .int (nI (pg (prtF (sP s).1 true true) (wrF (sP s).1 k)).1), .int (nI (thF (sP s).1 (wrF (sP s).1 k))), .int (nI (k + 1)), v4] [] (G, ν) := by
      refine ind_up (fun k hk ih v4 => ?_)
      have wl := wrF_le (sP s).1 k
      have tl := thF_le ho h12 (k := wrF (sP s).1 k) (by omega)
      by_cases c1 : k + 1 < (prtF (sP s).1 true true).length
      · have tl2 := thF_le ho h12 (k := k + 1) (by omega)
        have h3 := ih (by omega)
        rw [wrF_succ] at h3
        refine step (k + 1) c1 _ _ (fun c => ?_) (fun c => ?_) v4
        · rw [if_pos ((nI_ltI (by omega) (by omega)).mp c)] at h3
          exact h3 _
        · rw [if_neg (fun z => c ((nI_ltI (by omega) (by omega)).mpr z))] at h3
          exact h3 _
      · refine J_iload_n (i := 3) qX6_worst_24 rfl rfl ?_
        refine J_aload_n (i := 0) qX6_worst_25 rfl rfl ?_
        refine J_getIe qX6_worst_26 fX6_274 (by assumption) (by (repeat first | with_reducible exact wI_e _ _ _ _ | (with_reducible apply rd_s; focus omega) | (with_reducible apply rd_c; focus omega) | (with_reducible apply rd_k; focus omega) | with_reducible exact rd_e (by omega)); first | done | assumption | rfl) ?_
        refine J_icmp_ge_n qX6_worst_29 (by omega) (by omega) (fun _ => ?_) (fun z => absurd z (by omega))
        refine J_aload_n (i := 0) qX6_worst_82 rfl rfl ?_
        refine J_iload_n (i := 2) qX6_worst_83 rfl rfl ?_
        refine J_iload_n (i := 1) qX6_worst_84 rfl rfl ?_
        refine J_vi2 qX6_worst_85 kX6_91 (by assumption) (m_tells (d := d + 5) hM0 h' _ _) (Nat.le_of_ble_eq_true rfl) (fun v1 ν1 hr => ?_)
        obtain ⟨rfl, g1, g2⟩ := hr
        refine Ji_ret qX6_worst_88 ?_
        rw [eW, show (PL s).length - 1 = k by show (prtF (sP s).1 true true).length - 1 = k; omega]
        exact ⟨rfl, g1, hF'.tr g2⟩
    refine step 0 (by omega) _ _ (fun _ => H 0 (Nat.zero_le _) _) (fun c => absurd ?_ c) .null
    rw [Int32.lt_iff_toInt_lt, nI_toInt (by have := thF_le ho h12 (k := 0) (by omega); omega)]
    show (-1 : Int) < _
    omega
  · rw [show worstS s = (-4, s) from if_pos c0]
    refine J_pushI qX6_worst_9 ?_
    refine Ji_ret qX6_worst_11 ?_
    exact ⟨rfl, h, FrM.rf⟩
end MM
