/-! THE MODEL: count, digest -/
theorem FrE.m {μ μ' : Mm} (h : FrE μ μ') : FrM μ μ' := ⟨fun c k z => h.1 _ _ (fun y => by unfold Fre at y; omega), fun c k z => h.2 _ _ (by omega)⟩
section MM
variable {G : Gm} {μ : Mm} {d : Nat} {s : St} {cs : List Cs}
theorem cnt_le (cs : List Cs) (t : Nat) : ∀ k, cntF cs true true t k ≤ k
  | 0 => Nat.le_refl 0
  | k + 1 => by
    have := cnt_le cs t k
    rw [cntF_succ]
    split <;> omega
theorem m_sortMany (hM : LayM G) (hc : MC μ 206 0 cs) (ho : OkC cs) (hP : PlnM μ cs) {t : Nat} (ht : 1 ≤ t) (ht3 : t ≤ 3) : Si mX6_sortMany (d+4) [.ref 198, .int (nI t)] G μ (fun r μ' => μ = μ' ∧ r = nI (cntF cs true true t (prtF cs true true).length + if t = 1 then cntF cs true true 4 (prtF cs true true).length else 0)) := by
  have mO := hM.1
  have h12 := hc.2.1
  have pl12 := prt_len (cs := cs) true true h12
  have e26 := hP.2.1
  refine Si_of (ls := [.ref 198, .int (nI t), .null, .null]) (by decide +kernel) (Nat.le_of_ble_eq_true rfl) rfl ?_
  refine J_pushI qX6_sortMany_0 ?_
  refine J_ist2 qX6_sortMany_1 (Nat.le_of_ble_eq_true rfl) rfl ?_
  refine J_pushI qX6_sortMany_2 ?_
  refine J_ist3 qX6_sortMany_3 (Nat.le_of_ble_eq_true rfl) rfl ?_
  have H : ∀ k, k ≤ (prtF cs true true).length → J mX6_sortMany (d+4) (0, 0) s0 (Ki G (fun r μ' => μ = μ' ∧ r = nI (cntF cs true true t (prtF cs true true).length + if t = 1 then cntF cs true true 4 (prtF cs true true).length else 0))) (0, 0) 4 [.ref 198, .int (nI t), .int (nI (cntF cs true true t k + if t = 1 then cntF cs true true 4 k else 0)), .int (nI k)] [] (G, μ) := by
    refine ind_up (fun k hk ih => ?_)
    refine J_iload_n (i := 3) qX6_sortMany_4 rfl rfl ?_
    refine J_aload_n (i := 0) qX6_sortMany_5 rfl rfl ?_
    refine J_getIe qX6_sortMany_6 fX6_274 (by assumption) (by (repeat first | with_reducible exact wI_e _ _ _ _ | (with_reducible apply rd_s; focus omega) | (with_reducible apply rd_c; focus omega) | (with_reducible apply rd_k; focus omega) | with_reducible exact rd_e (by omega)); first | done | assumption | rfl) ?_
    first | with_reducible refine J_icmp_ge_n qX6_sortMany_9 (by omega) (by omega) (fun c1 => ?_) (fun c1 => ?_) | refine J_icmp_ge qX6_sortMany_9 (fun c1 => ?_) (fun c1 => ?_)
    · refine J_iload_n (i := 2) qX6_sortMany_49 rfl rfl ?_
      refine Ji_ret qX6_sortMany_50 ?_
      exact ⟨rfl, by rw [show (prtF cs true true).length = k by omega]⟩
    · have h3 := ih c1
      rw [cntF_succ, cntF_succ] at h3
      have ps := prt_sort ho h12 c1
      have add : ∀ v : Nat, v = (if psF cs true true k = t ∨ (t = 1 ∧ psF cs true true k = 4) then 1 else 0) → J mX6_sortMany (d+4) (0, 0) s0 (Ki G (fun r μ' => μ = μ' ∧ r = nI (cntF cs true true t (prtF cs true true).length + if t = 1 then cntF cs true true 4 (prtF cs true true).length else 0))) (0, 0) 41 [.ref 198, .int (nI t), .int (nI (cntF cs true true t k + if t = 1 then cntF cs true true 4 k else 0)), .int (nI k)] [.int (nI v), .int (nI (cntF cs true true t k + if t = 1 then cntF cs true true 4 k else 0))] (G, μ) := fun v ev => by
        have e : cntF cs true true t k + (if t = 1 then cntF cs true true 4 k else 0) + v = cntF cs true true t k + (if psF cs true true k = t then 1 else 0) + (if t = 1 then cntF cs true true 4 k + (if psF cs true true k = 4 then 1 else 0) else 0) := by
          rw [ev]
          by_cases q1 : psF cs true true k = t
          · by_cases q2 : t = 1
            · rw [if_pos (Or.inl q1), if_pos q1, if_pos q2, if_pos q2, if_neg (by omega)]
              omega
            · rw [if_pos (Or.inl q1), if_pos q1, if_neg q2, if_neg q2]
          · by_cases q2 : t = 1
            · by_cases q3 : psF cs true true k = 4
              · rw [if_pos (Or.inr ⟨q2, q3⟩), if_neg q1, if_pos q2, if_pos q2, if_pos q3]
                omega
              · rw [if_neg (show ¬ (psF cs true true k = t ∨ (t = 1 ∧ psF cs true true k = 4)) by omega), if_neg q1, if_pos q2, if_pos q2, if_neg q3]
                omega
            · rw [if_neg (show ¬ (psF cs true true k = t ∨ (t = 1 ∧ psF cs true true k = 4)) by omega), if_neg q1, if_neg q2, if_neg q2]
        rw [← e] at h3
        first | with_reducible refine J_iadd_n qX6_sortMany_41 ?_ | refine J_iadd qX6_sortMany_41 ?_
        refine J_ist2 qX6_sortMany_42 (Nat.le_of_ble_eq_true rfl) rfl ?_
        refine J_inc3 qX6_sortMany_43 (Nat.le_of_ble_eq_true rfl) (by first | with_reducible exact nI_inc _ | rfl) rfl ?_
        refine J_goto qX6_sortMany_46 ?_
        exact h3
      refine J_iload_n (i := 2) qX6_sortMany_12 rfl rfl ?_
      refine J_aload_n (i := 0) qX6_sortMany_13 rfl rfl ?_
      refine J_iload_n (i := 3) qX6_sortMany_14 rfl rfl ?_
      refine J_vi1 qX6_sortMany_15 kX6_280 (by assumption) (m_partSort (d := d) hM hc ho hP.1 c1) (Nat.le_of_ble_eq_true rfl) (fun v1 μ' hr => ?_)
      obtain ⟨rfl, rfl⟩ := hr
      refine J_iload_n (i := 1) qX6_sortMany_18 rfl rfl ?_
      refine J_icmp_eq_n qX6_sortMany_19 (by omega) (by omega) (fun c2 => ?_) (fun c2 => ?_)
      · refine J_pushI qX6_sortMany_36 ?_
        refine J_goto qX6_sortMany_37 ?_
        exact add 1 (if_pos (Or.inl c2)).symm
      · refine J_iload_n (i := 1) qX6_sortMany_22 rfl rfl ?_
        refine J_pushI qX6_sortMany_23 ?_
        refine J_icmp_ne_n qX6_sortMany_24 (by omega) (by omega) (fun c3 => ?_) (fun c3 => ?_)
        · refine J_pushI qX6_sortMany_40 ?_
          exact add 0 (if_neg (by omega)).symm
        · refine J_aload_n (i := 0) qX6_sortMany_27 rfl rfl ?_
          refine J_iload_n (i := 3) qX6_sortMany_28 rfl rfl ?_
          refine J_vi1 qX6_sortMany_29 kX6_280 (by assumption) (m_partSort (d := d) hM hc ho hP.1 c1) (Nat.le_of_ble_eq_true rfl) (fun v1 μ' hr => ?_)
          obtain ⟨rfl, rfl⟩ := hr
          refine J_pushI qX6_sortMany_32 ?_
          refine J_icmp_ne_n qX6_sortMany_33 (by omega) (by omega) (fun c4 => ?_) (fun c4 => ?_)
          · refine J_pushI qX6_sortMany_40 ?_
            exact add 0 (if_neg (by omega)).symm
          · refine J_pushI qX6_sortMany_36 ?_
            refine J_goto qX6_sortMany_37 ?_
            exact add 1 (if_pos (Or.inr ⟨c3, c4⟩)).symm
  have h0 := H 0 (Nat.zero_le _)
  rw [show (cntF cs true true t 0 + if t = 1 then cntF cs true true 4 0 else 0) = 0 by
    show 0 + (if t = 1 then 0 else 0) = 0
    split <;> rfl] at h0
  exact h0
theorem m_counted (hM : LayM G) (h : RelM μ s) (hP : PlnM μ (sP s).1) {w : Nat} (hw : w < 12) : Si mX6_counted (d+5) [.ref 198, .int (nI w)] G μ (fun r μ' => μ = μ' ∧ r = cntV s w) := by
  have hM0 := hM
  obtain ⟨mO, ⟨f2, f3, f4, f5, f6, f7, f15, f17, f19, f21, f22, -⟩, ⟨b199, b200, b201, b202, b203, b204, b205, b206, b207, b208, b209, -⟩⟩ := hM
  have hc := h.2.2.1.1
  have ho := h.2.2.1.2.2.2.1.1
  have h12 := hc.2.1
  have pl12 := prt_len (cs := (sP s).1) true true h12
  have e26 := hP.2.1
  have e0 := hc.n0
  have er := h.2.2.1.2.2.2.2.1
  have ed := h.2.2.1.2.1
  have k40 := h.2.2.1.2.2.2.1.2.2.1
  refine Si_of (ls := [.ref 198, .int (nI w), .null, .null]) (by decide +kernel) (Nat.le_of_ble_eq_true rfl) rfl ?_
  refine J_pushI qX6_counted_0 ?_
  refine J_ist2 qX6_counted_1 (Nat.le_of_ble_eq_true rfl) rfl ?_
  refine J_iload_n (i := 1) qX6_counted_2 rfl rfl ?_
  match w, hw with
  | 0, _ =>
    refine J_tabIn (tgt := 60) qX6_counted_3 (by decide) (by decide) rfl (by decide) ?_
    refine J_aload_n (i := 0) qX6_counted_60 rfl rfl ?_
    refine J_getR qX6_counted_61 fX6_32 (by assumption) (by assumption) ?_
    refine J_pushI qX6_counted_64 ?_
    refine J_ialde qX6_counted_65 (by assumption) rfl (by omega) (by (repeat first | with_reducible exact wI_e _ _ _ _ | (with_reducible apply rd_s; focus omega) | (with_reducible apply rd_c; focus omega) | (with_reducible apply rd_k; focus omega) | with_reducible exact rd_e (by omega)); first | done | assumption | rfl) ?_
    refine Ji_ret qX6_counted_66 ?_
    exact ⟨rfl, rfl⟩
  | 1, _ =>
    refine J_tabIn (tgt := 67) qX6_counted_3 (by decide) (by decide) rfl (by decide) ?_
    refine J_aload_n (i := 0) qX6_counted_67 rfl rfl ?_
    refine J_getIe qX6_counted_68 fX6_274 (by assumption) (by (repeat first | with_reducible exact wI_e _ _ _ _ | (with_reducible apply rd_s; focus omega) | (with_reducible apply rd_c; focus omega) | (with_reducible apply rd_k; focus omega) | with_reducible exact rd_e (by omega)); first | done | assumption | rfl) ?_
    refine Ji_ret qX6_counted_71 ?_
    exact ⟨rfl, rfl⟩
  | 2, _ =>
    refine J_tabIn (tgt := 72) qX6_counted_3 (by decide) (by decide) rfl (by decide) ?_
    refine J_aload_n (i := 0) qX6_counted_72 rfl rfl ?_
    refine J_getIe qX6_counted_73 fX6_274 (by assumption) (by (repeat first | with_reducible exact wI_e _ _ _ _ | (with_reducible apply rd_s; focus omega) | (with_reducible apply rd_c; focus omega) | (with_reducible apply rd_k; focus omega) | with_reducible exact rd_e (by omega)); first | done | assumption | rfl) ?_
    refine J_if_le_n qX6_counted_76 (by omega) (fun c => ?_) (fun c => ?_)
    · refine J_pushI qX6_counted_88 ?_
      refine Ji_ret qX6_counted_89 ?_
      exact ⟨rfl, by show _ = nI ((prtF (sP s).1 true true).length - 1); rw [c]⟩
    · refine J_aload_n (i := 0) qX6_counted_79 rfl rfl ?_
      refine J_getIe qX6_counted_80 fX6_274 (by assumption) (by (repeat first | with_reducible exact wI_e _ _ _ _ | (with_reducible apply rd_s; focus omega) | (with_reducible apply rd_c; focus omega) | (with_reducible apply rd_k; focus omega) | with_reducible exact rd_e (by omega)); first | done | assumption | rfl) ?_
      refine J_pushI qX6_counted_83 ?_
      first | with_reducible refine J_isub_n qX6_counted_84 (by omega) ?_ | refine J_isub qX6_counted_84 ?_
      refine J_goto qX6_counted_85 ?_
      refine Ji_ret qX6_counted_89 ?_
      exact ⟨rfl, rfl⟩
  | 3, _ =>
    have hjz : ∀ k, k ≤ (sP s).1.length → (nI (sP s).1.length - nI 1 < nI k ↔ 0 + (sP s).1.length ≤ k) := fun k hk => by
      by_cases c0 : (sP s).1.length = 0
      · rw [c0]
        have : k = 0 := by omega
        rw [this]
        decide
      · obtain ⟨m, hm⟩ : ∃ m, (sP s).1.length = m + 1 := ⟨(sP s).1.length - 1, by omega⟩
        rw [hm, subl, show lv (m + 1) = nI m from rfl, nI_ltI (by omega) (by omega)]
        omega
    refine J_tabIn (tgt := 90) qX6_counted_3 (by decide) (by decide) rfl (by decide) ?_
    refine J_aload_n (i := 0) qX6_counted_90 rfl rfl ?_
    refine J_pushI qX6_counted_91 ?_
    refine J_aload_n (i := 0) qX6_counted_92 rfl rfl ?_
    refine J_getR qX6_counted_93 fX6_32 (by assumption) (by assumption) ?_
    refine J_pushI qX6_counted_96 ?_
    refine J_ialde qX6_counted_97 (by assumption) rfl (by omega) (by (repeat first | with_reducible exact wI_e _ _ _ _ | (with_reducible apply rd_s; focus omega) | (with_reducible apply rd_c; focus omega) | (with_reducible apply rd_k; focus omega) | with_reducible exact rd_e (by omega)); first | done | assumption | rfl) ?_
    refine J_pushI qX6_counted_98 ?_
    refine J_isub qX6_counted_99 ?_
    refine J_vi2 qX6_counted_100 kX6_253 (by assumption) (m_weightOf (d := d + 4) hM0 hc (i := 0) (m := (sP s).1.length) (by omega) hjz) (Nat.le_of_ble_eq_true rfl) (fun v1 μ' hr => ?_)
    obtain ⟨rfl, rfl⟩ := hr
    refine J_aload_n (i := 0) qX6_counted_103 rfl rfl ?_
    refine J_getIe qX6_counted_104 fX6_201 (by assumption) (by (repeat first | with_reducible exact wI_e _ _ _ _ | (with_reducible apply rd_s; focus omega) | (with_reducible apply rd_c; focus omega) | (with_reducible apply rd_k; focus omega) | with_reducible exact rd_e (by omega)); first | done | assumption | rfl) ?_
    first | with_reducible refine J_iadd_n qX6_counted_107 ?_ | refine J_iadd qX6_counted_107 ?_
    refine Ji_ret qX6_counted_108 ?_
    exact ⟨rfl, rfl⟩
  | 4, _ =>
    refine J_tabIn (tgt := 109) qX6_counted_3 (by decide) (by decide) rfl (by decide) ?_
    refine J_aload_n (i := 0) qX6_counted_109 rfl rfl ?_
    refine J_pushI qX6_counted_110 ?_
    refine J_vi1 qX6_counted_111 kX6_323 (by assumption) (m_sortMany (d := d) hM0 hc ho hP (t := 1) (by omega) (by omega)) (Nat.le_of_ble_eq_true rfl) (fun v1 μ' hr => ?_)
    obtain ⟨rfl, rfl⟩ := hr
    refine Ji_ret qX6_counted_114 ?_
    exact ⟨rfl, rfl⟩
  | 5, _ =>
    refine J_tabIn (tgt := 115) qX6_counted_3 (by decide) (by decide) rfl (by decide) ?_
    refine J_aload_n (i := 0) qX6_counted_115 rfl rfl ?_
    refine J_pushI qX6_counted_116 ?_
    refine J_vi1 qX6_counted_117 kX6_323 (by assumption) (m_sortMany (d := d) hM0 hc ho hP (t := 2) (by omega) (by omega)) (Nat.le_of_ble_eq_true rfl) (fun v1 μ' hr => ?_)
    obtain ⟨rfl, rfl⟩ := hr
    refine Ji_ret qX6_counted_120 ?_
    exact ⟨rfl, rfl⟩
  | 6, _ =>
    refine J_tabIn (tgt := 121) qX6_counted_3 (by decide) (by decide) rfl (by decide) ?_
    refine J_aload_n (i := 0) qX6_counted_121 rfl rfl ?_
    refine J_pushI qX6_counted_122 ?_
    refine J_vi1 qX6_counted_123 kX6_323 (by assumption) (m_sortMany (d := d) hM0 hc ho hP (t := 3) (by omega) (by omega)) (Nat.le_of_ble_eq_true rfl) (fun v1 μ' hr => ?_)
    obtain ⟨rfl, rfl⟩ := hr
    refine Ji_ret qX6_counted_126 ?_
    exact ⟨rfl, rfl⟩
  | 7, _ =>
    refine J_tabIn (tgt := 127) qX6_counted_3 (by decide) (by decide) rfl (by decide) ?_
    refine J_aload_n (i := 0) qX6_counted_127 rfl rfl ?_
    refine J_getIe qX6_counted_128 fX6_201 (by assumption) (by (repeat first | with_reducible exact wI_e _ _ _ _ | (with_reducible apply rd_s; focus omega) | (with_reducible apply rd_c; focus omega) | (with_reducible apply rd_k; focus omega) | with_reducible exact rd_e (by omega)); first | done | assumption | rfl) ?_
    refine Ji_ret qX6_counted_131 ?_
    exact ⟨rfl, rfl⟩
  | 8, _ =>
    refine J_tabIn (tgt := 132) qX6_counted_3 (by decide) (by decide) rfl (by decide) ?_
    refine J_aload_n (i := 0) qX6_counted_132 rfl rfl ?_
    refine J_getIe qX6_counted_133 fX6_204 (by assumption) (by (repeat first | with_reducible exact wI_e _ _ _ _ | (with_reducible apply rd_s; focus omega) | (with_reducible apply rd_c; focus omega) | (with_reducible apply rd_k; focus omega) | with_reducible exact rd_e (by omega)); first | done | assumption | rfl) ?_
    refine Ji_ret qX6_counted_136 ?_
    exact ⟨rfl, rfl⟩
  | 9, _ =>
    refine J_tabIn (tgt := 137) qX6_counted_3 (by decide) (by decide) rfl (by decide) ?_
    refine J_pushI qX6_counted_137 ?_
    refine J_ist3 qX6_counted_138 (Nat.le_of_ble_eq_true rfl) rfl ?_
    have H : ∀ k, k ≤ 6 → J mX6_counted (d+5) (0, 0) s0 (Ki G (fun r μ' => μ = μ' ∧ r = cntV s 9)) (0, 0) 139 [.ref 198, .int (nI 9), .int (nI (thrF (sRw s) k)), .int (nI k)] [] (G, μ) := by
      refine ind_up (fun k hk ih => ?_)
      refine J_iload_n (i := 3) qX6_counted_139 rfl rfl ?_
      refine J_pushI qX6_counted_140 ?_
      first | with_reducible refine J_icmp_ge_n qX6_counted_142 (by omega) (by omega) (fun c1 => ?_) (fun c1 => ?_) | refine J_icmp_ge qX6_counted_142 (fun c1 => ?_) (fun c1 => ?_)
      · refine J_iload_n (i := 2) qX6_counted_168 rfl rfl ?_
        refine Ji_ret qX6_counted_169 ?_
        rw [show k = 6 by omega]
        exact ⟨rfl, rfl⟩
      · have h3 := ih c1
        rw [thrF_succ] at h3
        have hA := h.1 k c1
        cases hm : sRw s k with
        | none =>
          rw [hm] at hA
          rw [hm, if_pos (show (none : Rw).isNone = true from rfl)] at h3
          have e : μ.1 200 k = -1 := hA
          refine J_iload_n (i := 2) qX6_counted_145 rfl rfl ?_
          refine J_aload_n (i := 0) qX6_counted_146 rfl rfl ?_
          refine J_getR qX6_counted_147 fX6_13 (by assumption) (by assumption) ?_
          refine J_iload_n (i := 3) qX6_counted_150 rfl rfl ?_
          refine J_ialde qX6_counted_151 (by assumption) rfl (by omega) (by (repeat first | with_reducible exact wI_e _ _ _ _ | (with_reducible apply rd_s; focus omega) | (with_reducible apply rd_c; focus omega) | (with_reducible apply rd_k; focus omega) | with_reducible exact rd_e (by omega)); first | done | assumption | rfl) ?_
          refine J_if_lt qX6_counted_152 (fun _ => ?_) (fun z => absurd neg1_lt z)
          refine J_pushI qX6_counted_159 ?_
          first | with_reducible refine J_iadd_n qX6_counted_160 ?_ | refine J_iadd qX6_counted_160 ?_
          refine J_ist2 qX6_counted_161 (Nat.le_of_ble_eq_true rfl) rfl ?_
          refine J_inc3 qX6_counted_162 (Nat.le_of_ble_eq_true rfl) (by first | with_reducible exact nI_inc _ | rfl) rfl ?_
          refine J_goto qX6_counted_165 ?_
          exact h3
        | some l =>
          rw [hm] at hA
          rw [hm, if_neg (show ¬ (some l).isNone = true from Bool.false_ne_true)] at h3
          have e := hA.1
          have l40 := hA.2.1
          refine J_iload_n (i := 2) qX6_counted_145 rfl rfl ?_
          refine J_aload_n (i := 0) qX6_counted_146 rfl rfl ?_
          refine J_getR qX6_counted_147 fX6_13 (by assumption) (by assumption) ?_
          refine J_iload_n (i := 3) qX6_counted_150 rfl rfl ?_
          refine J_ialde qX6_counted_151 (by assumption) rfl (by omega) (by (repeat first | with_reducible exact wI_e _ _ _ _ | (with_reducible apply rd_s; focus omega) | (with_reducible apply rd_c; focus omega) | (with_reducible apply rd_k; focus omega) | with_reducible exact rd_e (by omega)); first | done | assumption | rfl) ?_
          refine J_if_lt_n qX6_counted_152 (by omega) ?_
          refine J_pushI qX6_counted_155 ?_
          refine J_goto qX6_counted_156 ?_
          first | with_reducible refine J_iadd_n qX6_counted_160 ?_ | refine J_iadd qX6_counted_160 ?_
          refine J_ist2 qX6_counted_161 (Nat.le_of_ble_eq_true rfl) rfl ?_
          refine J_inc3 qX6_counted_162 (Nat.le_of_ble_eq_true rfl) (by first | with_reducible exact nI_inc _ | rfl) rfl ?_
          refine J_goto qX6_counted_165 ?_
          exact h3
    exact H 0 (Nat.zero_le _)
  | 10, _ =>
    refine J_tabIn (tgt := 170) qX6_counted_3 (by decide) (by decide) rfl (by decide) ?_
    refine J_pushI qX6_counted_170 ?_
    refine J_ist3 qX6_counted_171 (Nat.le_of_ble_eq_true rfl) rfl ?_
    have H : ∀ k, k ≤ 4 → J mX6_counted (d+5) (0, 0) s0 (Ki G (fun r μ' => μ = μ' ∧ r = cntV s 10)) (0, 0) 172 [.ref 198, .int (nI 10), .int (nI (thrF (sTx s) k)), .int (nI k)] [] (G, μ) := by
      refine ind_up (fun k hk ih => ?_)
      refine J_iload_n (i := 3) qX6_counted_172 rfl rfl ?_
      refine J_pushI qX6_counted_173 ?_
      first | with_reducible refine J_icmp_ge_n qX6_counted_174 (by omega) (by omega) (fun c1 => ?_) (fun c1 => ?_) | refine J_icmp_ge qX6_counted_174 (fun c1 => ?_) (fun c1 => ?_)
      · refine J_iload_n (i := 2) qX6_counted_200 rfl rfl ?_
        refine Ji_ret qX6_counted_201 ?_
        rw [show k = 4 by omega]
        exact ⟨rfl, rfl⟩
      · have h3 := ih c1
        rw [thrF_succ] at h3
        have hA := h.2.1 k c1
        cases hm : sTx s k with
        | none =>
          rw [hm] at hA
          rw [hm, if_pos (show (none : Rw).isNone = true from rfl)] at h3
          have e : μ.1 203 k = -1 := hA
          refine J_iload_n (i := 2) qX6_counted_177 rfl rfl ?_
          refine J_aload_n (i := 0) qX6_counted_178 rfl rfl ?_
          refine J_getR qX6_counted_179 fX6_22 (by assumption) (by assumption) ?_
          refine J_iload_n (i := 3) qX6_counted_182 rfl rfl ?_
          refine J_ialde qX6_counted_183 (by assumption) rfl (by omega) (by (repeat first | with_reducible exact wI_e _ _ _ _ | (with_reducible apply rd_s; focus omega) | (with_reducible apply rd_c; focus omega) | (with_reducible apply rd_k; focus omega) | with_reducible exact rd_e (by omega)); first | done | assumption | rfl) ?_
          refine J_if_lt qX6_counted_184 (fun _ => ?_) (fun z => absurd neg1_lt z)
          refine J_pushI qX6_counted_191 ?_
          first | with_reducible refine J_iadd_n qX6_counted_192 ?_ | refine J_iadd qX6_counted_192 ?_
          refine J_ist2 qX6_counted_193 (Nat.le_of_ble_eq_true rfl) rfl ?_
          refine J_inc3 qX6_counted_194 (Nat.le_of_ble_eq_true rfl) (by first | with_reducible exact nI_inc _ | rfl) rfl ?_
          refine J_goto qX6_counted_197 ?_
          exact h3
        | some l =>
          rw [hm] at hA
          rw [hm, if_neg (show ¬ (some l).isNone = true from Bool.false_ne_true)] at h3
          have e := hA.1
          have l40 := hA.2.1
          refine J_iload_n (i := 2) qX6_counted_177 rfl rfl ?_
          refine J_aload_n (i := 0) qX6_counted_178 rfl rfl ?_
          refine J_getR qX6_counted_179 fX6_22 (by assumption) (by assumption) ?_
          refine J_iload_n (i := 3) qX6_counted_182 rfl rfl ?_
          refine J_ialde qX6_counted_183 (by assumption) rfl (by omega) (by (repeat first | with_reducible exact wI_e _ _ _ _ | (with_reducible apply rd_s; focus omega) | (with_reducible apply rd_c; focus omega) | (with_reducible apply rd_k; focus omega) | with_reducible exact rd_e (by omega)); first | done | assumption | rfl) ?_
          refine J_if_lt_n qX6_counted_184 (by omega) ?_
          refine J_pushI qX6_counted_187 ?_
          refine J_goto qX6_counted_188 ?_
          first | with_reducible refine J_iadd_n qX6_counted_192 ?_ | refine J_iadd qX6_counted_192 ?_
          refine J_ist2 qX6_counted_193 (Nat.le_of_ble_eq_true rfl) rfl ?_
          refine J_inc3 qX6_counted_194 (Nat.le_of_ble_eq_true rfl) (by first | with_reducible exact nI_inc _ | rfl) rfl ?_
          refine J_goto qX6_counted_197 ?_
          exact h3
    exact H 0 (Nat.zero_le _)
  | 11, _ =>
    refine J_tabOut (tgt := 202) qX6_counted_3 (by decide) (by decide) ?_
    refine J_pushI qX6_counted_202 ?_
    refine J_ist3 qX6_counted_203 (Nat.le_of_ble_eq_true rfl) rfl ?_
    have H : ∀ k, k ≤ 3 → J mX6_counted (d+5) (0, 0) s0 (Ki G (fun r μ' => μ = μ' ∧ r = cntV s 11)) (0, 0) 204 [.ref 198, .int (nI 11), .int (nI (kptF (sKp s) k)), .int (nI k)] [] (G, μ) := by
      refine ind_up (fun k hk ih => ?_)
      refine J_iload_n (i := 3) qX6_counted_204 rfl rfl ?_
      refine J_pushI qX6_counted_205 ?_
      first | with_reducible refine J_icmp_ge_n qX6_counted_206 (by omega) (by omega) (fun c1 => ?_) (fun c1 => ?_) | refine J_icmp_ge qX6_counted_206 (fun c1 => ?_) (fun c1 => ?_)
      · refine J_iload_n (i := 2) qX6_counted_232 rfl rfl ?_
        refine Ji_ret qX6_counted_233 ?_
        rw [show k = 3 by omega]
        exact ⟨rfl, rfl⟩
      · have h3 := ih c1
        rw [kptF_succ] at h3
        have hA := h.2.2.2.1 k c1
        cases hm : sKp s k with
        | none =>
          rw [hm] at hA
          rw [hm, if_pos (show (none : Option Pg).isNone = true from rfl)] at h3
          have e : μ.1 209 k = -1 := hA
          refine J_iload_n (i := 2) qX6_counted_209 rfl rfl ?_
          refine J_aload_n (i := 0) qX6_counted_210 rfl rfl ?_
          refine J_getR qX6_counted_211 fX6_41 (by assumption) (by assumption) ?_
          refine J_iload_n (i := 3) qX6_counted_214 rfl rfl ?_
          refine J_ialde qX6_counted_215 (by assumption) rfl (by omega) (by (repeat first | with_reducible exact wI_e _ _ _ _ | (with_reducible apply rd_s; focus omega) | (with_reducible apply rd_c; focus omega) | (with_reducible apply rd_k; focus omega) | with_reducible exact rd_e (by omega)); first | done | assumption | rfl) ?_
          refine J_if_lt qX6_counted_216 (fun _ => ?_) (fun z => absurd neg1_lt z)
          refine J_pushI qX6_counted_223 ?_
          first | with_reducible refine J_iadd_n qX6_counted_224 ?_ | refine J_iadd qX6_counted_224 ?_
          refine J_ist2 qX6_counted_225 (Nat.le_of_ble_eq_true rfl) rfl ?_
          refine J_inc3 qX6_counted_226 (Nat.le_of_ble_eq_true rfl) (by first | with_reducible exact nI_inc _ | rfl) rfl ?_
          refine J_goto qX6_counted_229 ?_
          exact h3
        | some g =>
          rw [hm] at hA
          rw [hm, if_neg (show ¬ (some g).isNone = true from Bool.false_ne_true)] at h3
          have e := hA.1
          have l40 := hA.2.2.2.2.2.1
          refine J_iload_n (i := 2) qX6_counted_209 rfl rfl ?_
          refine J_aload_n (i := 0) qX6_counted_210 rfl rfl ?_
          refine J_getR qX6_counted_211 fX6_41 (by assumption) (by assumption) ?_
          refine J_iload_n (i := 3) qX6_counted_214 rfl rfl ?_
          refine J_ialde qX6_counted_215 (by assumption) rfl (by omega) (by (repeat first | with_reducible exact wI_e _ _ _ _ | (with_reducible apply rd_s; focus omega) | (with_reducible apply rd_c; focus omega) | (with_reducible apply rd_k; focus omega) | with_reducible exact rd_e (by omega)); first | done | assumption | rfl) ?_
          refine J_if_lt_n qX6_counted_216 (by omega) ?_
          refine J_pushI qX6_counted_219 ?_
          refine J_goto qX6_counted_220 ?_
          first | with_reducible refine J_iadd_n qX6_counted_224 ?_ | refine J_iadd qX6_counted_224 ?_
          refine J_ist2 qX6_counted_225 (Nat.le_of_ble_eq_true rfl) rfl ?_
          refine J_inc3 qX6_counted_226 (Nat.le_of_ble_eq_true rfl) (by first | with_reducible exact nI_inc _ | rfl) rfl ?_
          refine J_goto qX6_counted_229 ?_
          exact h3
    exact H 0 (Nat.zero_le _)
theorem m_count (hM : LayM G) (h : RelM μ s) (w : Int32) : Si mX6_count (d+6) [.ref 198, .int w] G μ (fun q μ' => q = (countS s w).1 ∧ RelM μ' (countS s w).2 ∧ FrM μ μ') := by
  have mO := hM.1
  have hc := h.2.2.1.1
  have ho := h.2.2.1.2.2.2.1.1
  refine Si_of (ls := [.ref 198, .int w]) (by decide +kernel) (Nat.le_of_ble_eq_true rfl) rfl ?_
  refine J_aload_n (i := 0) qX6_count_0 rfl rfl ?_
  refine J_vi0 qX6_count_1 kX6_283 (by assumption) (m_layPlan (d := d) hM hc ho) (Nat.le_of_ble_eq_true rfl) (fun v1 ν hr => ?_)
  obtain ⟨rfl, hA, h26, hT, hF⟩ := hr
  obtain ⟨h', hF'⟩ := h.free hF.pl
  refine J_pop qX6_count_4 rfl ?_
  refine J_iload_n (i := 1) qX6_count_5 rfl rfl ?_
  refine J_pushI qX6_count_6 ?_
  refine J_pushI qX6_count_7 ?_
  refine J_si3 qX6_count_9 kX6_75 (m_in (d := d + 5) w (nI 0) (lv 12)) (Nat.le_of_ble_eq_true rfl) (fun v1 μ' hr => ?_)
  rw [inB_lv (by omega)] at hr
  obtain ⟨rfl, rfl⟩ := hr
  cases hb : hasB 12 w with
  | false =>
    first | refine J_if_eq qX6_count_12 (fun _ => ?_) (fun c => absurd b2i_f0 c) | refine J_if_eq qX6_count_12 (fun c => absurd c b2i_t0) (fun _ => ?_)
    rw [show countS s w = (-1, s) from if_pos hb]
    refine J_pushI qX6_count_23 ?_
    refine Ji_ret qX6_count_24 ?_
    exact ⟨rfl, h', hF'⟩
  | true =>
    first | refine J_if_eq qX6_count_12 (fun _ => ?_) (fun c => absurd b2i_f0 c) | refine J_if_eq qX6_count_12 (fun c => absurd c b2i_t0) (fun _ => ?_)
    rw [show countS s w = (cntV s (ix w), s) from if_neg (by rw [hb]; decide)]
    obtain ⟨e, he, rfl⟩ := hasB_of (by omega) hb
    rw [ix_n (by omega)]
    refine J_aload_n (i := 0) qX6_count_15 rfl rfl ?_
    refine J_iload_n (i := 1) qX6_count_16 rfl rfl ?_
    refine J_vi1 qX6_count_17 kX6_326 (by assumption) (m_counted (d := d) hM h' ⟨hA, h26, hT⟩ he) (Nat.le_of_ble_eq_true rfl) (fun v1 μ' hr => ?_)
    obtain ⟨rfl, rfl⟩ := hr
    refine J_goto qX6_count_20 ?_
    refine Ji_ret qX6_count_24 ?_
    exact ⟨rfl, h', hF'⟩
theorem m_adds (hM : LayM G) {z : Int64} (hz : μ.2 198 34 = z) (v : Int64) : Sv mX6_adds (d) [.ref 198, .long v] G μ (fun μ' => wL μ 198 34 (lN 31 * z + v) = μ') := by
  have mO := hM.1
  refine Sv_of (ls := [.ref 198, .long v, .null]) (by decide +kernel) (Nat.le_of_ble_eq_true rfl) rfl ?_
  refine J_aload_n (i := 0) qX6_adds_0 rfl rfl ?_
  refine J_pushL qX6_adds_1 ?_
  refine J_aload_n (i := 0) qX6_adds_4 rfl rfl ?_
  refine J_getLe qX6_adds_5 fX6_331 (by assumption) (by (repeat first | with_reducible exact wL_e _ _ _ _ | with_reducible apply rdl_i | (with_reducible apply rdl_s; focus omega) | (with_reducible apply rdl_k; focus omega)); first | done | assumption | rfl) ?_
  refine J_lmul qX6_adds_8 ?_
  refine J_lload_n (i := 1) qX6_adds_9 rfl rfl ?_
  refine J_ladd qX6_adds_10 ?_
  refine J_putL qX6_adds_11 fX6_331p (by assumption) rfl rfl ?_
  refine Jv_ret qX6_adds_14 ?_
  rfl
/-- only h has changed -/
def FrH (μ μ' : Mm) : Prop := μ'.1 = μ.1 ∧ ∀ c k, ¬ (c = 198 ∧ k = 34) → μ'.2 c k = μ.2 c k
theorem FrH.rf {μ : Mm} : FrH μ μ := ⟨rfl, fun _ _ _ => rfl⟩
theorem FrH.w {μ μ1 : Mm} {v : Int64} (h : FrH μ μ1) : FrH μ (wL μ1 198 34 v) := ⟨h.1, fun c k z => (wL_n z).trans (h.2 c k z)⟩
theorem FrH.e {μ μ1 : Mm} (h : FrH μ μ1) : FrE μ μ1 := ⟨fun c k _ => by rw [h.1], fun c k z => h.2 c k (fun y => z ⟨y.1, Or.inr y.2⟩)⟩
theorem PlnM.h {μ μ1 : Mm} {cs : List Cs} (hP : PlnM μ cs) (h : FrH μ μ1) : PlnM μ1 cs := by
  obtain ⟨h1, h2, h3⟩ := hP
  unfold PlnM AtM TbA TbM
  rw [h.1]
  exact ⟨h1, h2, h3⟩
end MM
