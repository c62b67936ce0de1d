/-! WRITER: a PROGRAM written out -/
def casB (c : Cs) : List Int32 := (if c.1 = c.2.1 then wordS 3 ++ nmB c.1 else wordS 1 ++ nmB c.1 ++ nmB c.2.1) ++ nmB (nI c.2.2.1) ++ nmB (nI c.2.2.2) ++ [nI 59]
def outA (cs : List Cs) : Nat → List Int32
  | 0 => []
  | k + 1 => outA cs k ++ casB (cg cs k)
theorem outA_succ (cs : List Cs) (k : Nat) : outA cs (k + 1) = outA cs k ++ casB (cg cs k) := rfl
def rstB (rest : Nat) : List Int32 := if rest = 0 then [] else wordS 0 ++ nmB (nI rest) ++ [nI 59]
def outB (cs : List Cs) (rest : Nat) : List Int32 := outA cs cs.length ++ rstB rest
theorem nmB_len (v : Int32) : (nmB v).length ≤ 12 := by
  unfold nmB figB
  have h := dgL_len 10 v.toInt.natAbs
  rw [List.length_cons, List.length_append, List.length_map, List.length_reverse]
  by_cases c : v < 0
  · rw [if_pos c]; simp; omega
  · rw [if_neg c]; simp; omega
theorem wordS_len : ∀ i, i < 4 → (wordS i).length ≤ 5 := by decide
theorem casB_len (c : Cs) : (casB c).length ≤ 60 := by
  unfold casB
  have h1 := nmB_len c.1
  have h2 := nmB_len c.2.1
  have h3 := nmB_len (nI c.2.2.1)
  have h4 := nmB_len (nI c.2.2.2)
  have h5 := wordS_len 3 (by omega)
  have h6 := wordS_len 1 (by omega)
  by_cases e : c.1 = c.2.1
  · rw [if_pos e]; simp only [List.length_append, List.length_cons, List.length_nil]; omega
  · rw [if_neg e]; simp only [List.length_append, List.length_cons, List.length_nil]; omega
theorem outA_len (cs : List Cs) : ∀ k, (outA cs k).length ≤ 60 * k
  | 0 => Nat.le_refl 0
  | k + 1 => by
    rw [outA_succ, List.length_append]
    have h1 := outA_len cs k
    have h2 := casB_len (cg cs k)
    omega
section WR
variable {G : Gm} {μ : Mm} {q b d : Nat} {cs : List Cs}
theorem w_out (hW : IsW G q) (hP : IsP G b) (hb : b + 10 < q ∨ q + 2 < b) (hc : AbC μ b cs) {rest : Nat} (hr : μ.1 b 5 = nI rest) (hr9 : rest < 10) : Si mX4_writeOut (d+5) [.ref q, .ref b] G μ (fun r μ' => r = nI (outB cs rest).length ∧ AbW μ' q (outB cs rest) ∧ Fr μ μ' (Pw q)) := by
  have hW0 := hW
  have h12 := hc.2.1
  obtain ⟨hO, r0, r1, a1, a2⟩ := hW
  obtain ⟨hPO, ⟨z0, z1, z2, z3⟩, -, ⟨y1, y2, y3, y4⟩, -⟩ := hP
  have hcf : ∀ {ν : Mm}, Fr μ ν (Pw q) → AbC ν b cs := fun hF => hc.fr hF (fun c k w z => by unfold Pw at w; unfold Pcs at z; omega)
  have hrf : ∀ {ν : Mm}, Fr μ ν (Pw q) → ν.1 b 5 = nI rest := fun hF => (hF.1 _ _ (fun z => by unfold Pw at z; omega)).trans hr
  refine Si_of (ls := [.ref q, .ref b, .null]) (by decide +kernel) (Nat.le_of_ble_eq_true rfl) rfl ?_
  refine J_aload_n (i := 0) qX4_writeOut_0 rfl rfl ?_
  refine J_pushI qX4_writeOut_1 ?_
  refine J_putI qX4_writeOut_2 fX4_18p (by assumption) rfl rfl ?_
  refine J_pushI qX4_writeOut_5 ?_
  refine J_ist2 qX4_writeOut_6 (Nat.le_of_ble_eq_true rfl) rfl ?_
  have H : ∀ k, k ≤ cs.length → ∀ ν : Mm, Fr μ ν (Pw q) → AbW ν q (outA cs k) → J mX4_writeOut (d+5) (0, 0) s0 (Ki G (fun r μ' => r = nI (outB cs rest).length ∧ AbW μ' q (outB cs rest) ∧ Fr μ μ' (Pw q))) (0, 0) 7 [.ref q, .ref b, .int (nI k)] [] (G, ν) := by
    refine ind_up (fun k hk ih ν hF hA => ?_)
    have hn := (hcf hF).1
    have ol := outA_len cs k
    refine J_iload_n (i := 2) qX4_writeOut_7 rfl rfl ?_
    refine J_aload_n (i := 1) qX4_writeOut_8 rfl rfl ?_
    refine J_getIe qX4_writeOut_9 fX4_22 (by assumption) (by (repeat first | with_reducible exact wI_e _ _ _ _ | (with_reducible apply rd_s; focus omega) | (with_reducible apply rd_c; focus omega) | (with_reducible apply rd_k; focus omega) | with_reducible exact rd_e (by omega)); first | done | assumption | rfl) ?_
    first | with_reducible refine J_icmp_ge_n qX4_writeOut_12 (by omega) (by omega) (fun c1 => ?_) (fun c1 => ?_) | refine J_icmp_ge qX4_writeOut_12 (fun c1 => ?_) (fun c1 => ?_)
    · have hA : AbW ν q (outA cs cs.length) := by rw [show cs.length = k by omega]; exact hA
      have ol := outA_len cs cs.length
      have hrν := hrf hF
      refine J_aload_n (i := 1) qX4_writeOut_107 rfl rfl ?_
      refine J_getIe qX4_writeOut_108 fX4_52 (by assumption) (by (repeat first | with_reducible exact wI_e _ _ _ _ | (with_reducible apply rd_s; focus omega) | (with_reducible apply rd_c; focus omega) | (with_reducible apply rd_k; focus omega) | with_reducible exact rd_e (by omega)); first | done | assumption | rfl) ?_
      first | with_reducible refine J_if_eq_n qX4_writeOut_111 (by omega) (fun c2 => ?_) (fun c2 => ?_) | refine J_if_eq qX4_writeOut_111 (fun c2 => ?_) (fun c2 => ?_)
      · have e : outB cs rest = outA cs cs.length := by unfold outB rstB; rw [if_pos c2, List.append_nil]
        have h1 := hA.1
        refine J_aload_n (i := 0) qX4_writeOut_134 rfl rfl ?_
        refine J_getIe qX4_writeOut_135 fX4_18 (by assumption) (by (repeat first | with_reducible exact wI_e _ _ _ _ | (with_reducible apply rd_s; focus omega) | (with_reducible apply rd_c; focus omega) | (with_reducible apply rd_k; focus omega) | with_reducible exact rd_e (by omega)); first | done | assumption | rfl) ?_
        refine Ji_ret qX4_writeOut_138 ?_
        rw [e]
        exact ⟨rfl, hA, hF⟩
      · have e : outB cs rest = outA cs cs.length ++ wordS 0 ++ nmB (nI rest) ++ [nI 59] := by unfold outB rstB; rw [if_neg c2]; simp
        have l1 := wordS_len 0 (by omega)
        have l2 := nmB_len (nI rest)
        refine J_aload_n (i := 0) qX4_writeOut_114 rfl rfl ?_
        refine J_ldcS (tx := "rest") (i := 0) qX4_writeOut_115 (by decide +kernel) ?_
        refine J_vv1 qX4_writeOut_117 kX4_33 (by assumption) (w_word hW0 hA (by omega) (i := 0) (by omega)) (Nat.le_of_ble_eq_true rfl) (fun ν1 hr => ?_)
        obtain ⟨g1, g2⟩ := hr
        have hrν1 := hrf (hF.tr g2)
        refine J_aload_n (i := 0) qX4_writeOut_120 rfl rfl ?_
        refine J_aload_n (i := 1) qX4_writeOut_121 rfl rfl ?_
        refine J_getIe qX4_writeOut_122 fX4_52 (by assumption) (by (repeat first | with_reducible exact wI_e _ _ _ _ | (with_reducible apply rd_s; focus omega) | (with_reducible apply rd_c; focus omega) | (with_reducible apply rd_k; focus omega) | with_reducible exact rd_e (by omega)); first | done | assumption | rfl) ?_
        refine J_vv1 qX4_writeOut_125 kX4_37 (by assumption) (w_number hW0 g1 (by rw [List.length_append]; omega) _) (Nat.le_of_ble_eq_true rfl) (fun ν2 hr => ?_)
        obtain ⟨g3, g4⟩ := hr
        refine J_aload_n (i := 0) qX4_writeOut_128 rfl rfl ?_
        refine J_pushI qX4_writeOut_129 ?_
        refine J_vv1 qX4_writeOut_131 kX4_49 (by assumption) (w_byte hW0 g3 (by rw [List.length_append, List.length_append]; omega) _) (Nat.le_of_ble_eq_true rfl) (fun ν3 hr => ?_)
        obtain ⟨g5, g6⟩ := hr
        have h1 := g5.1
        refine J_aload_n (i := 0) qX4_writeOut_134 rfl rfl ?_
        refine J_getIe qX4_writeOut_135 fX4_18 (by assumption) (by (repeat first | with_reducible exact wI_e _ _ _ _ | (with_reducible apply rd_s; focus omega) | (with_reducible apply rd_c; focus omega) | (with_reducible apply rd_k; focus omega) | with_reducible exact rd_e (by omega)); first | done | assumption | rfl) ?_
        refine Ji_ret qX4_writeOut_138 ?_
        rw [e]
        exact ⟨rfl, g5, ((hF.tr g2).tr g4).tr (g6.mono (fun c k z => by unfold Pw; omega))⟩
    · obtain ⟨e1, e2, e3, e4⟩ := (hcf hF).2.2 k c1
      have l1 := nmB_len (cg cs k).1
      have l2 := nmB_len (cg cs k).2.1
      have l3 := nmB_len (nI (cg cs k).2.2.1)
      have l4 := nmB_len (nI (cg cs k).2.2.2)
      have l5 := wordS_len 3 (by omega)
      have l6 := wordS_len 1 (by omega)
      have tail : ∀ (o : List Int32) (ν : Mm), o.length < 2000 → Fr μ ν (Pw q) → AbW ν q o → outA cs (k + 1) = o ++ nmB (nI (cg cs k).2.2.1) ++ nmB (nI (cg cs k).2.2.2) ++ [nI 59] → J mX4_writeOut (d+5) (0, 0) s0 (Ki G (fun r μ' => r = nI (outB cs rest).length ∧ AbW μ' q (outB cs rest) ∧ Fr μ μ' (Pw q))) (0, 0) 75 [.ref q, .ref b, .int (nI k)] [] (G, ν) := by
        intro o ν ho hF hA hE
        obtain ⟨e1, e2, e3, e4⟩ := (hcf hF).2.2 k c1
        refine J_aload_n (i := 0) qX4_writeOut_75 rfl rfl ?_
        refine J_aload_n (i := 1) qX4_writeOut_76 rfl rfl ?_
        refine J_getR qX4_writeOut_77 fX4_43 (by assumption) (by assumption) ?_
        refine J_iload_n (i := 2) qX4_writeOut_80 rfl rfl ?_
        refine J_ialde qX4_writeOut_81 (by assumption) rfl (by omega) (by (repeat first | with_reducible exact wI_e _ _ _ _ | (with_reducible apply rd_s; focus omega) | (with_reducible apply rd_c; focus omega) | (with_reducible apply rd_k; focus omega) | with_reducible exact rd_e (by omega)); first | done | assumption | rfl) ?_
        refine J_vv1 qX4_writeOut_82 kX4_37 (by assumption) (w_number hW0 hA (by omega) _) (Nat.le_of_ble_eq_true rfl) (fun ν1 hr => ?_)
        obtain ⟨g1, g2⟩ := hr
        obtain ⟨e1, e2, e3, e4⟩ := (hcf (hF.tr g2)).2.2 k c1
        refine J_aload_n (i := 0) qX4_writeOut_85 rfl rfl ?_
        refine J_aload_n (i := 1) qX4_writeOut_86 rfl rfl ?_
        refine J_getR qX4_writeOut_87 fX4_46 (by assumption) (by assumption) ?_
        refine J_iload_n (i := 2) qX4_writeOut_90 rfl rfl ?_
        refine J_ialde qX4_writeOut_91 (by assumption) rfl (by omega) (by (repeat first | with_reducible exact wI_e _ _ _ _ | (with_reducible apply rd_s; focus omega) | (with_reducible apply rd_c; focus omega) | (with_reducible apply rd_k; focus omega) | with_reducible exact rd_e (by omega)); first | done | assumption | rfl) ?_
        refine J_vv1 qX4_writeOut_92 kX4_37 (by assumption) (w_number hW0 g1 (by rw [List.length_append]; omega) _) (Nat.le_of_ble_eq_true rfl) (fun ν2 hr => ?_)
        obtain ⟨g3, g4⟩ := hr
        refine J_aload_n (i := 0) qX4_writeOut_95 rfl rfl ?_
        refine J_pushI qX4_writeOut_96 ?_
        refine J_vv1 qX4_writeOut_98 kX4_49 (by assumption) (w_byte hW0 g3 (by rw [List.length_append, List.length_append]; omega) _) (Nat.le_of_ble_eq_true rfl) (fun ν3 hr => ?_)
        obtain ⟨g5, g6⟩ := hr
        refine J_inc2 qX4_writeOut_101 (Nat.le_of_ble_eq_true rfl) (by first | with_reducible exact nI_inc _ | rfl) rfl ?_
        refine J_goto qX4_writeOut_104 ?_
        refine ih c1 ν3 (((hF.tr g2).tr g4).tr (g6.mono (fun c k z => by unfold Pw; omega))) ?_
        rw [hE]
        exact g5
      refine J_aload_n (i := 1) qX4_writeOut_15 rfl rfl ?_
      refine J_getR qX4_writeOut_16 fX4_25 (by assumption) (by assumption) ?_
      refine J_iload_n (i := 2) qX4_writeOut_19 rfl rfl ?_
      refine J_ialde qX4_writeOut_20 (by assumption) rfl (by omega) (by (repeat first | with_reducible exact wI_e _ _ _ _ | (with_reducible apply rd_s; focus omega) | (with_reducible apply rd_c; focus omega) | (with_reducible apply rd_k; focus omega) | with_reducible exact rd_e (by omega)); first | done | assumption | rfl) ?_
      refine J_aload_n (i := 1) qX4_writeOut_21 rfl rfl ?_
      refine J_getR qX4_writeOut_22 fX4_28 (by assumption) (by assumption) ?_
      refine J_iload_n (i := 2) qX4_writeOut_25 rfl rfl ?_
      refine J_ialde qX4_writeOut_26 (by assumption) rfl (by omega) (by (repeat first | with_reducible exact wI_e _ _ _ _ | (with_reducible apply rd_s; focus omega) | (with_reducible apply rd_c; focus omega) | (with_reducible apply rd_k; focus omega) | with_reducible exact rd_e (by omega)); first | done | assumption | rfl) ?_
      first | with_reducible refine J_icmp_ne_n qX4_writeOut_27 (by omega) (by omega) (fun c2 => ?_) (fun c2 => ?_) | refine J_icmp_ne qX4_writeOut_27 (fun c2 => ?_) (fun c2 => ?_)
      · refine J_aload_n (i := 0) qX4_writeOut_49 rfl rfl ?_
        refine J_ldcS (tx := "range") (i := 1) qX4_writeOut_50 (by decide +kernel) ?_
        refine J_vv1 qX4_writeOut_52 kX4_33 (by assumption) (w_word hW0 hA (by omega) (i := 1) (by omega)) (Nat.le_of_ble_eq_true rfl) (fun ν1 hr => ?_)
        obtain ⟨g1, g2⟩ := hr
        obtain ⟨e1, e2, e3, e4⟩ := (hcf (hF.tr g2)).2.2 k c1
        refine J_aload_n (i := 0) qX4_writeOut_55 rfl rfl ?_
        refine J_aload_n (i := 1) qX4_writeOut_56 rfl rfl ?_
        refine J_getR qX4_writeOut_57 fX4_25 (by assumption) (by assumption) ?_
        refine J_iload_n (i := 2) qX4_writeOut_60 rfl rfl ?_
        refine J_ialde qX4_writeOut_61 (by assumption) rfl (by omega) (by (repeat first | with_reducible exact wI_e _ _ _ _ | (with_reducible apply rd_s; focus omega) | (with_reducible apply rd_c; focus omega) | (with_reducible apply rd_k; focus omega) | with_reducible exact rd_e (by omega)); first | done | assumption | rfl) ?_
        refine J_vv1 qX4_writeOut_62 kX4_37 (by assumption) (w_number hW0 g1 (by rw [List.length_append]; omega) _) (Nat.le_of_ble_eq_true rfl) (fun ν2 hr => ?_)
        obtain ⟨g3, g4⟩ := hr
        obtain ⟨e1, e2, e3, e4⟩ := (hcf ((hF.tr g2).tr g4)).2.2 k c1
        refine J_aload_n (i := 0) qX4_writeOut_65 rfl rfl ?_
        refine J_aload_n (i := 1) qX4_writeOut_66 rfl rfl ?_
        refine J_getR qX4_writeOut_67 fX4_28 (by assumption) (by assumption) ?_
        refine J_iload_n (i := 2) qX4_writeOut_70 rfl rfl ?_
        refine J_ialde qX4_writeOut_71 (by assumption) rfl (by omega) (by (repeat first | with_reducible exact wI_e _ _ _ _ | (with_reducible apply rd_s; focus omega) | (with_reducible apply rd_c; focus omega) | (with_reducible apply rd_k; focus omega) | with_reducible exact rd_e (by omega)); first | done | assumption | rfl) ?_
        refine J_vv1 qX4_writeOut_72 kX4_37 (by assumption) (w_number hW0 g3 (by rw [List.length_append, List.length_append]; omega) _) (Nat.le_of_ble_eq_true rfl) (fun ν3 hr => ?_)
        obtain ⟨g5, g6⟩ := hr
        refine tail _ ν3 (by simp only [List.length_append]; omega) (((hF.tr g2).tr g4).tr g6) g5 ?_
        rw [outA_succ]
        unfold casB
        rw [if_neg c2]
        simp only [List.append_assoc]
      · refine J_aload_n (i := 0) qX4_writeOut_30 rfl rfl ?_
        refine J_ldcS (tx := "case") (i := 3) qX4_writeOut_31 (by decide +kernel) ?_
        refine J_vv1 qX4_writeOut_33 kX4_33 (by assumption) (w_word hW0 hA (by omega) (i := 3) (by omega)) (Nat.le_of_ble_eq_true rfl) (fun ν1 hr => ?_)
        obtain ⟨g1, g2⟩ := hr
        obtain ⟨e1, e2, e3, e4⟩ := (hcf (hF.tr g2)).2.2 k c1
        refine J_aload_n (i := 0) qX4_writeOut_36 rfl rfl ?_
        refine J_aload_n (i := 1) qX4_writeOut_37 rfl rfl ?_
        refine J_getR qX4_writeOut_38 fX4_25 (by assumption) (by assumption) ?_
        refine J_iload_n (i := 2) qX4_writeOut_41 rfl rfl ?_
        refine J_ialde qX4_writeOut_42 (by assumption) rfl (by omega) (by (repeat first | with_reducible exact wI_e _ _ _ _ | (with_reducible apply rd_s; focus omega) | (with_reducible apply rd_c; focus omega) | (with_reducible apply rd_k; focus omega) | with_reducible exact rd_e (by omega)); first | done | assumption | rfl) ?_
        refine J_vv1 qX4_writeOut_43 kX4_37 (by assumption) (w_number hW0 g1 (by rw [List.length_append]; omega) _) (Nat.le_of_ble_eq_true rfl) (fun ν2 hr => ?_)
        obtain ⟨g3, g4⟩ := hr
        refine J_goto qX4_writeOut_46 ?_
        refine tail _ ν2 (by simp only [List.length_append]; omega) ((hF.tr g2).tr g4) g3 ?_
        rw [outA_succ]
        unfold casB
        rw [if_pos c2]
        simp only [List.append_assoc]
  exact H 0 (Nat.zero_le _) _ (Fr.w Fr.rf (Or.inl ⟨rfl, rfl⟩)) ⟨wI_e _ _ _ _, fun k hk => absurd hk (Nat.not_lt_zero k)⟩
end WR
