/-! READER: numbers, one token on -/
/-- the number that the Reader holds behind m figures: it grows no more once it is too much -/
def gN (T : List Int32) (a : Nat) : Nat → Nat
  | 0 => 0
  | m + 1 => if gN T a m < 1099511627776 then 10 * gN T a m + dgt T (a + m) else gN T a m
theorem gN_yes {T : List Int32} {a m : Nat} (h : gN T a m < 1099511627776) : gN T a (m + 1) = 10 * gN T a m + dgt T (a + m) := if_pos h
theorem gN_no {T : List Int32} {a m : Nat} (h : ¬ gN T a m < 1099511627776) : gN T a (m + 1) = gN T a m := if_neg h
theorem dgt_le (T : List Int32) (k : Nat) : dgt T k ≤ 2147483648 := by
  have h := Int32.toInt_lt (bt T k)
  unfold dgt
  omega
theorem gN_le (T : List Int32) (a : Nat) : ∀ m, gN T a m ≤ 20000000000000
  | 0 => Nat.zero_le _
  | m + 1 => by
    have h := gN_le T a m
    have h2 := dgt_le T (a + m)
    by_cases c : gN T a m < 1099511627776
    · rw [gN_yes c]; omega
    · rw [gN_no c]; omega
/-- as long as it isn't too much it is the number that is told -/
theorem gN_v (T : List Int32) (a : Nat) : ∀ m, gN T a m ≤ vN T a m ∧ (gN T a m < 1099511627776 → gN T a m = vN T a m)
  | 0 => ⟨Nat.le_refl _, fun _ => rfl⟩
  | m + 1 => by
    have h := gN_v T a m
    rw [vN_succ]
    by_cases c : gN T a m < 1099511627776
    · rw [gN_yes c, h.2 c]; exact ⟨Nat.le_refl _, fun _ => rfl⟩
    · rw [gN_no c]; exact ⟨by omega, fun z => absurd z c⟩
def mgF (T : List Int32) (s : Nat) : Nat := gN T (figA T s) (figE T s - figA T s)
def numL (T : List Int32) (s : Nat) : Int64 := if negB T s then -(lN (mgF T s)) else lN (mgF T s)
theorem fig_is {b : Int32} (h1 : nI 48 ≤ b) (h2 : b ≤ nI 57) : b = nI (48 + (b.toInt.toNat - 48)) ∧ b.toInt.toNat - 48 < 10 := by
  rw [Int32.le_iff_toInt_le, nI_toInt (by omega)] at h1 h2
  refine ⟨i32_inj ?_, by omega⟩
  rw [nI_toInt (by omega)]
  omega
section RD
variable {G : Gm} {μ : Mm} {q d p : Nat} {T : List Int32}
theorem r_number (hR : IsRd G q) (h : AbR μ q T p) (hp : p < T.length) : Sv mX2_stepOverNumber (d) [.ref q, .int (b2i (negB T p))] G μ (fun μ' => AbR μ' q T (figE T p) ∧ μ'.1 q 3 = nI (if figA T p < figE T p then 2 else 4) ∧ μ'.1 q 4 = μ.1 q 4 ∧ μ'.2 q 5 = numL T p ∧ FrR q μ μ') := by
  obtain ⟨hO, r0, a1⟩ := hR
  have h120 := h.2.1
  refine Sv_of (ls := [.ref q, .int (b2i (negB T p)), .null]) (by decide +kernel) (Nat.le_of_ble_eq_true rfl) rfl ?_
  have hA1 : figA T p ≤ T.length := by unfold figA; split <;> omega
  have go : ∀ ν : Mm, FrR q μ ν → AbR ν q T (figA T p) → ν.1 q 4 = μ.1 q 4 → J mX2_stepOverNumber (d) (0, 0) s0 (Kv G (fun μ' => AbR μ' q T (figE T p) ∧ μ'.1 q 3 = nI (if figA T p < figE T p then 2 else 4) ∧ μ'.1 q 4 = μ.1 q 4 ∧ μ'.2 q 5 = numL T p ∧ FrR q μ μ')) (0, 0) 14 [.ref q, .int (b2i (negB T p)), .null] [] (G, ν) := by
    intro ν hF hA h4
    obtain ⟨s1, s2, s3, s4, s5⟩ := id hA
    refine J_aload_n (i := 0) qX2_stepOverNumber_14 rfl rfl ?_
    refine J_getIe qX2_stepOverNumber_15 fX2_19 (by assumption) (by (repeat first | with_reducible exact wI_e _ _ _ _ | (with_reducible apply rd_s; focus omega) | (with_reducible apply rd_c; focus omega) | (with_reducible apply rd_k; focus omega) | with_reducible exact rd_e (by omega)); first | done | assumption | rfl) ?_
    refine J_ist2 qX2_stepOverNumber_18 (Nat.le_of_ble_eq_true rfl) rfl ?_
    refine J_aload_n (i := 0) qX2_stepOverNumber_19 rfl rfl ?_
    refine J_pushL qX2_stepOverNumber_20 ?_
    refine J_putL qX2_stepOverNumber_21 fX2_28p (by assumption) rfl rfl ?_
    have H : ∀ m, m ≤ T.length - figA T p → ∀ ν : Mm, FrR q μ ν → AbR ν q T (figA T p + m) → ν.1 q 4 = μ.1 q 4 → ν.2 q 5 = lN (gN T (figA T p) m) → figE T p = overF T isFig (figA T p + m) → J mX2_stepOverNumber (d) (0, 0) s0 (Kv G (fun μ' => AbR μ' q T (figE T p) ∧ μ'.1 q 3 = nI (if figA T p < figE T p then 2 else 4) ∧ μ'.1 q 4 = μ.1 q 4 ∧ μ'.2 q 5 = numL T p ∧ FrR q μ μ')) (0, 0) 24 [.ref q, .int (b2i (negB T p)), .int (nI (figA T p))] [] (G, ν) := by
      refine ind_up (fun m hm ih ν hF hA h4 h5 hE => ?_)
      obtain ⟨s1, s2, s3, s4, s5⟩ := id hA
      have stop : isFig T (figA T p + m) = false → J mX2_stepOverNumber (d) (0, 0) s0 (Kv G (fun μ' => AbR μ' q T (figE T p) ∧ μ'.1 q 3 = nI (if figA T p < figE T p then 2 else 4) ∧ μ'.1 q 4 = μ.1 q 4 ∧ μ'.2 q 5 = numL T p ∧ FrR q μ μ')) (0, 0) 113 [.ref q, .int (b2i (negB T p)), .int (nI (figA T p))] [] (G, ν) := fun hno => by
        have hE2 : figE T p = figA T p + m := by rw [hE, over_no hno]
        have hmag : mgF T p = gN T (figA T p) m := by unfold mgF; rw [hE2, Nat.add_sub_cancel_left]
        have last : ∀ ν' : Mm, FrR q ν ν' → ν'.1 q 2 = nI (figA T p + m) → ν'.1 q 4 = ν.1 q 4 → ν'.1 q 3 = nI (if figA T p < figE T p then 2 else 4) → ν'.2 q 5 = ν.2 q 5 → J mX2_stepOverNumber (d) (0, 0) s0 (Kv G (fun μ' => AbR μ' q T (figE T p) ∧ μ'.1 q 3 = nI (if figA T p < figE T p then 2 else 4) ∧ μ'.1 q 4 = μ.1 q 4 ∧ μ'.2 q 5 = numL T p ∧ FrR q μ μ')) (0, 0) 130 [.ref q, .int (b2i (negB T p)), .int (nI (figA T p))] [] (G, ν') := by
          intro ν' hF' g2 g4 g3 g5
          have h5' := g5.trans h5
          refine J_iload_n (i := 1) qX2_stepOverNumber_130 rfl rfl ?_
          cases hng : negB T p with
          | false =>
            refine J_if_eq qX2_stepOverNumber_131 (fun c => ?_) (fun c => absurd b2i_f0 c)
            refine Jv_ret qX2_stepOverNumber_143 ?_
            refine ⟨?_, g3, g4.trans h4, ?_, hF.tr hF'⟩
            · rw [hE2]; exact hA.place hF' g2 s4
            · unfold numL; rw [hng, hmag]; exact h5'
          | true =>
            refine J_if_eq qX2_stepOverNumber_131 (fun c => absurd c b2i_t0) (fun c => ?_)
            refine J_aload_n (i := 0) qX2_stepOverNumber_134 rfl rfl ?_
            refine J_aload_n (i := 0) qX2_stepOverNumber_135 rfl rfl ?_
            refine J_getLe qX2_stepOverNumber_136 fX2_28 (by assumption) (by (repeat first | with_reducible exact wL_e _ _ _ _ | with_reducible apply rdl_i | (with_reducible apply rdl_s; focus omega) | (with_reducible apply rdl_k; focus omega)); first | done | assumption | rfl) ?_
            refine J_lneg qX2_stepOverNumber_139 ?_
            refine J_putL qX2_stepOverNumber_140 fX2_28p (by assumption) rfl rfl ?_
            refine Jv_ret qX2_stepOverNumber_143 ?_
            refine ⟨?_, g3, g4.trans h4, ?_, (hF.tr hF').l⟩
            · rw [hE2]; exact hA.place hF'.l g2 s4
            · unfold numL; rw [hng, hmag]; exact wL_e _ _ _ _
        refine J_aload_n (i := 0) qX2_stepOverNumber_113 rfl rfl ?_
        refine J_aload_n (i := 0) qX2_stepOverNumber_114 rfl rfl ?_
        refine J_getIe qX2_stepOverNumber_115 fX2_19 (by assumption) (by (repeat first | with_reducible exact wI_e _ _ _ _ | (with_reducible apply rd_s; focus omega) | (with_reducible apply rd_c; focus omega) | (with_reducible apply rd_k; focus omega) | with_reducible exact rd_e (by omega)); first | done | assumption | rfl) ?_
        refine J_iload_n (i := 2) qX2_stepOverNumber_118 rfl rfl ?_
        first | with_reducible refine J_icmp_le_n qX2_stepOverNumber_119 (by omega) (by omega) (fun c5 => ?_) (fun c5 => ?_) | refine J_icmp_le qX2_stepOverNumber_119 (fun c5 => ?_) (fun c5 => ?_)
        · refine J_pushI qX2_stepOverNumber_126 ?_
          refine J_putI qX2_stepOverNumber_127 fX2_22p (by assumption) rfl rfl ?_
          refine last _ (FrR.rf.w (by omega)) ?_ ?_ ?_ rfl
          · rw [wI_n (by omega)]; exact s3
          · exact wI_n (by omega)
          · rw [wI_e, if_neg (by omega)]
        · refine J_pushI qX2_stepOverNumber_122 ?_
          refine J_goto qX2_stepOverNumber_123 ?_
          refine J_putI qX2_stepOverNumber_127 fX2_22p (by assumption) rfl rfl ?_
          refine last _ (FrR.rf.w (by omega)) ?_ ?_ ?_ rfl
          · rw [wI_n (by omega)]; exact s3
          · exact wI_n (by omega)
          · rw [wI_e, if_pos (by omega)]
      refine J_aload_n (i := 0) qX2_stepOverNumber_24 rfl rfl ?_
      refine J_getIe qX2_stepOverNumber_25 fX2_19 (by assumption) (by (repeat first | with_reducible exact wI_e _ _ _ _ | (with_reducible apply rd_s; focus omega) | (with_reducible apply rd_c; focus omega) | (with_reducible apply rd_k; focus omega) | with_reducible exact rd_e (by omega)); first | done | assumption | rfl) ?_
      refine J_aload_n (i := 0) qX2_stepOverNumber_28 rfl rfl ?_
      refine J_getIe qX2_stepOverNumber_29 fX2_15 (by assumption) (by (repeat first | with_reducible exact wI_e _ _ _ _ | (with_reducible apply rd_s; focus omega) | (with_reducible apply rd_c; focus omega) | (with_reducible apply rd_k; focus omega) | with_reducible exact rd_e (by omega)); first | done | assumption | rfl) ?_
      first | with_reducible refine J_icmp_ge_n qX2_stepOverNumber_32 (by omega) (by omega) (fun c1 => ?_) (fun c1 => ?_) | refine J_icmp_ge qX2_stepOverNumber_32 (fun c1 => ?_) (fun c1 => ?_)
      · exact stop (decide_eq_false (fun z => by omega))
      · have e := s5 (figA T p + m) c1
        refine J_aload_n (i := 0) qX2_stepOverNumber_35 rfl rfl ?_
        refine J_getR qX2_stepOverNumber_36 fX2_9 (by assumption) (by assumption) ?_
        refine J_aload_n (i := 0) qX2_stepOverNumber_39 rfl rfl ?_
        refine J_getIe qX2_stepOverNumber_40 fX2_19 (by assumption) (by (repeat first | with_reducible exact wI_e _ _ _ _ | (with_reducible apply rd_s; focus omega) | (with_reducible apply rd_c; focus omega) | (with_reducible apply rd_k; focus omega) | with_reducible exact rd_e (by omega)); first | done | assumption | rfl) ?_
        refine J_ialde qX2_stepOverNumber_43 (by assumption) rfl (by omega) (by (repeat first | with_reducible exact wI_e _ _ _ _ | (with_reducible apply rd_s; focus omega) | (with_reducible apply rd_c; focus omega) | (with_reducible apply rd_k; focus omega) | with_reducible exact rd_e (by omega)); first | done | assumption | rfl) ?_
        refine J_pushI qX2_stepOverNumber_44 ?_
        first | with_reducible refine J_icmp_lt_n qX2_stepOverNumber_46 (by omega) (by omega) (fun c2 => ?_) (fun c2 => ?_) | refine J_icmp_lt qX2_stepOverNumber_46 (fun c2 => ?_) (fun c2 => ?_)
        · exact stop (decide_eq_false (fun z => absurd z.2.1 (Int32.not_le.mpr c2)))
        · refine J_aload_n (i := 0) qX2_stepOverNumber_49 rfl rfl ?_
          refine J_getR qX2_stepOverNumber_50 fX2_9 (by assumption) (by assumption) ?_
          refine J_aload_n (i := 0) qX2_stepOverNumber_53 rfl rfl ?_
          refine J_getIe qX2_stepOverNumber_54 fX2_19 (by assumption) (by (repeat first | with_reducible exact wI_e _ _ _ _ | (with_reducible apply rd_s; focus omega) | (with_reducible apply rd_c; focus omega) | (with_reducible apply rd_k; focus omega) | with_reducible exact rd_e (by omega)); first | done | assumption | rfl) ?_
          refine J_ialde qX2_stepOverNumber_57 (by assumption) rfl (by omega) (by (repeat first | with_reducible exact wI_e _ _ _ _ | (with_reducible apply rd_s; focus omega) | (with_reducible apply rd_c; focus omega) | (with_reducible apply rd_k; focus omega) | with_reducible exact rd_e (by omega)); first | done | assumption | rfl) ?_
          refine J_pushI qX2_stepOverNumber_58 ?_
          first | with_reducible refine J_icmp_gt_n qX2_stepOverNumber_60 (by omega) (by omega) (fun c3 => ?_) (fun c3 => ?_) | refine J_icmp_gt qX2_stepOverNumber_60 (fun c3 => ?_) (fun c3 => ?_)
          · exact stop (decide_eq_false (fun z => absurd z.2.2 (Int32.not_le.mpr c3)))
          · have hy : isFig T (figA T p + m) = true := decide_eq_true ⟨c1, i32_nlt c2, i32_nlt c3⟩
            obtain ⟨f1, f2⟩ := fig_is (i32_nlt c2) (i32_nlt c3)
            have e' : ν.1 (q + 1) (figA T p + m) = nI (48 + dgt T (figA T p + m)) := e.trans f1
            have f2 : dgt T (figA T p + m) < 10 := f2
            clear e f1
            have cl := gN_le T (figA T p) m
            refine J_aload_n (i := 0) qX2_stepOverNumber_63 rfl rfl ?_
            refine J_getLe qX2_stepOverNumber_64 fX2_28 (by assumption) (by (repeat first | with_reducible exact wL_e _ _ _ _ | with_reducible apply rdl_i | (with_reducible apply rdl_s; focus omega) | (with_reducible apply rdl_k; focus omega)); first | done | assumption | rfl) ?_
            refine J_pushL qX2_stepOverNumber_67 ?_
            refine J_lif_ge qX2_stepOverNumber_70 qX2_stepOverNumber_71 (fun c4 => ?_) (fun c4 => ?_)
            · have c4 : ¬ gN T (figA T p) m < 1099511627776 := fun z => absurd ((pk_lLT (by omega) (by omega)).mpr z) (Int64.not_lt.mpr c4)
              refine J_aload_n (i := 0) qX2_stepOverNumber_100 rfl rfl ?_
              refine J_dup qX2_stepOverNumber_101 rfl ?_
              refine J_getIe qX2_stepOverNumber_102 fX2_19 (by assumption) (by (repeat first | with_reducible exact wI_e _ _ _ _ | (with_reducible apply rd_s; focus omega) | (with_reducible apply rd_c; focus omega) | (with_reducible apply rd_k; focus omega) | with_reducible exact rd_e (by omega)); first | done | assumption | rfl) ?_
              refine J_pushI qX2_stepOverNumber_105 ?_
              first | with_reducible refine J_iadd_n qX2_stepOverNumber_106 ?_ | refine J_iadd qX2_stepOverNumber_106 ?_
              refine J_putI qX2_stepOverNumber_107 fX2_19p (by assumption) rfl rfl ?_
              refine J_goto qX2_stepOverNumber_110 ?_
              refine ih (by omega) _ (hF.w (by omega)) (hA.place (FrR.rf.w (by omega)) (wI_e _ _ _ _) (by omega)) ?_ ?_ (by rw [hE, over_yes s4 hy]; rfl)
              · rw [wI_n (by omega)]; exact h4
              · rw [gN_no c4]; exact h5
            · have c4 : gN T (figA T p) m < 1099511627776 := (pk_lLT (by omega) (by omega)).mp (Int64.not_le.mp c4)
              refine J_aload_n (i := 0) qX2_stepOverNumber_74 rfl rfl ?_
              refine J_pushL qX2_stepOverNumber_75 ?_
              refine J_aload_n (i := 0) qX2_stepOverNumber_78 rfl rfl ?_
              refine J_getLe qX2_stepOverNumber_79 fX2_28 (by assumption) (by (repeat first | with_reducible exact wL_e _ _ _ _ | with_reducible apply rdl_i | (with_reducible apply rdl_s; focus omega) | (with_reducible apply rdl_k; focus omega)); first | done | assumption | rfl) ?_
              refine J_lmul qX2_stepOverNumber_82 ?_
              refine J_aload_n (i := 0) qX2_stepOverNumber_83 rfl rfl ?_
              refine J_getR qX2_stepOverNumber_84 fX2_9 (by assumption) (by assumption) ?_
              refine J_aload_n (i := 0) qX2_stepOverNumber_87 rfl rfl ?_
              refine J_getIe qX2_stepOverNumber_88 fX2_19 (by assumption) (by (repeat first | with_reducible exact wI_e _ _ _ _ | (with_reducible apply rd_s; focus omega) | (with_reducible apply rd_c; focus omega) | (with_reducible apply rd_k; focus omega) | with_reducible exact rd_e (by omega)); first | done | assumption | rfl) ?_
              refine J_ialde qX2_stepOverNumber_91 (by assumption) rfl (by omega) (by (repeat first | with_reducible exact wI_e _ _ _ _ | (with_reducible apply rd_s; focus omega) | (with_reducible apply rd_c; focus omega) | (with_reducible apply rd_k; focus omega) | with_reducible exact rd_e (by omega)); first | done | assumption | rfl) ?_
              refine J_pushI qX2_stepOverNumber_92 ?_
              first | with_reducible refine J_isub_n qX2_stepOverNumber_94 (by omega) ?_ | refine J_isub qX2_stepOverNumber_94 ?_
              refine J_i2l qX2_stepOverNumber_95 ?_
              rw [nI_l (by omega), lN_mul, show 48 + dgt T (figA T p + m) - 48 = dgt T (figA T p + m) by omega]
              refine J_ladd qX2_stepOverNumber_96 ?_
              rw [lN_add, ← gN_yes c4]
              refine J_putL qX2_stepOverNumber_97 fX2_28p (by assumption) rfl rfl ?_
              refine J_aload_n (i := 0) qX2_stepOverNumber_100 rfl rfl ?_
              refine J_dup qX2_stepOverNumber_101 rfl ?_
              refine J_getIe qX2_stepOverNumber_102 fX2_19 (by assumption) (by (repeat first | with_reducible exact wI_e _ _ _ _ | (with_reducible apply rd_s; focus omega) | (with_reducible apply rd_c; focus omega) | (with_reducible apply rd_k; focus omega) | with_reducible exact rd_e (by omega)); first | done | assumption | rfl) ?_
              refine J_pushI qX2_stepOverNumber_105 ?_
              first | with_reducible refine J_iadd_n qX2_stepOverNumber_106 ?_ | refine J_iadd qX2_stepOverNumber_106 ?_
              refine J_putI qX2_stepOverNumber_107 fX2_19p (by assumption) rfl rfl ?_
              refine J_goto qX2_stepOverNumber_110 ?_
              refine ih (by omega) _ ((hF.l).w (by omega)) (hA.place ((FrR.rf.l).w (by omega)) (wI_e _ _ _ _) (by omega)) ?_ ?_ (by rw [hE, over_yes s4 hy]; rfl)
              · rw [wI_n (by omega)]; exact h4
              · exact wL_e _ _ _ _
    exact H 0 (Nat.zero_le _) _ hF.l (hA.place FrR.rf.l s3 s4) h4 (wL_e _ _ _ _) rfl
  refine J_iload_n (i := 1) qX2_stepOverNumber_0 rfl rfl ?_
  cases hng : negB T p with
  | false =>
    have ea : figA T p = p := by unfold figA; rw [hng]; rfl
    refine J_if_eq qX2_stepOverNumber_1 (fun c => ?_) (fun c => absurd b2i_f0 c)
    rw [hng] at go
    exact go μ FrR.rf (by rw [ea]; exact h) rfl
  | true =>
    have ea : figA T p = p + 1 := by unfold figA; rw [hng]; rfl
    have s3 := h.2.2.1
    refine J_if_eq qX2_stepOverNumber_1 (fun c => absurd c b2i_t0) (fun c => ?_)
    rw [hng] at go
    refine J_aload_n (i := 0) qX2_stepOverNumber_4 rfl rfl ?_
    refine J_dup qX2_stepOverNumber_5 rfl ?_
    refine J_getIe qX2_stepOverNumber_6 fX2_19 (by assumption) (by (repeat first | with_reducible exact wI_e _ _ _ _ | (with_reducible apply rd_s; focus omega) | (with_reducible apply rd_c; focus omega) | (with_reducible apply rd_k; focus omega) | with_reducible exact rd_e (by omega)); first | done | assumption | rfl) ?_
    refine J_pushI qX2_stepOverNumber_9 ?_
    first | with_reducible refine J_iadd_n qX2_stepOverNumber_10 ?_ | refine J_iadd qX2_stepOverNumber_10 ?_
    refine J_putI qX2_stepOverNumber_11 fX2_19p (by assumption) rfl rfl ?_
    exact go _ (FrR.rf.w (by omega)) (by rw [ea]; exact h.place (FrR.rf.w (by omega)) (wI_e _ _ _ _) (by omega)) (wI_n (by omega))
theorem r_step (hR : IsRd G q) (h : AbR μ q T p) : Sv mX2_step (d+1) [.ref q] G μ (fun μ' => AbR μ' q T (tkE T p) ∧ μ'.1 q 3 = nI (tkK T p) ∧ μ'.1 q 4 = nI (tkS T p) ∧ (tkK T p = 2 → μ'.2 q 5 = numL T (tkS T p)) ∧ FrR q μ μ') := by
  have hR0 := hR
  obtain ⟨hO, r0, a1⟩ := hR
  have h120 := h.2.1
  have hS := tkS_le h.2.2.2.1
  refine Sv_of (ls := [.ref q, .null]) (by decide +kernel) (Nat.le_of_ble_eq_true rfl) rfl ?_
  have body : ∀ ν : Mm, FrR q μ ν → AbR ν q T (tkS T p) → J mX2_step (d+1) (0, 0) s0 (Kv G (fun μ' => AbR μ' q T (tkE T p) ∧ μ'.1 q 3 = nI (tkK T p) ∧ μ'.1 q 4 = nI (tkS T p) ∧ (tkK T p = 2 → μ'.2 q 5 = numL T (tkS T p)) ∧ FrR q μ μ')) (0, 0) 38 [.ref q, .null] [] (G, ν) := by
    intro ν hF hA
    obtain ⟨s1, s2, s3, s4, s5⟩ := id hA
    have hF1 : FrR q μ (wI ν q 4 (nI (tkS T p))) := hF.w (by omega)
    have hA1 : AbR (wI ν q 4 (nI (tkS T p))) q T (tkS T p) := hA.place (FrR.rf.w (by omega)) (by rw [wI_n (by omega)]; exact s3) s4
    refine J_aload_n (i := 0) qX2_step_38 rfl rfl ?_
    refine J_aload_n (i := 0) qX2_step_39 rfl rfl ?_
    refine J_getIe qX2_step_40 fX2_19 (by assumption) (by (repeat first | with_reducible exact wI_e _ _ _ _ | (with_reducible apply rd_s; focus omega) | (with_reducible apply rd_c; focus omega) | (with_reducible apply rd_k; focus omega) | with_reducible exact rd_e (by omega)); first | done | assumption | rfl) ?_
    refine J_putI qX2_step_43 fX2_25p (by assumption) rfl rfl ?_
    refine J_aload_n (i := 0) qX2_step_46 rfl rfl ?_
    refine J_getIe qX2_step_47 fX2_19 (by assumption) (by (repeat first | with_reducible exact wI_e _ _ _ _ | (with_reducible apply rd_s; focus omega) | (with_reducible apply rd_c; focus omega) | (with_reducible apply rd_k; focus omega) | with_reducible exact rd_e (by omega)); first | done | assumption | rfl) ?_
    refine J_aload_n (i := 0) qX2_step_50 rfl rfl ?_
    refine J_getIe qX2_step_51 fX2_15 (by assumption) (by (repeat first | with_reducible exact wI_e _ _ _ _ | (with_reducible apply rd_s; focus omega) | (with_reducible apply rd_c; focus omega) | (with_reducible apply rd_k; focus omega) | with_reducible exact rd_e (by omega)); first | done | assumption | rfl) ?_
    first | with_reducible refine J_icmp_lt_n qX2_step_54 (by omega) (by omega) (fun c1 => ?_) (fun c1 => ?_) | refine J_icmp_lt qX2_step_54 (fun c1 => ?_) (fun c1 => ?_)
    · have e := s5 (tkS T p) c1
      refine J_aload_n (i := 0) qX2_step_63 rfl rfl ?_
      refine J_getR qX2_step_64 fX2_9 (by assumption) (by assumption) ?_
      refine J_aload_n (i := 0) qX2_step_67 rfl rfl ?_
      refine J_getIe qX2_step_68 fX2_19 (by assumption) (by (repeat first | with_reducible exact wI_e _ _ _ _ | (with_reducible apply rd_s; focus omega) | (with_reducible apply rd_c; focus omega) | (with_reducible apply rd_k; focus omega) | with_reducible exact rd_e (by omega)); first | done | assumption | rfl) ?_
      refine J_ialde qX2_step_71 (by assumption) rfl (by omega) (by (repeat first | with_reducible exact wI_e _ _ _ _ | (with_reducible apply rd_s; focus omega) | (with_reducible apply rd_c; focus omega) | (with_reducible apply rd_k; focus omega) | with_reducible exact rd_e (by omega)); first | done | assumption | rfl) ?_
      refine J_ist1 qX2_step_72 (Nat.le_of_ble_eq_true rfl) rfl ?_
      refine J_iload_n (i := 1) qX2_step_73 rfl rfl ?_
      refine J_pushI qX2_step_74 ?_
      have nolet : isLet T (tkS T p) = false → J mX2_step (d+1) (0, 0) s0 (Kv G (fun μ' => AbR μ' q T (tkE T p) ∧ μ'.1 q 3 = nI (tkK T p) ∧ μ'.1 q 4 = nI (tkS T p) ∧ (tkK T p = 2 → μ'.2 q 5 = numL T (tkS T p)) ∧ FrR q μ μ')) (0, 0) 92 [.ref q, .int (bt T (tkS T p))] [] (G, wI ν q 4 (nI (tkS T p))) := by
        intro hl
        have other : (negB T (tkS T p) || isFig T (tkS T p)) = false → J mX2_step (d+1) (0, 0) s0 (Kv G (fun μ' => AbR μ' q T (tkE T p) ∧ μ'.1 q 3 = nI (tkK T p) ∧ μ'.1 q 4 = nI (tkS T p) ∧ (tkK T p = 2 → μ'.2 q 5 = numL T (tkS T p)) ∧ FrR q μ μ')) (0, 0) 128 [.ref q, .int (bt T (tkS T p))] [] (G, wI ν q 4 (nI (tkS T p))) := by
          intro hnf
          have eE : tkE T p = tkS T p + 1 := by unfold tkE enA2; rw [if_neg (by omega), hl, hnf]; rfl
          have eK : tkK T p = if bt T (tkS T p) = nI 59 then 3 else 4 := by unfold tkK kdA; rw [if_neg (by omega), hl, hnf]; rfl
          have fin : ∀ x : Nat, x = tkK T p → x ≠ 2 → J mX2_step (d+1) (0, 0) s0 (Kv G (fun μ' => AbR μ' q T (tkE T p) ∧ μ'.1 q 3 = nI (tkK T p) ∧ μ'.1 q 4 = nI (tkS T p) ∧ (tkK T p = 2 → μ'.2 q 5 = numL T (tkS T p)) ∧ FrR q μ μ')) (0, 0) 140 [.ref q, .int (bt T (tkS T p))] [.int (nI x), .ref q] (G, wI ν q 4 (nI (tkS T p))) := by
            intro x hx hx2
            refine J_putI qX2_step_140 fX2_22p (by assumption) rfl rfl ?_
            refine J_aload_n (i := 0) qX2_step_143 rfl rfl ?_
            refine J_dup qX2_step_144 rfl ?_
            refine J_getIe qX2_step_145 fX2_19 (by assumption) (by (repeat first | with_reducible exact wI_e _ _ _ _ | (with_reducible apply rd_s; focus omega) | (with_reducible apply rd_c; focus omega) | (with_reducible apply rd_k; focus omega) | with_reducible exact rd_e (by omega)); first | done | assumption | rfl) ?_
            refine J_pushI qX2_step_148 ?_
            first | with_reducible refine J_iadd_n qX2_step_149 ?_ | refine J_iadd qX2_step_149 ?_
            refine J_putI qX2_step_150 fX2_19p (by assumption) rfl rfl ?_
            refine Jv_ret qX2_step_153 ?_
            refine ⟨?_, ?_, ?_, fun z => absurd (hx.trans z) hx2, (hF1.w (by omega)).w (by omega)⟩
            · rw [eE]
              exact hA1.place ((FrR.rf.w (by omega)).w (by omega)) (wI_e _ _ _ _) (by omega)
            · rw [wI_n (by omega), wI_e, hx]
            · rw [wI_n (by omega), wI_n (by omega), wI_e]
          refine J_aload_n (i := 0) qX2_step_128 rfl rfl ?_
          refine J_iload_n (i := 1) qX2_step_129 rfl rfl ?_
          refine J_pushI qX2_step_130 ?_
          first | with_reducible refine J_icmp_ne_n qX2_step_132 (by omega) (by omega) (fun c7 => ?_) (fun c7 => ?_) | refine J_icmp_ne qX2_step_132 (fun c7 => ?_) (fun c7 => ?_)
          · refine J_pushI qX2_step_139 ?_
            exact fin 4 (by rw [eK, if_neg c7]) (by omega)
          · refine J_pushI qX2_step_135 ?_
            refine J_goto qX2_step_136 ?_
            exact fin 3 (by rw [eK, if_pos c7]) (by omega)
        have number : (negB T (tkS T p) || isFig T (tkS T p)) = true → J mX2_step (d+1) (0, 0) s0 (Kv G (fun μ' => AbR μ' q T (tkE T p) ∧ μ'.1 q 3 = nI (tkK T p) ∧ μ'.1 q 4 = nI (tkS T p) ∧ (tkK T p = 2 → μ'.2 q 5 = numL T (tkS T p)) ∧ FrR q μ μ')) (0, 0) 110 [.ref q, .int (bt T (tkS T p))] [] (G, wI ν q 4 (nI (tkS T p))) := by
          intro hnf
          have eE : tkE T p = figE T (tkS T p) := by unfold tkE enA2; rw [if_neg (by omega), hl, hnf]; rfl
          have eK : tkK T p = if figA T (tkS T p) < figE T (tkS T p) then 2 else 4 := by unfold tkK kdA; rw [if_neg (by omega), hl, hnf]; rfl
          have fin : J mX2_step (d+1) (0, 0) s0 (Kv G (fun μ' => AbR μ' q T (tkE T p) ∧ μ'.1 q 3 = nI (tkK T p) ∧ μ'.1 q 4 = nI (tkS T p) ∧ (tkK T p = 2 → μ'.2 q 5 = numL T (tkS T p)) ∧ FrR q μ μ')) (0, 0) 122 [.ref q, .int (bt T (tkS T p))] [.int (b2i (negB T (tkS T p))), .ref q] (G, wI ν q 4 (nI (tkS T p))) := by
            refine J_vv1 qX2_step_122 kX2_143 (by assumption) (r_number hR0 hA1 c1) (Nat.le_of_ble_eq_true rfl) (fun ν' hr => ?_)
            obtain ⟨g1, g2, g3, g4, g5⟩ := hr
            refine J_goto qX2_step_125 ?_
            refine Jv_ret qX2_step_153 ?_
            exact ⟨by rw [eE]; exact g1, by rw [eK]; exact g2, g3.trans (wI_e _ _ _ _), fun _ => g4, hF1.tr g5⟩
          refine J_aload_n (i := 0) qX2_step_110 rfl rfl ?_
          refine J_iload_n (i := 1) qX2_step_111 rfl rfl ?_
          refine J_pushI qX2_step_112 ?_
          first | with_reducible refine J_icmp_ne_n qX2_step_114 (by omega) (by omega) (fun c7 => ?_) (fun c7 => ?_) | refine J_icmp_ne qX2_step_114 (fun c7 => ?_) (fun c7 => ?_)
          · have hn : negB T (tkS T p) = false := decide_eq_false c7
            rw [hn] at fin
            refine J_pushI qX2_step_121 ?_
            exact fin
          · have hn : negB T (tkS T p) = true := decide_eq_true c7
            rw [hn] at fin
            refine J_pushI qX2_step_117 ?_
            refine J_goto qX2_step_118 ?_
            exact fin
        refine J_iload_n (i := 1) qX2_step_92 rfl rfl ?_
        refine J_pushI qX2_step_93 ?_
        first | with_reducible refine J_icmp_eq_n qX2_step_95 (by omega) (by omega) (fun c4 => ?_) (fun c4 => ?_) | refine J_icmp_eq qX2_step_95 (fun c4 => ?_) (fun c4 => ?_)
        · exact number (by rw [show negB T (tkS T p) = true from decide_eq_true c4]; rfl)
        · have hn : negB T (tkS T p) = false := decide_eq_false c4
          rw [hn] at number other
          refine J_iload_n (i := 1) qX2_step_98 rfl rfl ?_
          refine J_pushI qX2_step_99 ?_
          first | with_reducible refine J_icmp_lt_n qX2_step_101 (by omega) (by omega) (fun c5 => ?_) (fun c5 => ?_) | refine J_icmp_lt qX2_step_101 (fun c5 => ?_) (fun c5 => ?_)
          · exact other (decide_eq_false (fun z => absurd z.2.1 (Int32.not_le.mpr c5)))
          · refine J_iload_n (i := 1) qX2_step_104 rfl rfl ?_
            refine J_pushI qX2_step_105 ?_
            first | with_reducible refine J_icmp_gt_n qX2_step_107 (by omega) (by omega) (fun c6 => ?_) (fun c6 => ?_) | refine J_icmp_gt qX2_step_107 (fun c6 => ?_) (fun c6 => ?_)
            · exact other (decide_eq_false (fun z => absurd z.2.2 (Int32.not_le.mpr c6)))
            · exact number (decide_eq_true ⟨c1, i32_nlt c5, i32_nlt c6⟩)
      first | with_reducible refine J_icmp_lt_n qX2_step_76 (by omega) (by omega) (fun c2 => ?_) (fun c2 => ?_) | refine J_icmp_lt qX2_step_76 (fun c2 => ?_) (fun c2 => ?_)
      · exact nolet (decide_eq_false (fun z => absurd z.2.1 (Int32.not_le.mpr c2)))
      · refine J_iload_n (i := 1) qX2_step_79 rfl rfl ?_
        refine J_pushI qX2_step_80 ?_
        first | with_reducible refine J_icmp_gt_n qX2_step_82 (by omega) (by omega) (fun c3 => ?_) (fun c3 => ?_) | refine J_icmp_gt qX2_step_82 (fun c3 => ?_) (fun c3 => ?_)
        · exact nolet (decide_eq_false (fun z => absurd z.2.2 (Int32.not_le.mpr c3)))
        · have hl : isLet T (tkS T p) = true := decide_eq_true ⟨c1, i32_nlt c2, i32_nlt c3⟩
          have eE : tkE T p = overF T isLet (tkS T p) := by unfold tkE enA2; rw [if_neg (by omega), hl]; rfl
          have eK : tkK T p = 1 := by unfold tkK kdA; rw [if_neg (by omega), hl]; rfl
          refine J_aload_n (i := 0) qX2_step_85 rfl rfl ?_
          refine J_vv0 qX2_step_86 kX2_140 (by assumption) (r_word hR0 hA1) (Nat.le_of_ble_eq_true rfl) (fun ν' hr => ?_)
          obtain ⟨g1, g2, g3, g4⟩ := hr
          refine J_goto qX2_step_89 ?_
          refine Jv_ret qX2_step_153 ?_
          exact ⟨by rw [eE]; exact g1, by rw [eK]; exact g2, g3.trans (wI_e _ _ _ _), fun z => by omega, hF1.tr g4⟩
    · refine J_aload_n (i := 0) qX2_step_57 rfl rfl ?_
      refine J_pushI qX2_step_58 ?_
      refine J_putI qX2_step_59 fX2_22p (by assumption) rfl rfl ?_
      refine Jv_ret qX2_step_62 ?_
      have eE : tkE T p = tkS T p := by unfold tkE enA2; rw [if_pos c1]
      have eK : tkK T p = 0 := by unfold tkK kdA; rw [if_pos c1]
      refine ⟨?_, by rw [eK]; exact wI_e _ _ _ _, ?_, fun z => by omega, hF1.w (by omega)⟩
      · rw [eE]; exact hA1.place (FrR.rf.w (by omega)) (by rw [wI_n (by omega), wI_n (by omega)]; exact s3) s4
      · rw [wI_n (by omega), wI_e]
  have H : ∀ k, k ≤ T.length → ∀ ν : Mm, FrR q μ ν → AbR ν q T k → tkS T p = overF T isBlk k → J mX2_step (d+1) (0, 0) s0 (Kv G (fun μ' => AbR μ' q T (tkE T p) ∧ μ'.1 q 3 = nI (tkK T p) ∧ μ'.1 q 4 = nI (tkS T p) ∧ (tkK T p = 2 → μ'.2 q 5 = numL T (tkS T p)) ∧ FrR q μ μ')) (0, 0) 0 [.ref q, .null] [] (G, ν) := by
    refine ind_up (fun k hk ih ν hF hA hE => ?_)
    obtain ⟨s1, s2, s3, s4, s5⟩ := id hA
    have stop : isBlk T k = false → J mX2_step (d+1) (0, 0) s0 (Kv G (fun μ' => AbR μ' q T (tkE T p) ∧ μ'.1 q 3 = nI (tkK T p) ∧ μ'.1 q 4 = nI (tkS T p) ∧ (tkK T p = 2 → μ'.2 q 5 = numL T (tkS T p)) ∧ FrR q μ μ')) (0, 0) 38 [.ref q, .null] [] (G, ν) := fun hno => body ν hF (by rw [hE, over_no hno]; exact hA)
    refine J_aload_n (i := 0) qX2_step_0 rfl rfl ?_
    refine J_getIe qX2_step_1 fX2_19 (by assumption) (by (repeat first | with_reducible exact wI_e _ _ _ _ | (with_reducible apply rd_s; focus omega) | (with_reducible apply rd_c; focus omega) | (with_reducible apply rd_k; focus omega) | with_reducible exact rd_e (by omega)); first | done | assumption | rfl) ?_
    refine J_aload_n (i := 0) qX2_step_4 rfl rfl ?_
    refine J_getIe qX2_step_5 fX2_15 (by assumption) (by (repeat first | with_reducible exact wI_e _ _ _ _ | (with_reducible apply rd_s; focus omega) | (with_reducible apply rd_c; focus omega) | (with_reducible apply rd_k; focus omega) | with_reducible exact rd_e (by omega)); first | done | assumption | rfl) ?_
    first | with_reducible refine J_icmp_ge_n qX2_step_8 (by omega) (by omega) (fun c1 => ?_) (fun c1 => ?_) | refine J_icmp_ge qX2_step_8 (fun c1 => ?_) (fun c1 => ?_)
    · exact stop (decide_eq_false (fun z => by omega))
    · have e := s5 k c1
      refine J_aload_n (i := 0) qX2_step_11 rfl rfl ?_
      refine J_getR qX2_step_12 fX2_9 (by assumption) (by assumption) ?_
      refine J_aload_n (i := 0) qX2_step_15 rfl rfl ?_
      refine J_getIe qX2_step_16 fX2_19 (by assumption) (by (repeat first | with_reducible exact wI_e _ _ _ _ | (with_reducible apply rd_s; focus omega) | (with_reducible apply rd_c; focus omega) | (with_reducible apply rd_k; focus omega) | with_reducible exact rd_e (by omega)); first | done | assumption | rfl) ?_
      refine J_ialde qX2_step_19 (by assumption) rfl (by omega) (by (repeat first | with_reducible exact wI_e _ _ _ _ | (with_reducible apply rd_s; focus omega) | (with_reducible apply rd_c; focus omega) | (with_reducible apply rd_k; focus omega) | with_reducible exact rd_e (by omega)); first | done | assumption | rfl) ?_
      refine J_pushI qX2_step_20 ?_
      first | with_reducible refine J_icmp_ne_n qX2_step_22 (by omega) (by omega) (fun c2 => ?_) (fun c2 => ?_) | refine J_icmp_ne qX2_step_22 (fun c2 => ?_) (fun c2 => ?_)
      · exact stop (decide_eq_false (fun z => c2 z.2))
      · refine J_aload_n (i := 0) qX2_step_25 rfl rfl ?_
        refine J_dup qX2_step_26 rfl ?_
        refine J_getIe qX2_step_27 fX2_19 (by assumption) (by (repeat first | with_reducible exact wI_e _ _ _ _ | (with_reducible apply rd_s; focus omega) | (with_reducible apply rd_c; focus omega) | (with_reducible apply rd_k; focus omega) | with_reducible exact rd_e (by omega)); first | done | assumption | rfl) ?_
        refine J_pushI qX2_step_30 ?_
        first | with_reducible refine J_iadd_n qX2_step_31 ?_ | refine J_iadd qX2_step_31 ?_
        refine J_putI qX2_step_32 fX2_19p (by assumption) rfl rfl ?_
        refine J_goto qX2_step_35 ?_
        exact ih c1 _ (hF.w (by omega)) (hA.place (FrR.rf.w (by omega)) (wI_e _ _ _ _) c1) (by rw [hE, over_yes hk (decide_eq_true ⟨c1, c2⟩)])
  exact H p h.2.2.2.1 μ FrR.rf h rfl
end RD
