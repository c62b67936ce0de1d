/-! THE MODEL: run, mask, swing -/
theorem look_is {cs : List Cs} {x : Int32} {p : Nat} : ∀ f k, k ≤ p → p ≤ k + f → (∀ e, k < e → e ≤ p → ¬ x < (cg cs (pg (prtF cs true true) e).1).1) → (p = k + f ∨ x < (cg cs (pg (prtF cs true true) (p + 1)).1).1) → lookF cs true true x f k = p
  | 0, k, h1, h2, _, _ => by
    show k = p
    omega
  | f + 1, k, h1, h2, h3, h4 => by
    rw [lookF_succ]
    by_cases e : k = p
    · subst e
      rw [if_pos (h4.resolve_left (by omega))]
    · rw [if_neg (h3 (k + 1) (by omega) (by omega))]
      exact look_is f (k + 1) (by omega) (by omega) (fun e q1 q2 => h3 e (by omega) q2) (h4.imp (fun q => by omega) id)
theorem seg_lt {cs : List Cs} {l : List Pt} {i j dp : Nat} (h : Seg cs true true l i j dp) : ∀ e f, e < f → f < l.length → (pg l e).1 < (pg l f).1
  | e, 0, h1, _ => absurd h1 (Nat.not_lt_zero e)
  | e, f + 1, h1, h2 => by
    have h3 := h.2.2.2.1 f h2
    have h4 := (h.2.2.2.2 f (by omega)).2.1
    by_cases q : e = f
    · subst q; omega
    · have := seg_lt h e f (by omega) (by omega)
      omega
/-- where the descent stands: the part of the whole plan that is left -/
def DesP (cs : List Cs) (x : Int32) (i j dp : Nat) : Prop := i ≤ j ∧ j < cs.length ∧ ∃ A B : List Pt, prtF cs true true = A ++ (LF cs true true 12 i j dp ++ B) ∧ (A = [] ∨ (cg cs i).1 ≤ x) ∧ (B = [] ∨ x < (cg cs (pg B 0).1).1)
theorem DesP.ini {cs : List Cs} (h : ¬ cs.length = 0) (x : Int32) : DesP cs x 0 (cs.length - 1) 0 := ⟨Nat.zero_le _, by omega, [], [], by
  rw [List.append_nil]; exact if_neg h, Or.inl rfl, Or.inl rfl⟩
theorem LF_first {cs : List Cs} {i j dp : Nat} (hij : i ≤ j) (hj : j < 12) : (pg (LF cs true true 12 i j dp) 0).1 = i ∧ 1 ≤ (LF cs true true 12 i j dp).length := by
  have h := LF_seg cs true true 12 i j dp hij hj (by omega)
  exact ⟨h.2.1, h.1⟩
theorem DesP.go {cs : List Cs} {x : Int32} {i j dp c : Nat} (h : DesP cs x i j dp) (h12 : cs.length ≤ 12) (hc : (pcF cs true true i j).2 = some c) : (¬ x < (cg cs (c + 1)).1 → DesP cs x (c + 1) j (dp + 1)) ∧ (x < (cg cs (c + 1)).1 → DesP cs x i c (dp + 1)) := by
  obtain ⟨h1, h2, A, B, h3, h4, h5⟩ := h
  have hcc := cut_at (by omega) hc
  have e : LF cs true true 12 i j dp = LF cs true true 12 i c (dp + 1) ++ LF cs true true 12 (c + 1) j (dp + 1) := by
    have q := LF_some (rw := true) (mk := true) (f := 11) (dp := dp) hc
    rw [q, LF_ir cs true true 11 12 i c _ (by omega) (by omega) (by omega), LF_ir cs true true 11 12 (c + 1) j _ (by omega) (by omega) (by omega)]
  rw [e] at h3
  constructor
  · intro hx
    exact ⟨by omega, h2, A ++ LF cs true true 12 i c (dp + 1), B, by rw [h3]; simp only [List.append_assoc], Or.inr (Int32.not_lt.mp hx), h5⟩
  · intro hx
    have hf := LF_first (cs := cs) (i := c + 1) (j := j) (dp := dp + 1) (by omega) (by omega)
    exact ⟨hcc.1, by omega, A, LF cs true true 12 (c + 1) j (dp + 1) ++ B, by rw [h3]; simp only [List.append_assoc], h4, Or.inr (by rw [pg_l (by omega), hf.1]; exact hx)⟩
theorem DesP.fin {cs : List Cs} {x : Int32} {i j dp : Nat} (ho : OkC cs) (h : DesP cs x i j dp) (h12 : cs.length ≤ 12) (hc : (pcF cs true true i j).2 = none) : goF cs x = nI (dp + stepF cs true true i j) := by
  obtain ⟨h1, h2, A, B, h3, h4, h5⟩ := h
  have e : LF cs true true 12 i j dp = [(i, j, dp)] := LF_none (f := 11) hc
  rw [e] at h3
  have hp : pg (prtF cs true true) A.length = (i, j, dp) := by
    rw [h3, pg_r (Nat.le_refl _), Nat.sub_self]
    rfl
  have hl : (prtF cs true true).length = A.length + 1 + B.length := by
    rw [h3, List.length_append, List.length_append]
    simp only [List.length_cons, List.length_nil]
    omega
  have sg := prt_seg (cs := cs) true true h12 (by omega)
  have hk : lookF cs true true x ((prtF cs true true).length - 1) 0 = A.length := by
    refine look_is _ 0 (Nat.zero_le _) (by omega) (fun e q1 q2 => ?_) ?_
    · rcases h4 with h4 | h4
      · rw [h4] at q2
        exact absurd q2 (by simp only [List.length_nil]; omega)
      · have hi : (pg (prtF cs true true) A.length).1 = i := by rw [hp]
        by_cases q : e = A.length
        · rw [q, hi]; exact Int32.not_lt.mpr h4
        · have h6 := seg_lt sg e A.length (by omega) (by omega)
          rw [hi] at h6
          have h7 := lo_mono ho h6 (by omega)
          exact fun z => absurd (Int32.lt_trans z h7) (Int32.not_lt.mpr h4)
    · by_cases hB : B = []
      · left
        rw [hl, hB]
        simp only [List.length_nil]
        omega
      · right
        have h6 := h5.resolve_left hB
        have e2 : pg (prtF cs true true) (A.length + 1) = pg B 0 := by
          rw [h3, pg_r (by omega), show A.length + 1 - A.length = 1 by omega, pg_r (by simp)]
          rfl
        rw [e2]
        exact h6
  unfold goF
  rw [if_neg (by omega), hk, hp]
  unfold ptF
  rw [hp]
section MM
variable {G : Gm} {μ : Mm} {d : Nat} {s : St} {cs : List Cs}
theorem m_run (hM : LayM G) (h : RelM μ s) (x : Int32) : Si mX6_run (d+6) [.ref 198, .int x] G μ (fun q μ' => q = (runS s x).1 ∧ RelM μ' (runS s x).2 ∧ FrM μ μ') := by
  have hM0 := hM
  obtain ⟨mO, ⟨-, -, -, -, -, -, -, f17, -, -, -, -, f24, f25, f27, f28, f29, -⟩, ⟨-, -, -, -, -, -, -, b206, -, -, -, -, b211, b212, b213, b214, b215, -⟩⟩ := hM
  have hc := h.2.2.1.1
  have ho := h.2.2.1.2.2.2.1.1
  have h12 := hc.2.1
  have pl12 := prt_len (cs := (sP s).1) true true h12
  refine Si_of (ls := [.ref 198, .int x, .null, .null, .null, .null]) (by decide +kernel) (Nat.le_of_ble_eq_true rfl) rfl ?_
  refine J_aload_n (i := 0) qX6_run_0 rfl rfl ?_
  refine J_vi0 qX6_run_1 kX6_283 (by assumption) (m_layPlan (d := d) hM0 hc ho) (Nat.le_of_ble_eq_true rfl) (fun v1 ν hr => ?_)
  obtain ⟨rfl, hA, h26, hT, hF⟩ := hr
  obtain ⟨h', hF'⟩ := h.free hF.pl
  have hc' := hc.fr hF
  have e0 := hc'.n0
  have fin : ∀ v : Int32, v = goF (sP s).1 x → ∀ v3 v4 v5 : Value, J mX6_run (d+6) (0, 0) s0 (Ki G (fun q μ' => q = (runS s x).1 ∧ RelM μ' (runS s x).2 ∧ FrM μ μ')) (0, 0) 130 [.ref 198, .int x, .int v, v3, v4, v5] [] (G, ν) := fun v ev v3 v4 v5 => by
    subst ev
    have last : ∀ a v3 : Int32, a = ownV (sP s).1 x (-9) → J mX6_run (d+6) (0, 0) s0 (Ki G (fun q μ' => q = (runS s x).1 ∧ RelM μ' (runS s x).2 ∧ FrM μ μ')) (0, 0) 161 [.ref 198, .int x, .int (goF (sP s).1 x), .int v3, v4, v5] [.int a, .int (goF (sP s).1 x), .ref 198] (G, ν) := fun a v3 ea => by
      subst ea
      refine J_vi2 qX6_run_161 kX6_91 (by assumption) (m_tells (d := d + 5) hM0 h' (goF (sP s).1 x) (ownV (sP s).1 x (-9))) (Nat.le_of_ble_eq_true rfl) (fun v1 ν1 hr => ?_)
      obtain ⟨rfl, g1, g2⟩ := hr
      refine Ji_ret qX6_run_164 ?_
      exact ⟨rfl, g1, hF'.tr g2⟩
    refine J_aload_n (i := 0) qX6_run_130 rfl rfl ?_
    refine J_getR qX6_run_131 fX6_32 (by assumption) (by assumption) ?_
    refine J_iload_n (i := 1) qX6_run_134 rfl rfl ?_
    refine J_si2 qX6_run_135 kX6_159 (m_caseOf (d := d + 5) b206 hc' x) (Nat.le_of_ble_eq_true rfl) (fun v1 μ' hr => ?_)
    obtain ⟨rfl, rfl⟩ := hr
    rcases own_is (sP s).1 x with e | ⟨o, hoo, e⟩
    · rw [show ownM (sP s).1 x = -9 from if_pos e]
      refine J_ist3 qX6_run_138 (Nat.le_of_ble_eq_true rfl) rfl ?_
      refine J_aload_n (i := 0) qX6_run_139 rfl rfl ?_
      refine J_iload_n (i := 2) qX6_run_140 rfl rfl ?_
      refine J_iload_n (i := 3) qX6_run_141 rfl rfl ?_
      refine J_pushI qX6_run_142 ?_
      refine J_icmp_ne qX6_run_144 (fun z => absurd rfl z) (fun _ => ?_)
      refine J_pushI qX6_run_147 ?_
      refine J_goto qX6_run_149 ?_
      exact last _ _ (ownV_no e).symm
    · have e5 := hc'.am hoo
      rw [show ownM (sP s).1 x = nI o by unfold ownM; rw [e, if_neg (nI_m1 (by omega))]]
      refine J_ist3 qX6_run_138 (Nat.le_of_ble_eq_true rfl) rfl ?_
      refine J_aload_n (i := 0) qX6_run_139 rfl rfl ?_
      refine J_iload_n (i := 2) qX6_run_140 rfl rfl ?_
      refine J_iload_n (i := 3) qX6_run_141 rfl rfl ?_
      refine J_pushI qX6_run_142 ?_
      refine J_icmp_ne qX6_run_144 (fun _ => ?_) (fun z => absurd z (nI_m9 (by omega)))
      refine J_aload_n (i := 0) qX6_run_152 rfl rfl ?_
      refine J_getR qX6_run_153 fX6_32 (by assumption) (by assumption) ?_
      refine J_pushI qX6_run_156 ?_
      refine J_iload_n (i := 3) qX6_run_158 rfl rfl ?_
      first | with_reducible refine J_iadd_n qX6_run_159 ?_ | refine J_iadd qX6_run_159 ?_
      refine J_ialde qX6_run_160 (by assumption) rfl (by omega) (by (repeat first | with_reducible exact wI_e _ _ _ _ | (with_reducible apply rd_s; focus omega) | (with_reducible apply rd_c; focus omega) | (with_reducible apply rd_k; focus omega) | with_reducible exact rd_e (by omega)); first | done | assumption | rfl) ?_
      exact last _ _ (ownV_so e (by omega)).symm
  refine J_pop qX6_run_4 rfl ?_
  refine J_pushI qX6_run_5 ?_
  refine J_ist2 qX6_run_6 (Nat.le_of_ble_eq_true rfl) rfl ?_
  refine J_aload_n (i := 0) qX6_run_7 rfl rfl ?_
  refine J_getIe qX6_run_8 fX6_274 (by assumption) (by (repeat first | with_reducible exact wI_e _ _ _ _ | (with_reducible apply rd_s; focus omega) | (with_reducible apply rd_c; focus omega) | (with_reducible apply rd_k; focus omega) | with_reducible exact rd_e (by omega)); first | done | assumption | rfl) ?_
  refine J_if_le_n qX6_run_11 (by omega) (fun c0 => ?_) (fun c0 => ?_)
  · exact fin _ (if_pos c0).symm _ _ _
  · have n0 : ¬ (sP s).1.length = 0 := fun z => by omega
    refine J_pushI qX6_run_14 ?_
    refine J_ist3 qX6_run_15 (Nat.le_of_ble_eq_true rfl) rfl ?_
    refine J_aload_n (i := 0) qX6_run_16 rfl rfl ?_
    refine J_getR qX6_run_17 fX6_32 (by assumption) (by assumption) ?_
    refine J_pushI qX6_run_20 ?_
    refine J_ialde qX6_run_21 (by assumption) rfl (by omega) (by (repeat first | with_reducible exact wI_e _ _ _ _ | (with_reducible apply rd_s; focus omega) | (with_reducible apply rd_c; focus omega) | (with_reducible apply rd_k; focus omega) | with_reducible exact rd_e (by omega)); first | done | assumption | rfl) ?_
    refine J_pushI qX6_run_22 ?_
    refine J_isub qX6_run_23 ?_
    rw [subl, show lv (sP s).1.length = nI ((sP s).1.length - 1) by
      match (sP s).1.length, n0 with
      | n + 1, _ => rfl]
    refine J_ist4 qX6_run_24 (Nat.le_of_ble_eq_true rfl) rfl ?_
    have H : ∀ N i j dp, j - i = N → DesP (sP s).1 x i j dp → ∀ v5 : Value, J mX6_run (d+6) (0, 0) s0 (Ki G (fun q μ' => q = (runS s x).1 ∧ RelM μ' (runS s x).2 ∧ FrM μ μ')) (0, 0) 26 [.ref 198, .int x, .int (nI dp), .int (nI i), .int (nI j), v5] [] (G, ν) := by
      intro N
      induction N using Nat.strongRecOn with
      | ind N ih =>
        intro i j dp hN hD v5
        have hT1 := (hT i j hD.1 hD.2.1).2
        have hj12 := hD.2.1
        have hij := hD.1
        cases hcut : (pcF (sP s).1 true true i j).2 with
        | none =>
          rw [hcut] at hT1
          have hT2 : ν.1 212 (12 * i + j) = -9 := hT1
          have sn := cut_some ho h12 true true hij hj12 hcut
          have sl := sort_le (sP s).1 true true i j
          refine J_aload_n (i := 0) qX6_run_26 rfl rfl ?_
          refine J_getR qX6_run_27 fX6_50 (by assumption) (by assumption) ?_
          refine J_pushI qX6_run_30 ?_
          refine J_iload_n (i := 3) qX6_run_32 rfl rfl ?_
          first | with_reducible refine J_imul_n qX6_run_33 ?_ | refine J_imul qX6_run_33 ?_
          refine J_iload (i := 4) qX6_run_34 rfl ?_
          first | with_reducible refine J_iadd_n qX6_run_36 ?_ | refine J_iadd qX6_run_36 ?_
          refine J_ialde qX6_run_37 (by assumption) rfl (by omega) (by (repeat first | with_reducible exact wI_e _ _ _ _ | (with_reducible apply rd_s; focus omega) | (with_reducible apply rd_c; focus omega) | (with_reducible apply rd_k; focus omega) | with_reducible exact rd_e (by omega)); first | done | assumption | rfl) ?_
          refine J_pushI qX6_run_38 ?_
          refine J_icmp_eq qX6_run_40 (fun _ => ?_) (fun z => absurd rfl z)
          refine J_iload_n (i := 2) qX6_run_111 rfl rfl ?_
          refine J_aload_n (i := 0) qX6_run_112 rfl rfl ?_
          refine J_aload_n (i := 0) qX6_run_113 rfl rfl ?_
          refine J_iload_n (i := 3) qX6_run_114 rfl rfl ?_
          refine J_iload (i := 4) qX6_run_115 rfl ?_
          refine J_pushI qX6_run_117 ?_
          refine J_vi3 qX6_run_119 kX6_256 (by assumption) (m_sortOf (d := d + 3) hM0 hc' ho (i := i) (j := j) (al := 12) hij hj12 (by omega)) (Nat.le_of_ble_eq_true rfl) (fun v1 μ' hr => ?_)
          rw [show bitB 12 2 = true by decide, show bitB 12 3 = true by decide] at hr
          obtain ⟨rfl, rfl⟩ := hr
          refine J_iload_n (i := 3) qX6_run_122 rfl rfl ?_
          refine J_iload (i := 4) qX6_run_123 rfl ?_
          refine J_vi3 qX6_run_125 kX6_261 (by assumption) (m_stepsBy (d := d + 3) hM0 hc' ho (t := sortF (sP s).1 true true i j) (i := i) (j := j) (by omega) sl hij hj12) (Nat.le_of_ble_eq_true rfl) (fun v1 μ' hr => ?_)
          obtain ⟨rfl, rfl⟩ := hr
          first | with_reducible refine J_iadd_n qX6_run_128 ?_ | refine J_iadd qX6_run_128 ?_
          refine J_ist2 qX6_run_129 (Nat.le_of_ble_eq_true rfl) rfl ?_
          exact fin _ (hD.fin ho h12 hcut).symm _ _ _
        | some c =>
          rw [hcut] at hT1
          have hT2 : ν.1 212 (12 * i + j) = nI c := hT1
          have hcc := cut_at (by omega) hcut
          have e6 : ν.1 206 (1 + c + 1) = (cg (sP s).1 (c + 1)).1 := hc'.lo (k := c + 1) (by omega)
          obtain ⟨g1, g2⟩ := hD.go h12 hcut
          refine J_aload_n (i := 0) qX6_run_26 rfl rfl ?_
          refine J_getR qX6_run_27 fX6_50 (by assumption) (by assumption) ?_
          refine J_pushI qX6_run_30 ?_
          refine J_iload_n (i := 3) qX6_run_32 rfl rfl ?_
          first | with_reducible refine J_imul_n qX6_run_33 ?_ | refine J_imul qX6_run_33 ?_
          refine J_iload (i := 4) qX6_run_34 rfl ?_
          first | with_reducible refine J_iadd_n qX6_run_36 ?_ | refine J_iadd qX6_run_36 ?_
          refine J_ialde qX6_run_37 (by assumption) rfl (by omega) (by (repeat first | with_reducible exact wI_e _ _ _ _ | (with_reducible apply rd_s; focus omega) | (with_reducible apply rd_c; focus omega) | (with_reducible apply rd_k; focus omega) | with_reducible exact rd_e (by omega)); first | done | assumption | rfl) ?_
          refine J_pushI qX6_run_38 ?_
          refine J_icmp_eq qX6_run_40 (fun z => absurd z (nI_m9 (by omega))) (fun _ => ?_)
          refine J_aload_n (i := 0) qX6_run_43 rfl rfl ?_
          refine J_getR qX6_run_44 fX6_50 (by assumption) (by assumption) ?_
          refine J_pushI qX6_run_47 ?_
          refine J_iload_n (i := 3) qX6_run_49 rfl rfl ?_
          first | with_reducible refine J_imul_n qX6_run_50 ?_ | refine J_imul qX6_run_50 ?_
          refine J_iload (i := 4) qX6_run_51 rfl ?_
          first | with_reducible refine J_iadd_n qX6_run_53 ?_ | refine J_iadd qX6_run_53 ?_
          refine J_ialde qX6_run_54 (by assumption) rfl (by omega) (by (repeat first | with_reducible exact wI_e _ _ _ _ | (with_reducible apply rd_s; focus omega) | (with_reducible apply rd_c; focus omega) | (with_reducible apply rd_k; focus omega) | with_reducible exact rd_e (by omega)); first | done | assumption | rfl) ?_
          refine J_ist5 qX6_run_55 (Nat.le_of_ble_eq_true rfl) rfl ?_
          refine J_iload_n (i := 1) qX6_run_57 rfl rfl ?_
          refine J_aload_n (i := 0) qX6_run_58 rfl rfl ?_
          refine J_getR qX6_run_59 fX6_32 (by assumption) (by assumption) ?_
          refine J_pushI qX6_run_62 ?_
          refine J_iload (i := 5) qX6_run_63 rfl ?_
          first | with_reducible refine J_iadd_n qX6_run_65 ?_ | refine J_iadd qX6_run_65 ?_
          refine J_pushI qX6_run_66 ?_
          first | with_reducible refine J_iadd_n qX6_run_67 ?_ | refine J_iadd qX6_run_67 ?_
          refine J_ialde qX6_run_68 (by assumption) rfl (by omega) (by (repeat first | with_reducible exact wI_e _ _ _ _ | (with_reducible apply rd_s; focus omega) | (with_reducible apply rd_c; focus omega) | (with_reducible apply rd_k; focus omega) | with_reducible exact rd_e (by omega)); first | done | assumption | rfl) ?_
          refine J_icmp_lt qX6_run_69 (fun c3 => ?_) (fun c3 => ?_)
          · refine J_iload_n (i := 3) qX6_run_79 rfl rfl ?_
            refine J_ist3 qX6_run_80 (Nat.le_of_ble_eq_true rfl) rfl ?_
            refine J_iload_n (i := 1) qX6_run_81 rfl rfl ?_
            refine J_aload_n (i := 0) qX6_run_82 rfl rfl ?_
            refine J_getR qX6_run_83 fX6_32 (by assumption) (by assumption) ?_
            refine J_pushI qX6_run_86 ?_
            refine J_iload (i := 5) qX6_run_87 rfl ?_
            first | with_reducible refine J_iadd_n qX6_run_89 ?_ | refine J_iadd qX6_run_89 ?_
            refine J_pushI qX6_run_90 ?_
            first | with_reducible refine J_iadd_n qX6_run_91 ?_ | refine J_iadd qX6_run_91 ?_
            refine J_ialde qX6_run_92 (by assumption) rfl (by omega) (by (repeat first | with_reducible exact wI_e _ _ _ _ | (with_reducible apply rd_s; focus omega) | (with_reducible apply rd_c; focus omega) | (with_reducible apply rd_k; focus omega) | with_reducible exact rd_e (by omega)); first | done | assumption | rfl) ?_
            refine J_icmp_lt qX6_run_93 (fun _ => ?_) (fun z => absurd c3 z)
            refine J_iload (i := 5) qX6_run_101 rfl ?_
            refine J_ist4 qX6_run_103 (Nat.le_of_ble_eq_true rfl) rfl ?_
            refine J_inc2 qX6_run_105 (Nat.le_of_ble_eq_true rfl) (by first | with_reducible exact nI_inc _ | rfl) rfl ?_
            refine J_goto qX6_run_108 ?_
            exact ih (c - i) (by omega) i c (dp + 1) rfl (g2 c3) _
          · refine J_iload (i := 5) qX6_run_72 rfl ?_
            refine J_pushI qX6_run_74 ?_
            first | with_reducible refine J_iadd_n qX6_run_75 ?_ | refine J_iadd qX6_run_75 ?_
            refine J_goto qX6_run_76 ?_
            refine J_ist3 qX6_run_80 (Nat.le_of_ble_eq_true rfl) rfl ?_
            refine J_iload_n (i := 1) qX6_run_81 rfl rfl ?_
            refine J_aload_n (i := 0) qX6_run_82 rfl rfl ?_
            refine J_getR qX6_run_83 fX6_32 (by assumption) (by assumption) ?_
            refine J_pushI qX6_run_86 ?_
            refine J_iload (i := 5) qX6_run_87 rfl ?_
            first | with_reducible refine J_iadd_n qX6_run_89 ?_ | refine J_iadd qX6_run_89 ?_
            refine J_pushI qX6_run_90 ?_
            first | with_reducible refine J_iadd_n qX6_run_91 ?_ | refine J_iadd qX6_run_91 ?_
            refine J_ialde qX6_run_92 (by assumption) rfl (by omega) (by (repeat first | with_reducible exact wI_e _ _ _ _ | (with_reducible apply rd_s; focus omega) | (with_reducible apply rd_c; focus omega) | (with_reducible apply rd_k; focus omega) | with_reducible exact rd_e (by omega)); first | done | assumption | rfl) ?_
            refine J_icmp_lt qX6_run_93 (fun z => absurd z c3) (fun _ => ?_)
            refine J_iload (i := 4) qX6_run_96 rfl ?_
            refine J_goto qX6_run_98 ?_
            refine J_ist4 qX6_run_103 (Nat.le_of_ble_eq_true rfl) rfl ?_
            refine J_inc2 qX6_run_105 (Nat.le_of_ble_eq_true rfl) (by first | with_reducible exact nI_inc _ | rfl) rfl ?_
            refine J_goto qX6_run_108 ?_
            exact ih (j - (c + 1)) (by omega) (c + 1) j (dp + 1) rfl (g1 c3) _
    exact H _ 0 ((sP s).1.length - 1) 0 rfl (DesP.ini n0 x) .null
end MM
