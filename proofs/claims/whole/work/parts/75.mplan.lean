/-! THE MODEL: the plan -/
def cutM : Option Nat → Int32
  | none => -9
  | some m => nI m
def TbM (μ : Mm) (cs : List Cs) (rw mk : Bool) (a c : Nat) : Prop := μ.1 211 (12 * a + c) = nI (pcF cs rw mk a c).1 ∧ μ.1 212 (12 * a + c) = cutM (pcF cs rw mk a c).2
def AtM (μ : Mm) (l : List (Nat × Nat × Nat)) : Prop := ∀ e, e < l.length → μ.1 213 e = nI (pg l e).1 ∧ μ.1 214 e = nI (pg l e).2.1 ∧ μ.1 215 e = nI (pg l e).2.2
def PlM (c k : Nat) : Prop := (211 ≤ c ∧ c ≤ 215) ∨ (c = 198 ∧ k = 26)
theorem Fr.pl {μ μ' : Mm} (h : Fr μ μ' PlM) : FrE μ μ' := ⟨fun c k z => h.1 c k (fun y => z (by unfold PlM at y; unfold Fre; omega)), fun c k _ => by rw [h.2]⟩
theorem MC.fr {μ μ' : Mm} {cs : List Cs} (h : MC μ 206 0 cs) (hF : Fr μ μ' PlM) : MC μ' 206 0 cs := h.ag (fun k _ _ => hF.1 _ _ (fun y => by unfold PlM at y; omega))
section MM
variable {G : Gm} {μ : Mm} {d : Nat} {s : St} {cs : List Cs}
theorem m_layCost (hM : LayM G) (hc : MC μ 206 0 cs) (ho : OkC cs) {i j al : Nat} (hij : i ≤ j) (hj : j < cs.length) (hal : al < 256) {rw mk : Bool} (hrw : bitB al 2 = rw) (hmk : bitB al 3 = mk) (h1 : ∀ m, i ≤ m → m < j → μ.1 211 (12 * i + m) = nI (pcF cs rw mk i m).1) (h2 : ∀ m, i ≤ m → m < j → μ.1 211 (12 * (m + 1) + j) = nI (pcF cs rw mk (m + 1) j).1) : Sv mX6_layCost (d+3) [.ref 198, .int (nI i), .int (nI j), .int (nI al)] G μ (fun μ' => TbM μ' cs rw mk i j ∧ Fr μ μ' (fun c k => (c = 211 ∨ c = 212) ∧ k = 12 * i + j)) := by
  have hM0 := hM
  obtain ⟨mO, ⟨-, -, -, -, -, -, -, -, -, -, -, -, f24, f25, -⟩, ⟨-, -, -, -, -, -, -, -, -, -, -, -, b211, b212, -⟩⟩ := hM
  have h12 := hc.2.1
  have hw := wgF_le ho i (j + 1 - i) (by omega)
  have hini := ini_le ho h12 rw mk hij hj
  have S8 := sort_le cs rw mk i j
  have T9 : stepF cs rw mk i j ≤ 9 := by
    unfold stepF stF
    have : aimF cs i (j + 1 - i) ≤ 8 := by unfold aimF popF; omega
    split <;> omega
  have H : ∀ v5 : Value, J mX6_layCost (d+3) (0, 0) s0 (Kv G (fun μ' => TbM μ' cs rw mk i j ∧ Fr μ μ' (fun c k => (c = 211 ∨ c = 212) ∧ k = 12 * i + j))) (0, 0) 39 [.ref 198, .int (nI i), .int (nI j), .int (nI al), .int (nI (wgF cs i (j + 1 - i))), .int (nI (sortF cs rw mk i j)), .null, .null, .null, .null] [.int (nI (iniF cs rw mk i j))] (G, μ) := fun v5 => by
    have H2 : ∀ m, m ≤ j - i → ∀ z : Value, J mX6_layCost (d+3) (0, 0) s0 (Kv G (fun μ' => TbM μ' cs rw mk i j ∧ Fr μ μ' (fun c k => (c = 211 ∨ c = 212) ∧ k = 12 * i + j))) (0, 0) 48 [.ref 198, .int (nI i), .int (nI j), .int (nI al), .int (nI (wgF cs i (j + 1 - i))), .int (nI (sortF cs rw mk i j)), .int (nI (chF (wgF cs i (j + 1 - i)) (iniF cs rw mk i j) (fun m => (pcF cs rw mk i m).1) (fun m => (pcF cs rw mk (m + 1) j).1) i m).1), .int (cutM (chF (wgF cs i (j + 1 - i)) (iniF cs rw mk i j) (fun m => (pcF cs rw mk i m).1) (fun m => (pcF cs rw mk (m + 1) j).1) i m).2), .int (nI (i + m)), z] [] (G, μ) := by
      refine ind_up (fun m hm ih z => ?_)
      have hle := chF_le (wgF cs i (j + 1 - i)) (iniF cs rw mk i j) (fun m => (pcF cs rw mk i m).1) (fun m => (pcF cs rw mk (m + 1) j).1) i m
      refine J_iload (i := 8) qX6_layCost_48 rfl ?_
      refine J_iload_n (i := 2) qX6_layCost_50 rfl rfl ?_
      first | with_reducible refine J_icmp_ge_n qX6_layCost_51 (by omega) (by omega) (fun c1 => ?_) (fun c1 => ?_) | refine J_icmp_ge qX6_layCost_51 (fun c1 => ?_) (fun c1 => ?_)
      · refine J_aload_n (i := 0) qX6_layCost_114 rfl rfl ?_
        refine J_getR qX6_layCost_115 fX6_47 (by assumption) (by assumption) ?_
        refine J_pushI qX6_layCost_118 ?_
        refine J_iload_n (i := 1) qX6_layCost_120 rfl rfl ?_
        first | with_reducible refine J_imul_n qX6_layCost_121 ?_ | refine J_imul qX6_layCost_121 ?_
        refine J_iload_n (i := 2) qX6_layCost_122 rfl rfl ?_
        first | with_reducible refine J_iadd_n qX6_layCost_123 ?_ | refine J_iadd qX6_layCost_123 ?_
        refine J_iload (i := 6) qX6_layCost_124 rfl ?_
        refine J_iast qX6_layCost_126 (by assumption) rfl (by omega) ?_
        refine J_aload_n (i := 0) qX6_layCost_127 rfl rfl ?_
        refine J_getR qX6_layCost_128 fX6_50 (by assumption) (by assumption) ?_
        refine J_pushI qX6_layCost_131 ?_
        refine J_iload_n (i := 1) qX6_layCost_133 rfl rfl ?_
        first | with_reducible refine J_imul_n qX6_layCost_134 ?_ | refine J_imul qX6_layCost_134 ?_
        refine J_iload_n (i := 2) qX6_layCost_135 rfl rfl ?_
        first | with_reducible refine J_iadd_n qX6_layCost_136 ?_ | refine J_iadd qX6_layCost_136 ?_
        refine J_iload (i := 7) qX6_layCost_137 rfl ?_
        refine J_iast qX6_layCost_139 (by assumption) rfl (by omega) ?_
        refine Jv_ret qX6_layCost_140 ?_
        have hpc := pcF_eq cs rw mk (i := i) (j := j) (by omega)
        rw [show j - i = m by omega] at hpc
        unfold TbM
        rw [hpc]
        exact ⟨⟨by rw [wI_n (by omega), wI_e], by rw [wI_e]⟩, Fr.w (Fr.w Fr.rf ⟨Or.inl rfl, rfl⟩) ⟨Or.inr rfl, rfl⟩⟩
      · have e1 := h1 (i + m) (by omega) c1
        have e2 := h2 (i + m) (by omega) c1
        have b1 := pc_bd ho h12 rw mk (i := i) (j := i + m) (by omega) (by omega)
        have b2 := pc_bd ho h12 rw mk (i := i + m + 1) (j := j) (by omega) (by omega)
        have ih := ih (by omega)
        unfold chF at ih
        refine J_iload (i := 4) qX6_layCost_54 rfl ?_
        refine J_aload_n (i := 0) qX6_layCost_56 rfl rfl ?_
        refine J_iload_n (i := 1) qX6_layCost_57 rfl rfl ?_
        refine J_iload (i := 8) qX6_layCost_58 rfl ?_
        refine J_vi2 qX6_layCost_60 kX6_264 (by assumption) (m_costOf (d := d + 2) hM0 (i := i) (j := i + m) (by omega) (by omega)) (Nat.le_of_ble_eq_true rfl) (fun v1 μ' hr => ?_)
        rw [e1] at hr
        obtain ⟨rfl, rfl⟩ := hr
        first | with_reducible refine J_iadd_n qX6_layCost_63 ?_ | refine J_iadd qX6_layCost_63 ?_
        refine J_aload_n (i := 0) qX6_layCost_64 rfl rfl ?_
        refine J_iload (i := 8) qX6_layCost_65 rfl ?_
        refine J_pushI qX6_layCost_67 ?_
        first | with_reducible refine J_iadd_n qX6_layCost_68 ?_ | refine J_iadd qX6_layCost_68 ?_
        refine J_iload_n (i := 2) qX6_layCost_69 rfl rfl ?_
        refine J_vi2 qX6_layCost_70 kX6_264 (by assumption) (m_costOf (d := d + 2) hM0 (i := i + m + 1) (j := j) (by omega) (by omega)) (Nat.le_of_ble_eq_true rfl) (fun v1 μ' hr => ?_)
        rw [e2] at hr
        obtain ⟨rfl, rfl⟩ := hr
        first | with_reducible refine J_iadd_n qX6_layCost_73 ?_ | refine J_iadd qX6_layCost_73 ?_
        refine J_ist9 qX6_layCost_74 (Nat.le_of_ble_eq_true rfl) rfl ?_
        refine J_iload (i := 9) qX6_layCost_76 rfl ?_
        refine J_iload (i := 6) qX6_layCost_78 rfl ?_
        first | with_reducible refine J_icmp_ge_n qX6_layCost_80 (by omega) (by omega) (fun c2 => ?_) (fun c2 => ?_) | refine J_icmp_ge qX6_layCost_80 (fun c2 => ?_) (fun c2 => ?_)
        · rw [if_neg (by omega)] at ih
          refine J_iload (i := 7) qX6_layCost_88 rfl ?_
          refine J_ist7 qX6_layCost_90 (Nat.le_of_ble_eq_true rfl) rfl ?_
          refine J_iload (i := 9) qX6_layCost_92 rfl ?_
          refine J_iload (i := 6) qX6_layCost_94 rfl ?_
          refine J_icmp_ge_n qX6_layCost_96 (by omega) (by omega) (fun _ => ?_) (fun z => absurd z (by omega))
          refine J_iload (i := 6) qX6_layCost_104 rfl ?_
          refine J_ist6 qX6_layCost_106 (Nat.le_of_ble_eq_true rfl) rfl ?_
          refine J_inc8 qX6_layCost_108 (Nat.le_of_ble_eq_true rfl) (by first | with_reducible exact nI_inc _ | rfl) rfl ?_
          refine J_goto qX6_layCost_111 ?_
          exact ih _
        · rw [if_pos (by omega)] at ih
          refine J_iload (i := 8) qX6_layCost_83 rfl ?_
          refine J_goto qX6_layCost_85 ?_
          refine J_ist7 qX6_layCost_90 (Nat.le_of_ble_eq_true rfl) rfl ?_
          refine J_iload (i := 9) qX6_layCost_92 rfl ?_
          refine J_iload (i := 6) qX6_layCost_94 rfl ?_
          refine J_icmp_ge_n qX6_layCost_96 (by omega) (by omega) (fun z => absurd z (by omega)) (fun _ => ?_)
          refine J_iload (i := 9) qX6_layCost_99 rfl ?_
          refine J_goto qX6_layCost_101 ?_
          refine J_ist6 qX6_layCost_106 (Nat.le_of_ble_eq_true rfl) rfl ?_
          refine J_inc8 qX6_layCost_108 (Nat.le_of_ble_eq_true rfl) (by first | with_reducible exact nI_inc _ | rfl) rfl ?_
          refine J_goto qX6_layCost_111 ?_
          exact ih _
    refine J_ist6 qX6_layCost_39 (Nat.le_of_ble_eq_true rfl) rfl ?_
    refine J_pushI qX6_layCost_41 ?_
    refine J_ist7 qX6_layCost_43 (Nat.le_of_ble_eq_true rfl) rfl ?_
    refine J_iload_n (i := 1) qX6_layCost_45 rfl rfl ?_
    refine J_ist8 qX6_layCost_46 (Nat.le_of_ble_eq_true rfl) rfl ?_
    exact H2 0 (Nat.zero_le _) _
  refine Sv_of (ls := [.ref 198, .int (nI i), .int (nI j), .int (nI al), .null, .null, .null, .null, .null, .null]) (by decide +kernel) (Nat.le_of_ble_eq_true rfl) rfl ?_
  refine J_aload_n (i := 0) qX6_layCost_0 rfl rfl ?_
  refine J_iload_n (i := 1) qX6_layCost_1 rfl rfl ?_
  refine J_iload_n (i := 2) qX6_layCost_2 rfl rfl ?_
  refine J_vi2 qX6_layCost_3 kX6_253 (by assumption) (m_weightOf (d := d + 2) hM0 hc (i := i) (m := j + 1 - i) (by omega) (jle (by omega) (by omega) (by omega))) (Nat.le_of_ble_eq_true rfl) (fun v1 μ' hr => ?_)
  obtain ⟨rfl, rfl⟩ := hr
  refine J_ist4 qX6_layCost_6 (Nat.le_of_ble_eq_true rfl) rfl ?_
  refine J_aload_n (i := 0) qX6_layCost_8 rfl rfl ?_
  refine J_iload_n (i := 1) qX6_layCost_9 rfl rfl ?_
  refine J_iload_n (i := 2) qX6_layCost_10 rfl rfl ?_
  refine J_iload_n (i := 3) qX6_layCost_11 rfl rfl ?_
  refine J_vi3 qX6_layCost_12 kX6_256 (by assumption) (m_sortOf (d := d) hM0 hc ho hij hj hal) (Nat.le_of_ble_eq_true rfl) (fun v1 μ' hr => ?_)
  rw [hrw, hmk] at hr
  obtain ⟨rfl, rfl⟩ := hr
  refine J_ist5 qX6_layCost_15 (Nat.le_of_ble_eq_true rfl) rfl ?_
  refine J_iload (i := 5) qX6_layCost_17 rfl ?_
  refine J_if_ne_n qX6_layCost_19 (by omega) (fun c1 => ?_) (fun c1 => ?_)
  · refine J_aload_n (i := 0) qX6_layCost_28 rfl rfl ?_
    refine J_iload (i := 5) qX6_layCost_29 rfl ?_
    refine J_iload_n (i := 1) qX6_layCost_31 rfl rfl ?_
    refine J_iload_n (i := 2) qX6_layCost_32 rfl rfl ?_
    refine J_vi3 qX6_layCost_33 kX6_261 (by assumption) (m_stepsBy (d := d) hM0 hc ho (t := sortF cs rw mk i j) (by omega) S8 hij hj) (Nat.le_of_ble_eq_true rfl) (fun v1 μ' hr => ?_)
    obtain ⟨rfl, rfl⟩ := hr
    have e : iniF cs rw mk i j = stepF cs rw mk i j * wgF cs i (j + 1 - i) := if_neg c1
    have H := H .null
    rw [e] at H
    refine J_iload (i := 4) qX6_layCost_36 rfl ?_
    first | with_reducible refine J_imul_n qX6_layCost_38 ?_ | refine J_imul qX6_layCost_38 ?_
    exact H
  · have e : iniF cs rw mk i j = 2147483647 := if_pos c1
    have H := H .null
    rw [e] at H
    refine J_ldcw (i := 260) (v := nI 2147483647) ⟨by decide +kernel, rfl⟩ (lw_at 1224 (by decide +kernel) rfl) ?_
    refine J_goto qX6_layCost_25 ?_
    exact H
theorem m_layCosts (hM : LayM G) (hc : MC μ 206 0 cs) (ho : OkC cs) {al : Nat} (hal : al < 256) {rw mk : Bool} (hrw : bitB al 2 = rw) (hmk : bitB al 3 = mk) : Si mX6_layCosts (d+4) [.ref 198, .int (nI al)] G μ (fun r μ' => r = nI (priceF cs rw mk) ∧ (∀ a c, a ≤ c → c < cs.length → TbM μ' cs rw mk a c) ∧ Fr μ μ' (fun c _ => c = 211 ∨ c = 212)) := by
  have hM0 := hM
  obtain ⟨mO, ⟨-, -, -, -, -, -, -, f17, -⟩, ⟨-, -, -, -, -, -, -, b206, -⟩⟩ := hM
  have h12 := hc.2.1
  have e0 := hc.n0
  have hcf : ∀ {ν : Mm}, Fr μ ν (fun c _ => c = 211 ∨ c = 212) → MC ν 206 0 cs := fun hF => hc.ag (fun k _ _ => hF.1 _ _ (by omega))
  refine Si_of (ls := [.ref 198, .int (nI al), .null, .null, .null]) (by decide +kernel) (Nat.le_of_ble_eq_true rfl) rfl ?_
  refine J_aload_n (i := 0) qX6_layCosts_0 rfl rfl ?_
  refine J_getR qX6_layCosts_1 fX6_32 (by assumption) (by assumption) ?_
  refine J_pushI qX6_layCosts_4 ?_
  refine J_ialde qX6_layCosts_5 (by assumption) rfl (by omega) (by (repeat first | with_reducible exact wI_e _ _ _ _ | (with_reducible apply rd_s; focus omega) | (with_reducible apply rd_c; focus omega) | (with_reducible apply rd_k; focus omega) | with_reducible exact rd_e (by omega)); first | done | assumption | rfl) ?_
  refine J_ist2 qX6_layCosts_6 (Nat.le_of_ble_eq_true rfl) rfl ?_
  refine J_pushI qX6_layCosts_7 ?_
  refine J_ist3 qX6_layCosts_8 (Nat.le_of_ble_eq_true rfl) rfl ?_
  have H : ∀ m, m ≤ cs.length → ∀ (ν : Mm) (z : Value), Fr μ ν (fun c _ => c = 211 ∨ c = 212) → (∀ a c, a ≤ c → c < cs.length → c - a < m → TbM ν cs rw mk a c) → J mX6_layCosts (d+4) (0, 0) s0 (Ki G (fun r μ' => r = nI (priceF cs rw mk) ∧ (∀ a c, a ≤ c → c < cs.length → TbM μ' cs rw mk a c) ∧ Fr μ μ' (fun c _ => c = 211 ∨ c = 212))) (0, 0) 9 [.ref 198, .int (nI al), .int (nI cs.length), .int (nI (m + 1)), z] [] (G, ν) := by
    refine ind_up (fun m hm ih ν z hF hD => ?_)
    refine J_iload_n (i := 3) qX6_layCosts_9 rfl rfl ?_
    refine J_iload_n (i := 2) qX6_layCosts_10 rfl rfl ?_
    first | with_reducible refine J_icmp_gt_n qX6_layCosts_11 (by omega) (by omega) (fun c1 => ?_) (fun c1 => ?_) | refine J_icmp_gt qX6_layCosts_11 (fun c1 => ?_) (fun c1 => ?_)
    · refine J_iload_n (i := 2) qX6_layCosts_50 rfl rfl ?_
      refine J_if_ne_n qX6_layCosts_51 (by omega) (fun c2 => ?_) (fun c2 => ?_)
      · refine J_aload_n (i := 0) qX6_layCosts_58 rfl rfl ?_
        refine J_pushI qX6_layCosts_59 ?_
        refine J_iload_n (i := 2) qX6_layCosts_60 rfl rfl ?_
        refine J_pushI qX6_layCosts_61 ?_
        first | with_reducible refine J_isub_n qX6_layCosts_62 (by omega) ?_ | refine J_isub qX6_layCosts_62 ?_
        refine J_vi2 qX6_layCosts_63 kX6_264 (by assumption) (m_costOf (d := d + 3) hM0 (i := 0) (j := cs.length - 1) (by omega) (by omega)) (Nat.le_of_ble_eq_true rfl) (fun v1 μ' hr => ?_)
        rw [(hD 0 (cs.length - 1) (by omega) (by omega) (by omega)).1] at hr
        obtain ⟨rfl, rfl⟩ := hr
        refine Ji_ret qX6_layCosts_66 ?_
        exact ⟨by rw [show priceF cs rw mk = (pcF cs rw mk 0 (cs.length - 1)).1 from if_neg c2], fun a c x1 x2 => hD a c x1 x2 (by omega), hF⟩
      · refine J_pushI qX6_layCosts_54 ?_
        refine J_goto qX6_layCosts_55 ?_
        refine Ji_ret qX6_layCosts_66 ?_
        exact ⟨by rw [show priceF cs rw mk = 0 from if_pos c2], fun a c x1 x2 => hD a c x1 x2 (by omega), hF⟩
    · refine J_pushI qX6_layCosts_14 ?_
      refine J_ist4 qX6_layCosts_15 (Nat.le_of_ble_eq_true rfl) rfl ?_
      have H2 : ∀ i, i ≤ cs.length - m → ∀ (ν : Mm), Fr μ ν (fun c _ => c = 211 ∨ c = 212) → (∀ a c, a ≤ c → c < cs.length → (c - a < m ∨ (c - a = m ∧ a < i)) → TbM ν cs rw mk a c) → J mX6_layCosts (d+4) (0, 0) s0 (Ki G (fun r μ' => r = nI (priceF cs rw mk) ∧ (∀ a c, a ≤ c → c < cs.length → TbM μ' cs rw mk a c) ∧ Fr μ μ' (fun c _ => c = 211 ∨ c = 212))) (0, 0) 17 [.ref 198, .int (nI al), .int (nI cs.length), .int (nI (m + 1)), .int (nI i)] [] (G, ν) := by
        refine ind_up (fun i hi ih2 ν hF hD => ?_)
        refine J_iload (i := 4) qX6_layCosts_17 rfl ?_
        refine J_iload_n (i := 3) qX6_layCosts_19 rfl rfl ?_
        first | with_reducible refine J_iadd_n qX6_layCosts_20 ?_ | refine J_iadd qX6_layCosts_20 ?_
        refine J_iload_n (i := 2) qX6_layCosts_21 rfl rfl ?_
        first | with_reducible refine J_icmp_gt_n qX6_layCosts_22 (by omega) (by omega) (fun c2 => ?_) (fun c2 => ?_) | refine J_icmp_gt qX6_layCosts_22 (fun c2 => ?_) (fun c2 => ?_)
        · refine J_inc3 qX6_layCosts_44 (Nat.le_of_ble_eq_true rfl) (by first | with_reducible exact nI_inc _ | rfl) rfl ?_
          refine J_goto qX6_layCosts_47 ?_
          exact ih (by omega) ν _ hF (fun a c x1 x2 x3 => hD a c x1 x2 (by omega))
        · refine J_aload_n (i := 0) qX6_layCosts_25 rfl rfl ?_
          refine J_iload (i := 4) qX6_layCosts_26 rfl ?_
          refine J_iload (i := 4) qX6_layCosts_28 rfl ?_
          refine J_iload_n (i := 3) qX6_layCosts_30 rfl rfl ?_
          first | with_reducible refine J_iadd_n qX6_layCosts_31 ?_ | refine J_iadd qX6_layCosts_31 ?_
          refine J_pushI qX6_layCosts_32 ?_
          first | with_reducible refine J_isub_n qX6_layCosts_33 (by omega) ?_ | refine J_isub qX6_layCosts_33 ?_
          refine J_iload_n (i := 1) qX6_layCosts_34 rfl rfl ?_
          rw [show i + (m + 1) - 1 = i + m by omega]
          refine J_vv3 qX6_layCosts_35 kX6_267 (by assumption) (m_layCost (d := d) hM0 (hcf hF) ho (i := i) (j := i + m) (by omega) (by omega) hal hrw hmk (fun x y1 y2 => (hD i x y1 (by omega) (by omega)).1) (fun x y1 y2 => (hD (x + 1) (i + m) (by omega) (by omega) (by omega)).1)) (Nat.le_of_ble_eq_true rfl) (fun ν2 hr => ?_)
          obtain ⟨g1, g2⟩ := hr
          refine J_inc4 qX6_layCosts_38 (Nat.le_of_ble_eq_true rfl) (by first | with_reducible exact nI_inc _ | rfl) rfl ?_
          refine J_goto qX6_layCosts_41 ?_
          refine ih2 (by omega) ν2 (hF.tr (g2.mono (fun c s q => q.1))) (fun a c x1 x2 x3 => ?_)
          by_cases q : a = i ∧ c = i + m
          · obtain ⟨rfl, rfl⟩ := q
            exact g1
          · obtain ⟨t1, t2⟩ := hD a c x1 x2 (by omega)
            exact ⟨(g2.1 _ _ (by omega)).trans t1, (g2.1 _ _ (by omega)).trans t2⟩
      exact H2 0 (Nat.zero_le _) ν hF (fun a c x1 x2 x3 => hD a c x1 x2 (by omega))
  exact H 0 (Nat.zero_le _) μ _ Fr.rf (fun a c x1 x2 x3 => absurd x3 (Nat.not_lt_zero _))
end MM
