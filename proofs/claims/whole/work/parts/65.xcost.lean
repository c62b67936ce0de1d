/-! COMPONENT: only, chain, worst, swing, covered -/
def onlyS (s : St) (w : Int32) : Int32 × St := if w < nI 1 ∨ nI 3 < w then (-1, s) else (nI (priceF (sP s).1 (decide (w = nI 2)) (decide (w = nI 3))), s)
/-- the last k CASES tried one behind the other -/
def chn (cs : List Cs) (rest : Nat) : Nat → Nat
  | 0 => 0
  | k + 1 => chn cs rest k + loneF cs (cs.length - 1 - k) * (rest + wgF cs (cs.length - 1 - k) (k + 1))
theorem chn_succ (cs : List Cs) (rest k : Nat) : chn cs rest (k + 1) = chn cs rest k + loneF cs (cs.length - 1 - k) * (rest + wgF cs (cs.length - 1 - k) (k + 1)) := rfl
def chainS (s : St) : Int32 × St := (nI (chn (sP s).1 (sR s) (sP s).1.length), s)
def thF (cs : List Cs) (k : Nat) : Nat := (pg (prtF cs true true) k).2.2 + ptF cs true true k
def wrF (cs : List Cs) : Nat → Nat
  | 0 => 0
  | k + 1 => if thF cs (wrF cs k) < thF cs (k + 1) then k + 1 else wrF cs k
theorem wrF_succ (cs : List Cs) (k : Nat) : wrF cs (k + 1) = if thF cs (wrF cs k) < thF cs (k + 1) then k + 1 else wrF cs k := rfl
theorem wrF_le (cs : List Cs) : ∀ k, wrF cs k ≤ k
  | 0 => Nat.le_refl 0
  | k + 1 => by
    rw [wrF_succ]
    have := wrF_le cs k
    split <;> omega
def worstS (s : St) : Int32 × St :=
  if (sP s).1.length = 0 then (-4, s) else (nI (pg (PL s) (wrF (sP s).1 ((PL s).length - 1))).1, uAsk s (nI (thF (sP s).1 (wrF (sP s).1 ((PL s).length - 1)))))
def swF (cs : List Cs) (i : Nat) : Nat → Nat → Option Nat
  | 0, _ => none
  | f + 1, w => if ¬ w = (cg cs i).2.2.2 ∧ sameB (setW cs i w) cs true true = false then some w else swF cs i f (w + 1)
theorem swF_succ (cs : List Cs) (i f w : Nat) : swF cs i (f + 1) w = if ¬ w = (cg cs i).2.2.2 ∧ sameB (setW cs i w) cs true true = false then some w else swF cs i f (w + 1) := rfl
def swV (s : St) (i : Nat) (o : Option Nat) : Int32 × St := match o with
  | none => (-9, s)
  | some w => (nI w, uAsk s (nI (prtF (setW (sP s).1 i w) true true).length))
def swingS (s : St) (i : Int32) : Int32 × St := if hasB (sP s).1.length i = false then (-1, s) else swV s (ix i) (swF (sP s).1 (ix i) 10 0)
def cvF (cs : List Cs) (lo hi : Int32) : Nat → Int64
  | 0 => lN 0
  | k + 1 => if (if hi > (cg cs k).2.1 then (cg cs k).2.1 else hi).toInt64 < (if lo < (cg cs k).1 then (cg cs k).1 else lo).toInt64 then cvF cs lo hi k
    else cvF cs lo hi k + ((if hi > (cg cs k).2.1 then (cg cs k).2.1 else hi).toInt64 - (if lo < (cg cs k).1 then (cg cs k).1 else lo).toInt64 + lN 1)
theorem cvF_succ (cs : List Cs) (lo hi : Int32) (k : Nat) : cvF cs lo hi (k + 1) = if (if hi > (cg cs k).2.1 then (cg cs k).2.1 else hi).toInt64 < (if lo < (cg cs k).1 then (cg cs k).1 else lo).toInt64 then cvF cs lo hi k
    else cvF cs lo hi k + ((if hi > (cg cs k).2.1 then (cg cs k).2.1 else hi).toInt64 - (if lo < (cg cs k).1 then (cg cs k).1 else lo).toInt64 + lN 1) := rfl
def coveredS (s : St) (lo hi : Int32) : Int64 × St := if hi < lo then (-1, s) else (cvF (sP s).1 lo hi (sP s).1.length, s)
theorem setW_setW (cs : List Cs) (i a c : Nat) (hi : i < cs.length) : setW (setW cs i a) i c = setW cs i c := by
  have e : cg (setW cs i a) i = ((cg cs i).1, (cg cs i).2.1, (cg cs i).2.2.1, a) := by
    show cg (cs.set i _) i = _
    rw [cg_set hi, if_pos rfl]
  show (setW cs i a).set i ((cg (setW cs i a) i).1, (cg (setW cs i a) i).2.1, (cg (setW cs i a) i).2.2.1, c) = _
  rw [e]
  show (cs.set i _).set i _ = cs.set i _
  rw [List.set_set]
theorem setW_self (cs : List Cs) (i : Nat) (hi : i < cs.length) : setW cs i (cg cs i).2.2.2 = cs := by
  refine cs_ext (setW_len _ _ _) (fun k hk => ?_)
  show cg (cs.set i _) k = _
  rw [cg_set hi]
  by_cases e : k = i
  · rw [if_pos e, e]
  · rw [if_neg e]
theorem subl (n : Nat) : nI n - nI 1 = lv n := by
  match n with
  | 0 => decide
  | n + 1 => exact nI_pred n
theorem thF_le {cs : List Cs} (ho : OkC cs) (h12 : cs.length ≤ 12) {k : Nat} (hk : k < (prtF cs true true).length) : thF cs k ≤ 1000 := by
  have h1 := prt_at h12 hk
  have h2 : ptF cs true true k ≤ 300 := by
    unfold ptF stepF stF
    have h3 : aimF cs (pg (prtF cs true true) k).1 ((pg (prtF cs true true) k).2.1 + 1 - (pg (prtF cs true true) k).1) ≤ 8 := by
      unfold aimF popF; omega
    split <;> omega
  unfold thF
  omega
theorem wg_step (cs : List Cs) {k : Nat} (hk : k < cs.length) : wgF cs (cs.length - 1 - k) (k + 1) = (cg cs (cs.length - 1 - k)).2.2.2 + wgF cs (cs.length - k) k := by
  rw [wgF_cut, show cs.length - 1 - k + 1 = cs.length - k by omega]
section XX
variable {G : Gm} {μ : Mm} {d : Nat} {s : St}
theorem x_only (hL : LayX G) (h : RelX μ s) (w : Int32) : Si mX5_only (d+14) [.ref 0, .int w] G μ (fun q μ' => q = (onlyS s w).1 ∧ RelX μ' (onlyS s w).2 ∧ FrX μ μ') := by
  obtain ⟨hO, ⟨q0, q1, q2, q3, q4, q5, q6, q7, q8, q9, q10⟩, -, -, -, -, hp3, -, -, -, hpl, hpx⟩ := hL
  have hpxO := hpx.1
  have hx := h.2.2.1
  have bad : (w < nI 1 ∨ nI 3 < w) → J mX5_only (d+14) (0, 0) s0 (Ki G (fun q μ' => q = (onlyS s w).1 ∧ RelX μ' (onlyS s w).2 ∧ FrX μ μ')) (0, 0) 10 [.ref 0, .int w] [] (G, μ) := fun hz => by
    rw [show onlyS s w = (-1, s) from if_pos hz]
    refine J_pushI qX5_only_10 ?_
    refine Ji_ret qX5_only_11 ?_
    exact ⟨rfl, h, FrX.rf⟩
  refine Si_of (ls := [.ref 0, .int w]) (by decide +kernel) (Nat.le_of_ble_eq_true rfl) rfl ?_
  refine J_iload_n (i := 1) qX5_only_0 rfl rfl ?_
  refine J_pushI qX5_only_1 ?_
  refine J_icmp_lt qX5_only_2 (fun c1 => bad (Or.inl c1)) (fun c1 => ?_)
  refine J_iload_n (i := 1) qX5_only_5 rfl rfl ?_
  refine J_pushI qX5_only_6 ?_
  refine J_icmp_le qX5_only_7 (fun c2 => ?_) (fun c2 => bad (Or.inr (i32_nle c2)))
  clear bad
  have go : ∀ rw mk : Bool, rw = decide (w = nI 2) → mk = decide (w = nI 3) → J mX5_only (d+14) (0, 0) s0 (Ki G (fun q μ' => q = (onlyS s w).1 ∧ RelX μ' (onlyS s w).2 ∧ FrX μ μ')) (0, 0) 40 [.ref 0, .int w] [.int (b2i mk), .int (b2i rw), .ref 3, .ref 88] (G, μ) := fun rw mk e1 e2 => by
    refine J_vv3 qX5_only_40 kX5_234 (by assumption) (l_make (d := d) (rw := rw) (mk := mk) hpx hp3 (by omega) hx.1 hx.2.2.1.1) (Nat.le_of_ble_eq_true rfl) (fun ν hr => ?_)
    obtain ⟨g1, g2⟩ := hr
    have e3 := g1.2.2.1
    refine J_aload_n (i := 0) qX5_only_43 rfl rfl ?_
    refine J_getR qX5_only_44 fX5_57 (by assumption) (by assumption) ?_
    refine J_getIe qX5_only_47 fX5_201 (by assumption) (by (repeat first | with_reducible exact wI_e _ _ _ _ | (with_reducible apply rd_s; focus omega) | (with_reducible apply rd_c; focus omega) | (with_reducible apply rd_k; focus omega) | with_reducible exact rd_e (by omega)); first | done | assumption | rfl) ?_
    refine Ji_ret qX5_only_50 ?_
    rw [show onlyS s w = (nI (priceF (sP s).1 (decide (w = nI 2)) (decide (w = nI 3))), s) from if_neg (fun z => z.elim c1 (fun y => absurd c2 (Int32.not_le.mpr y))), ← e1, ← e2]
    exact ⟨rfl, h.free (fun c k z => g2.1 _ _ (by omega)) (fun c k z => by rw [g2.2])⟩
  have go2 : ∀ rw : Bool, rw = decide (w = nI 2) → J mX5_only (d+14) (0, 0) s0 (Ki G (fun q μ' => q = (onlyS s w).1 ∧ RelX μ' (onlyS s w).2 ∧ FrX μ μ')) (0, 0) 30 [.ref 0, .int w] [.int (b2i rw), .ref 3, .ref 88] (G, μ) := fun rw e1 => by
    refine J_iload_n (i := 1) qX5_only_30 rfl rfl ?_
    refine J_pushI qX5_only_31 ?_
    refine J_icmp_ne qX5_only_32 (fun c3 => ?_) (fun c3 => ?_)
    · refine J_pushI qX5_only_39 ?_
      exact go rw false e1 (decide_eq_false c3).symm
    · refine J_pushI qX5_only_35 ?_
      refine J_goto qX5_only_36 ?_
      exact go rw true e1 (decide_eq_true c3).symm
  refine J_aload_n (i := 0) qX5_only_12 rfl rfl ?_
  refine J_getR qX5_only_13 fX5_57 (by assumption) (by assumption) ?_
  refine J_aload_n (i := 0) qX5_only_16 rfl rfl ?_
  refine J_getR qX5_only_17 fX5_21 (by assumption) (by assumption) ?_
  refine J_iload_n (i := 1) qX5_only_20 rfl rfl ?_
  refine J_pushI qX5_only_21 ?_
  refine J_icmp_ne qX5_only_22 (fun c3 => ?_) (fun c3 => ?_)
  · refine J_pushI qX5_only_29 ?_
    exact go2 false (decide_eq_false c3).symm
  · refine J_pushI qX5_only_25 ?_
    refine J_goto qX5_only_26 ?_
    exact go2 true (decide_eq_true c3).symm
theorem x_chain (hL : LayX G) (h : RelX μ s) : Si mX5_chain (d+1) [.ref 0] G μ (fun q μ' => q = (chainS s).1 ∧ RelX μ' (chainS s).2 ∧ FrX μ μ') := by
  obtain ⟨hO, ⟨q0, q1, q2, q3, q4, q5, q6, q7, q8, q9, q10⟩, -, -, -, -, hp3, -⟩ := hL
  have hpo := hp3.1
  have hpr := hp3.2.1.2.2.2
  have hpa := hp3.2.2.2.1.2.2.2
  obtain ⟨x1, x2, x3, x4⟩ := h.2.2.1
  have k2 := x3.2.1
  have e0 := x1.1
  refine Si_of (ls := [.ref 0, .null, .null, .null]) (by decide +kernel) (Nat.le_of_ble_eq_true rfl) rfl ?_
  refine J_aload_n (i := 0) qX5_chain_0 rfl rfl ?_
  refine J_getR qX5_chain_1 fX5_21 (by assumption) (by assumption) ?_
  refine J_getIe qX5_chain_4 fX5_238 (by assumption) (by (repeat first | with_reducible exact wI_e _ _ _ _ | (with_reducible apply rd_s; focus omega) | (with_reducible apply rd_c; focus omega) | (with_reducible apply rd_k; focus omega) | with_reducible exact rd_e (by omega)); first | done | assumption | rfl) ?_
  refine J_ist1 qX5_chain_7 (Nat.le_of_ble_eq_true rfl) rfl ?_
  refine J_pushI qX5_chain_8 ?_
  refine J_ist2 qX5_chain_9 (Nat.le_of_ble_eq_true rfl) rfl ?_
  refine J_aload_n (i := 0) qX5_chain_10 rfl rfl ?_
  refine J_getR qX5_chain_11 fX5_21 (by assumption) (by assumption) ?_
  refine J_getIe qX5_chain_14 fX5_135 (by assumption) (by (repeat first | with_reducible exact wI_e _ _ _ _ | (with_reducible apply rd_s; focus omega) | (with_reducible apply rd_c; focus omega) | (with_reducible apply rd_k; focus omega) | with_reducible exact rd_e (by omega)); first | done | assumption | rfl) ?_
  refine J_pushI qX5_chain_17 ?_
  refine J_isub qX5_chain_18 ?_
  rw [subl]
  refine J_ist3 qX5_chain_19 (Nat.le_of_ble_eq_true rfl) rfl ?_
  have H : ∀ k, k ≤ (sP s).1.length → J mX5_chain (d+1) (0, 0) s0 (Ki G (fun q μ' => q = (chainS s).1 ∧ RelX μ' (chainS s).2 ∧ FrX μ μ')) (0, 0) 20 [.ref 0, .int (nI (sR s + wgF (sP s).1 ((sP s).1.length - k) k)), .int (nI (chn (sP s).1 (sR s) k)), .int (lv ((sP s).1.length - k))] [] (G, μ) := by
    refine ind_up (fun k hk ih => ?_)
    by_cases c : k = (sP s).1.length
    · rw [show (sP s).1.length - k = 0 by omega, show lv 0 = -1 from rfl, c]
      refine J_iload_n (i := 3) qX5_chain_20 rfl rfl ?_
      refine J_if_lt qX5_chain_21 (fun _ => ?_) (fun z => absurd (by decide) z)
      refine J_iload_n (i := 2) qX5_chain_55 rfl rfl ?_
      refine Ji_ret qX5_chain_56 ?_
      exact ⟨rfl, h, FrX.rf⟩
    · have hi : (sP s).1.length - 1 - k < (sP s).1.length := by omega
      have e1 := (x1.2.2 _ hi).2.2.2
      rw [show lv ((sP s).1.length - k) = nI ((sP s).1.length - 1 - k) by
        rw [show (sP s).1.length - k = ((sP s).1.length - 1 - k) + 1 by omega]; rfl]
      refine J_iload_n (i := 3) qX5_chain_20 rfl rfl ?_
      refine J_if_lt_n qX5_chain_21 (by omega) ?_
      refine J_iload_n (i := 1) qX5_chain_24 rfl rfl ?_
      refine J_aload_n (i := 0) qX5_chain_25 rfl rfl ?_
      refine J_getR qX5_chain_26 fX5_21 (by assumption) (by assumption) ?_
      refine J_getR qX5_chain_29 fX5_176 (by assumption) (by assumption) ?_
      refine J_iload_n (i := 3) qX5_chain_32 rfl rfl ?_
      refine J_ialde qX5_chain_33 (by assumption) rfl (by omega) (by (repeat first | with_reducible exact wI_e _ _ _ _ | (with_reducible apply rd_s; focus omega) | (with_reducible apply rd_c; focus omega) | (with_reducible apply rd_k; focus omega) | with_reducible exact rd_e (by omega)); first | done | assumption | rfl) ?_
      first | with_reducible refine J_iadd_n qX5_chain_34 ?_ | refine J_iadd qX5_chain_34 ?_
      refine J_ist1 qX5_chain_35 (Nat.le_of_ble_eq_true rfl) rfl ?_
      refine J_iload_n (i := 2) qX5_chain_36 rfl rfl ?_
      refine J_aload_n (i := 0) qX5_chain_37 rfl rfl ?_
      refine J_getR qX5_chain_38 fX5_21 (by assumption) (by assumption) ?_
      refine J_iload_n (i := 3) qX5_chain_41 rfl rfl ?_
      refine J_vi1 qX5_chain_42 kX5_241 (by assumption) (p_loneSteps (d := d) hp3 x1 hi) (Nat.le_of_ble_eq_true rfl) (fun v1 μ' hr => ?_)
      obtain ⟨rfl, rfl⟩ := hr
      refine J_iload_n (i := 1) qX5_chain_45 rfl rfl ?_
      first | with_reducible refine J_imul_n qX5_chain_46 ?_ | refine J_imul qX5_chain_46 ?_
      first | with_reducible refine J_iadd_n qX5_chain_47 ?_ | refine J_iadd qX5_chain_47 ?_
      refine J_ist2 qX5_chain_48 (Nat.le_of_ble_eq_true rfl) rfl ?_
      refine J_inc3 qX5_chain_49 (Nat.le_of_ble_eq_true rfl) (dec_lv _) rfl ?_
      refine J_goto qX5_chain_52 ?_
      have h3 := ih (by omega)
      rw [chn_succ, show (sP s).1.length - (k + 1) = (sP s).1.length - 1 - k by omega, wg_step _ (by omega)] at h3
      rw [show sR s + wgF (sP s).1 ((sP s).1.length - k) k + (cg (sP s).1 ((sP s).1.length - 1 - k)).2.2.2 = sR s + ((cg (sP s).1 ((sP s).1.length - 1 - k)).2.2.2 + wgF (sP s).1 ((sP s).1.length - k) k) by omega]
      exact h3
  exact H 0 (Nat.zero_le _)
theorem x_worst (hL : LayX G) (h : RelX μ s) : Si mX5_worst (d+15) [.ref 0] G μ (fun q μ' => q = (worstS s).1 ∧ RelX μ' (worstS s).2 ∧ FrX μ μ') := by
  have hL0 := hL
  obtain ⟨hO, ⟨q0, q1, q2, q3, q4, q5, q6, q7, q8, q9, q10⟩, -, -, -, -, hp3, -, -, -, hpl, -⟩ := hL
  have hpo := hp3.1
  have hplO := hpl.1
  have hplf := hpl.2.1.2.2.2.2.1
  have hpf := hpl.2.2.1.2.2.2.2.1
  have e0 := h.2.2.1.1.1
  have k2 := h.2.2.1.2.2.1.2.1
  refine Si_of (ls := [.ref 0, .null, .null]) (by decide +kernel) (Nat.le_of_ble_eq_true rfl) rfl ?_
  refine J_aload_n (i := 0) qX5_worst_0 rfl rfl ?_
  refine J_getR qX5_worst_1 fX5_21 (by assumption) (by assumption) ?_
  refine J_getIe qX5_worst_4 fX5_135 (by assumption) (by (repeat first | with_reducible exact wI_e _ _ _ _ | (with_reducible apply rd_s; focus omega) | (with_reducible apply rd_c; focus omega) | (with_reducible apply rd_k; focus omega) | with_reducible exact rd_e (by omega)); first | done | assumption | rfl) ?_
  refine J_if_ne_n qX5_worst_7 (by omega) (fun c0 => ?_) (fun c0 => ?_)
  · have eW : worstS s = (nI (pg (PL s) (wrF (sP s).1 ((PL s).length - 1))).1, uAsk s (nI (thF (sP s).1 (wrF (sP s).1 ((PL s).length - 1))))) := if_neg c0
    refine J_aload_n (i := 0) qX5_worst_13 rfl rfl ?_
    refine J_vv0 qX5_worst_14 kX5_191 (by assumption) (x_renew (d := d) hL0 h) (Nat.le_of_ble_eq_true rfl) (fun ν hr => ?_)
    obtain ⟨h', hF, hA⟩ := hr
    have ho := h'.2.2.1.2.2.1.1
    have pl12 := prt_len true true k2
    have pl1 := (prt_seg (cs := (sP s).1) true true k2 (by omega)).1
    have e7 := hA.2.1
    refine J_pushI qX5_worst_17 ?_
    refine J_ist1 qX5_worst_18 (Nat.le_of_ble_eq_true rfl) rfl ?_
    refine J_pushI qX5_worst_19 ?_
    refine J_ist2 qX5_worst_20 (Nat.le_of_ble_eq_true rfl) rfl ?_
    have H : ∀ k, k ≤ (prtF (sP s).1 true true).length - 1 → J mX5_worst (d+15) (0, 0) s0 (Ki G (fun q μ' => q = (worstS s).1 ∧ RelX μ' (worstS s).2 ∧ FrX μ μ')) (0, 0) 21 [.ref 0, .int (nI (wrF (sP s).1 k)), .int (nI (k + 1))] [] (G, ν) := by
      refine ind_up (fun k hk ih => ?_)
      have wl := wrF_le (sP s).1 k
      have tl := thF_le ho k2 (k := wrF (sP s).1 k) (by omega)
      refine J_iload_n (i := 2) qX5_worst_21 rfl rfl ?_
      refine J_aload_n (i := 0) qX5_worst_22 rfl rfl ?_
      refine J_getR qX5_worst_23 fX5_53 (by assumption) (by assumption) ?_
      refine J_getIe qX5_worst_26 fX5_244 (by assumption) (by (repeat first | with_reducible exact wI_e _ _ _ _ | (with_reducible apply rd_s; focus omega) | (with_reducible apply rd_c; focus omega) | (with_reducible apply rd_k; focus omega) | with_reducible exact rd_e (by omega)); first | done | assumption | rfl) ?_
      first | with_reducible refine J_icmp_ge_n qX5_worst_29 (by omega) (by omega) (fun c1 => ?_) (fun c1 => ?_) | refine J_icmp_ge qX5_worst_29 (fun c1 => ?_) (fun c1 => ?_)
      · have ap := at_p hA.2.2.2 (k := wrF (sP s).1 k) (by omega)
        have e2 := ap.1
        refine J_aload_n (i := 0) qX5_worst_59 rfl rfl ?_
        refine J_aload_n (i := 0) qX5_worst_60 rfl rfl ?_
        refine J_getR qX5_worst_61 fX5_53 (by assumption) (by assumption) ?_
        refine J_iload_n (i := 1) qX5_worst_64 rfl rfl ?_
        refine J_vi1 qX5_worst_65 kX5_198 (by assumption) (l_stepsThrough (d := d + 13) hpl hA k2 (k := wrF (sP s).1 k) (by omega)) (Nat.le_of_ble_eq_true rfl) (fun v1 μ' hr => ?_)
        obtain ⟨rfl, rfl⟩ := hr
        refine J_putI qX5_worst_68 fX5_68p (by assumption) rfl rfl ?_
        refine J_aload_n (i := 0) qX5_worst_71 rfl rfl ?_
        refine J_getR qX5_worst_72 fX5_53 (by assumption) (by assumption) ?_
        refine J_getR qX5_worst_75 fX5_211 (by assumption) (by assumption) ?_
        refine J_iload_n (i := 1) qX5_worst_78 rfl rfl ?_
        refine J_ialde qX5_worst_79 (by assumption) rfl (by omega) (by (repeat first | with_reducible exact wI_e _ _ _ _ | (with_reducible apply rd_s; focus omega) | (with_reducible apply rd_c; focus omega) | (with_reducible apply rd_k; focus omega) | with_reducible exact rd_e (by omega)); first | done | assumption | rfl) ?_
        refine Ji_ret qX5_worst_80 ?_
        obtain ⟨u1, u2⟩ := h'.ask (nI (thF (sP s).1 (wrF (sP s).1 k)))
        rw [eW, show (PL s).length - 1 = k by show (prtF (sP s).1 true true).length - 1 = k; omega]
        exact ⟨rfl, u1, hF.tr u2⟩
      · have tl2 := thF_le ho k2 (k := k + 1) (by omega)
        refine J_aload_n (i := 0) qX5_worst_32 rfl rfl ?_
        refine J_getR qX5_worst_33 fX5_53 (by assumption) (by assumption) ?_
        refine J_iload_n (i := 2) qX5_worst_36 rfl rfl ?_
        refine J_vi1 qX5_worst_37 kX5_198 (by assumption) (l_stepsThrough (d := d + 13) hpl hA k2 (k := k + 1) (by omega)) (Nat.le_of_ble_eq_true rfl) (fun v1 μ' hr => ?_)
        obtain ⟨rfl, rfl⟩ := hr
        refine J_aload_n (i := 0) qX5_worst_40 rfl rfl ?_
        refine J_getR qX5_worst_41 fX5_53 (by assumption) (by assumption) ?_
        refine J_iload_n (i := 1) qX5_worst_44 rfl rfl ?_
        refine J_vi1 qX5_worst_45 kX5_198 (by assumption) (l_stepsThrough (d := d + 13) hpl hA k2 (k := wrF (sP s).1 k) (by omega)) (Nat.le_of_ble_eq_true rfl) (fun v1 μ' hr => ?_)
        obtain ⟨rfl, rfl⟩ := hr
        have h3 := ih (by omega)
        rw [wrF_succ] at h3
        unfold thF at h3 tl tl2
        refine J_icmp_le_n qX5_worst_48 (by omega) (by omega) (fun c2 => ?_) (fun c2 => ?_)
        · rw [if_neg (by omega)] at h3
          refine J_inc2 qX5_worst_53 (Nat.le_of_ble_eq_true rfl) (by first | with_reducible exact nI_inc _ | rfl) rfl ?_
          refine J_goto qX5_worst_56 ?_
          exact h3
        · rw [if_pos (by omega)] at h3
          refine J_iload_n (i := 2) qX5_worst_51 rfl rfl ?_
          refine J_ist1 qX5_worst_52 (Nat.le_of_ble_eq_true rfl) rfl ?_
          refine J_inc2 qX5_worst_53 (Nat.le_of_ble_eq_true rfl) (by first | with_reducible exact nI_inc _ | rfl) rfl ?_
          refine J_goto qX5_worst_56 ?_
          exact h3
    exact H 0 (Nat.zero_le _)
  · rw [show worstS s = (-4, s) from if_pos c0]
    refine J_pushI qX5_worst_10 ?_
    refine Ji_ret qX5_worst_12 ?_
    exact ⟨rfl, h, FrX.rf⟩
theorem x_swing (hL : LayX G) (h : RelX μ s) (i : Int32) : Si mX5_swing (d+15) [.ref 0, .int i] G μ (fun q μ' => q = (swingS s i).1 ∧ RelX μ' (swingS s i).2 ∧ FrX μ μ') := by
  have hL0 := hL
  obtain ⟨hO, ⟨q0, q1, q2, q3, q4, q5, q6, q7, q8, q9, q10⟩, -, -, -, -, hp3, hp16, -, -, hpl, hpx⟩ := hL
  have hpo := hp3.1
  have hpr := hp3.2.1.2.2.2
  have hpa := hp3.2.2.2.1.2.2.2
  have hdo := hp16.1
  have hdr := hp16.2.1.2.2.2
  have hda := hp16.2.2.2.1.2.2.2
  have hpxO := hpx.1
  have k2 := h.2.2.1.2.2.1.2.1
  refine Si_of (ls := [.ref 0, .int i, .null]) (by decide +kernel) (Nat.le_of_ble_eq_true rfl) rfl ?_
  refine J_aload_n (i := 0) qX5_swing_0 rfl rfl ?_
  refine J_getR qX5_swing_1 fX5_21 (by assumption) (by assumption) ?_
  refine J_iload_n (i := 1) qX5_swing_4 rfl rfl ?_
  refine J_vi1 qX5_swing_5 kX5_147 (by assumption) (p_has (d := d + 14) hp3 h.2.2.1.1 i) (Nat.le_of_ble_eq_true rfl) (fun v1 μ' hr => ?_)
  obtain ⟨rfl, rfl⟩ := hr
  cases hb : hasB (sP s).1.length i with
  | false =>
    first | refine J_if_ne qX5_swing_8 (fun c => absurd b2i_f0 c) (fun _ => ?_) | refine J_if_ne qX5_swing_8 (fun _ => ?_) (fun c => absurd c b2i_t0)
    rw [show swingS s i = (-1, s) from if_pos hb]
    refine J_pushI qX5_swing_11 ?_
    refine Ji_ret qX5_swing_12 ?_
    exact ⟨rfl, h, FrX.rf⟩
  | true =>
    first | refine J_if_ne qX5_swing_8 (fun c => absurd b2i_f0 c) (fun _ => ?_) | refine J_if_ne qX5_swing_8 (fun _ => ?_) (fun c => absurd c b2i_t0)
    have eS : swingS s i = swV s (ix i) (swF (sP s).1 (ix i) 10 0) := if_neg (by rw [hb]; decide)
    obtain ⟨k, hk, rfl⟩ := hasB_of (by omega) hb
    rw [ix_n (by omega)] at eS
    refine J_aload_n (i := 0) qX5_swing_13 rfl rfl ?_
    refine J_vv0 qX5_swing_14 kX5_191 (by assumption) (x_renew (d := d) hL0 h) (Nat.le_of_ble_eq_true rfl) (fun ν hr => ?_)
    obtain ⟨h', hF, hA⟩ := hr
    obtain ⟨x1, x2, x3, x4⟩ := h'.2.2.1
    have own := (x3.1.1 k hk).2.2
    refine J_aload_n (i := 0) qX5_swing_17 rfl rfl ?_
    refine J_getR qX5_swing_18 fX5_33 (by assumption) (by assumption) ?_
    refine J_aload_n (i := 0) qX5_swing_21 rfl rfl ?_
    refine J_getR qX5_swing_22 fX5_21 (by assumption) (by assumption) ?_
    refine J_vv1 qX5_swing_25 kX5_131 (by assumption) (p_take (d := d + 13) hp16 hp3 (by omega) x1 x2) (Nat.le_of_ble_eq_true rfl) (fun ν1 hr => ?_)
    obtain ⟨t1, -, -, t4⟩ := hr
    refine J_pushI qX5_swing_28 ?_
    refine J_ist2 qX5_swing_29 (Nat.le_of_ble_eq_true rfl) rfl ?_
    have H : ∀ w, w ≤ 10 → ∀ (ν2 : Mm) (w' : Nat), (∀ c q, ¬ ((16 ≤ c ∧ c ≤ 26) ∨ (88 ≤ c ∧ c ≤ 143)) → ν2.1 c q = ν.1 c q) → ν2.2 = ν.2 → AbC ν2 16 (setW (sP s).1 k w') → swF (sP s).1 k 10 0 = swF (sP s).1 k (10 - w) w → J mX5_swing (d+15) (0, 0) s0 (Ki G (fun q μ' => q = (swingS s (nI k)).1 ∧ RelX μ' (swingS s (nI k)).2 ∧ FrX μ μ')) (0, 0) 30 [.ref 0, .int (nI k), .int (nI w)] [] (G, ν2) := by
      refine ind_up (fun w hw ih ν2 w' hF2 hG2 hC2 hE => ?_)
      obtain ⟨r1, r2⟩ := h'.free (μ' := ν2) (fun c q z => hF2 _ _ (by omega)) (fun c q z => by rw [hG2])
      have y1 := r1.2.2.1.1
      refine J_iload_n (i := 2) qX5_swing_30 rfl rfl ?_
      refine J_pushI qX5_swing_31 ?_
      first | with_reducible refine J_icmp_ge_n qX5_swing_33 (by omega) (by omega) (fun c1 => ?_) (fun c1 => ?_) | refine J_icmp_ge qX5_swing_33 (fun c1 => ?_) (fun c1 => ?_)
      · refine J_pushI qX5_swing_105 ?_
        refine Ji_ret qX5_swing_107 ?_
        rw [eS, hE, show 10 - w = 0 by omega]
        exact ⟨rfl, r1, hF.tr r2⟩
      · rw [show 10 - w = (10 - (w + 1)) + 1 by omega, swF_succ (sP s).1 k (10 - (w + 1)) w] at hE
        have e1 := (y1.2.2 k hk).2.2.2
        refine J_iload_n (i := 2) qX5_swing_36 rfl rfl ?_
        refine J_aload_n (i := 0) qX5_swing_37 rfl rfl ?_
        refine J_getR qX5_swing_38 fX5_21 (by assumption) (by assumption) ?_
        refine J_getR qX5_swing_41 fX5_176 (by assumption) (by assumption) ?_
        refine J_iload_n (i := 1) qX5_swing_44 rfl rfl ?_
        refine J_ialde qX5_swing_45 (by assumption) rfl (by omega) (by (repeat first | with_reducible exact wI_e _ _ _ _ | (with_reducible apply rd_s; focus omega) | (with_reducible apply rd_c; focus omega) | (with_reducible apply rd_k; focus omega) | with_reducible exact rd_e (by omega)); first | done | assumption | rfl) ?_
        refine J_icmp_eq_n qX5_swing_46 (by omega) (by omega) (fun c2 => ?_) (fun c2 => ?_)
        · rw [if_neg (fun z => z.1 c2)] at hE
          refine J_inc2 qX5_swing_99 (Nat.le_of_ble_eq_true rfl) (by first | with_reducible exact nI_inc _ | rfl) rfl ?_
          refine J_goto qX5_swing_102 ?_
          exact ih (by omega) ν2 w' hF2 hG2 hC2 hE
        · have hC3 := hC2.setW (i := k) (by rw [setW_len]; exact hk) w
          rw [setW_setW _ _ _ _ hk] at hC3
          refine J_aload_n (i := 0) qX5_swing_49 rfl rfl ?_
          refine J_getR qX5_swing_50 fX5_33 (by assumption) (by assumption) ?_
          refine J_getR qX5_swing_53 fX5_176 (by assumption) (by assumption) ?_
          refine J_iload_n (i := 1) qX5_swing_56 rfl rfl ?_
          refine J_iload_n (i := 2) qX5_swing_57 rfl rfl ?_
          refine J_iast qX5_swing_58 (by assumption) rfl (by omega) ?_
          refine J_aload_n (i := 0) qX5_swing_59 rfl rfl ?_
          refine J_getR qX5_swing_60 fX5_57 (by assumption) (by assumption) ?_
          refine J_aload_n (i := 0) qX5_swing_63 rfl rfl ?_
          refine J_getR qX5_swing_64 fX5_33 (by assumption) (by assumption) ?_
          refine J_pushI qX5_swing_67 ?_
          refine J_pushI qX5_swing_68 ?_
          refine J_vv3 qX5_swing_69 kX5_234 (by assumption) (l_make (d := d + 1) (rw := true) (mk := true) hpx hp16 (by omega) hC3 (ok_setW x3.1 hk (by omega))) (Nat.le_of_ble_eq_true rfl) (fun ν3 hr => ?_)
          obtain ⟨g1, g2⟩ := hr
          have hF3 : ∀ c q, ¬ ((16 ≤ c ∧ c ≤ 26) ∨ (88 ≤ c ∧ c ≤ 143)) → ν3.1 c q = ν.1 c q := fun c q z => by rw [g2.1 _ _ (by omega), wI_n (by omega)]; exact hF2 c q z
          have hG3 : ν3.2 = ν.2 := g2.2.trans hG2
          obtain ⟨r3, r4⟩ := h'.free (μ' := ν3) (fun c q z => hF3 _ _ (by omega)) (fun c q z => by rw [hG3])
          have hA3 : AbPl ν3 32 (sP s).1 true true := hA.ag k2 (fun c q x y => hF3 _ _ (by omega))
          have hC4 : AbC ν3 16 (setW (sP s).1 k w) := hC3.ag (fun c q x y => g2.1 _ _ (by omega))
          refine J_aload_n (i := 0) qX5_swing_72 rfl rfl ?_
          refine J_getR qX5_swing_73 fX5_57 (by assumption) (by assumption) ?_
          refine J_aload_n (i := 0) qX5_swing_76 rfl rfl ?_
          refine J_getR qX5_swing_77 fX5_53 (by assumption) (by assumption) ?_
          refine J_vi1 qX5_swing_80 kX5_247 (by assumption) (l_hasPartsOf (d := d + 13) hpx g1 (by rw [setW_len]; exact k2) hpl hA3 k2) (Nat.le_of_ble_eq_true rfl) (fun v1 μ' hr => ?_)
          obtain ⟨rfl, rfl⟩ := hr
          cases hs : sameB (setW (sP s).1 k w) (sP s).1 true true with
          | false =>
            first | refine J_if_ne qX5_swing_83 (fun c => absurd b2i_f0 c) (fun _ => ?_) | refine J_if_ne qX5_swing_83 (fun _ => ?_) (fun c => absurd c b2i_t0)
            rw [if_pos ⟨c2, hs⟩] at hE
            have e7 := g1.2.1
            refine J_aload_n (i := 0) qX5_swing_86 rfl rfl ?_
            refine J_aload_n (i := 0) qX5_swing_87 rfl rfl ?_
            refine J_getR qX5_swing_88 fX5_57 (by assumption) (by assumption) ?_
            refine J_getIe qX5_swing_91 fX5_244 (by assumption) (by (repeat first | with_reducible exact wI_e _ _ _ _ | (with_reducible apply rd_s; focus omega) | (with_reducible apply rd_c; focus omega) | (with_reducible apply rd_k; focus omega) | with_reducible exact rd_e (by omega)); first | done | assumption | rfl) ?_
            refine J_putI qX5_swing_94 fX5_68p (by assumption) rfl rfl ?_
            refine J_iload_n (i := 2) qX5_swing_97 rfl rfl ?_
            refine Ji_ret qX5_swing_98 ?_
            obtain ⟨u1, u2⟩ := r3.ask (nI (prtF (setW (sP s).1 k w) true true).length)
            rw [eS, hE]
            exact ⟨rfl, u1, (hF.tr r4).tr u2⟩
          | true =>
            first | refine J_if_ne qX5_swing_83 (fun c => absurd b2i_f0 c) (fun _ => ?_) | refine J_if_ne qX5_swing_83 (fun _ => ?_) (fun c => absurd c b2i_t0)
            rw [if_neg (fun z => by rw [hs] at z; cases z.2)] at hE
            refine J_inc2 qX5_swing_99 (Nat.le_of_ble_eq_true rfl) (by first | with_reducible exact nI_inc _ | rfl) rfl ?_
            refine J_goto qX5_swing_102 ?_
            exact ih (by omega) ν3 w hF3 hG3 hC4 hE
    refine H 0 (Nat.zero_le _) ν1 (cg (sP s).1 k).2.2.2 (fun c q z => t4.1 _ _ (by omega)) t4.2 ?_ rfl
    rw [setW_self _ _ hk]
    exact t1
theorem x_covered (hL : LayX G) (h : RelX μ s) (lo hi : Int32) : Sl mX5_covered (d+1) [.ref 0, .int lo, .int hi] G μ (fun q μ' => q = (coveredS s lo hi).1 ∧ RelX μ' (coveredS s lo hi).2 ∧ FrX μ μ') := by
  obtain ⟨hO, ⟨q0, q1, q2, q3, q4, q5, q6, q7, q8, q9, q10⟩, -, -, -, -, hp3, -⟩ := hL
  obtain ⟨hPO, ⟨z0, z1, z2, z3⟩, -, ⟨y1, y2, y3, y4⟩, -⟩ := hp3
  obtain ⟨x1, x2, x3, x4⟩ := h.2.2.1
  have k2 := x3.2.1
  have e0 := x1.1
  refine Sl_of (ls := [.ref 0, .int lo, .int hi, .null, .null, .null, .null, .null, .null, .null]) (by decide +kernel) (Nat.le_of_ble_eq_true rfl) rfl ?_
  refine J_iload_n (i := 1) qX5_covered_0 rfl rfl ?_
  refine J_iload_n (i := 2) qX5_covered_1 rfl rfl ?_
  refine J_icmp_le qX5_covered_2 (fun c1 => ?_) (fun c1 => ?_)
  · refine J_pushL qX5_covered_9 ?_
    refine J_lst3 qX5_covered_10 (Nat.le_of_ble_eq_true rfl) rfl ?_
    refine J_pushI qX5_covered_11 ?_
    refine J_ist5 qX5_covered_12 (Nat.le_of_ble_eq_true rfl) rfl ?_
    have H : ∀ k, k ≤ (sP s).1.length → ∀ v w : Value, J mX5_covered (d+1) (0, 0) s0 (Kl G (fun q μ' => q = (coveredS s lo hi).1 ∧ RelX μ' (coveredS s lo hi).2 ∧ FrX μ μ')) (0, 0) 14 [.ref 0, .int lo, .int hi, .long (cvF (sP s).1 lo hi k), .null, .int (nI k), v, .null, w, .null] [] (G, μ) := by
      refine ind_up (fun k hk ih v w => ?_)
      refine J_iload (i := 5) qX5_covered_14 rfl ?_
      refine J_aload_n (i := 0) qX5_covered_16 rfl rfl ?_
      refine J_getR qX5_covered_17 fX5_21 (by assumption) (by assumption) ?_
      refine J_getIe qX5_covered_20 fX5_135 (by assumption) (by (repeat first | with_reducible exact wI_e _ _ _ _ | (with_reducible apply rd_s; focus omega) | (with_reducible apply rd_c; focus omega) | (with_reducible apply rd_k; focus omega) | with_reducible exact rd_e (by omega)); first | done | assumption | rfl) ?_
      first | with_reducible refine J_icmp_ge_n qX5_covered_23 (by omega) (by omega) (fun c2 => ?_) (fun c2 => ?_) | refine J_icmp_ge qX5_covered_23 (fun c2 => ?_) (fun c2 => ?_)
      · refine J_lload_n (i := 3) qX5_covered_84 rfl rfl ?_
        refine Jl_ret qX5_covered_85 ?_
        rw [show coveredS s lo hi = (cvF (sP s).1 lo hi (sP s).1.length, s) from if_neg (Int32.not_lt.mpr c1), show (sP s).1.length = k by omega]
        exact ⟨rfl, h, FrX.rf⟩
      · obtain ⟨e1, e2, -, -⟩ := x1.2.2 k c2
        refine J_iload_n (i := 1) qX5_covered_26 rfl rfl ?_
        refine J_aload_n (i := 0) qX5_covered_27 rfl rfl ?_
        refine J_getR qX5_covered_28 fX5_21 (by assumption) (by assumption) ?_
        refine J_getR qX5_covered_31 fX5_221 (by assumption) (by assumption) ?_
        refine J_iload (i := 5) qX5_covered_34 rfl ?_
        refine J_ialde qX5_covered_36 (by assumption) rfl (by omega) (by (repeat first | with_reducible exact wI_e _ _ _ _ | (with_reducible apply rd_s; focus omega) | (with_reducible apply rd_c; focus omega) | (with_reducible apply rd_k; focus omega) | with_reducible exact rd_e (by omega)); first | done | assumption | rfl) ?_
        refine J_mmax qX5_covered_37 kX5_253 (Nat.le_of_ble_eq_true rfl) ?_
        refine J_i2l qX5_covered_40 ?_
        refine J_lst6 qX5_covered_41 (Nat.le_of_ble_eq_true rfl) rfl ?_
        refine J_iload_n (i := 2) qX5_covered_43 rfl rfl ?_
        refine J_aload_n (i := 0) qX5_covered_44 rfl rfl ?_
        refine J_getR qX5_covered_45 fX5_21 (by assumption) (by assumption) ?_
        refine J_getR qX5_covered_48 fX5_258 (by assumption) (by assumption) ?_
        refine J_iload (i := 5) qX5_covered_51 rfl ?_
        refine J_ialde qX5_covered_53 (by assumption) rfl (by omega) (by (repeat first | with_reducible exact wI_e _ _ _ _ | (with_reducible apply rd_s; focus omega) | (with_reducible apply rd_c; focus omega) | (with_reducible apply rd_k; focus omega) | with_reducible exact rd_e (by omega)); first | done | assumption | rfl) ?_
        refine J_mmin qX5_covered_54 kX5_261 (Nat.le_of_ble_eq_true rfl) ?_
        refine J_i2l qX5_covered_57 ?_
        refine J_lst8 qX5_covered_58 (Nat.le_of_ble_eq_true rfl) rfl ?_
        refine J_lload (i := 6) qX5_covered_60 rfl ?_
        refine J_lload (i := 8) qX5_covered_62 rfl ?_
        have h3 := ih c2
        rw [cvF_succ] at h3
        refine J_lif_gt qX5_covered_64 qX5_covered_65 (fun c3 => ?_) (fun c3 => ?_)
        · rw [if_pos c3] at h3
          refine J_inc5 qX5_covered_78 (Nat.le_of_ble_eq_true rfl) (by first | with_reducible exact nI_inc _ | rfl) rfl ?_
          refine J_goto qX5_covered_81 ?_
          exact h3 _ _
        · rw [if_neg c3] at h3
          refine J_lload_n (i := 3) qX5_covered_68 rfl rfl ?_
          refine J_lload (i := 8) qX5_covered_69 rfl ?_
          refine J_lload (i := 6) qX5_covered_71 rfl ?_
          refine J_lsub qX5_covered_73 ?_
          refine J_pushL qX5_covered_74 ?_
          refine J_ladd qX5_covered_75 ?_
          refine J_ladd qX5_covered_76 ?_
          refine J_lst3 qX5_covered_77 (Nat.le_of_ble_eq_true rfl) rfl ?_
          refine J_inc5 qX5_covered_78 (Nat.le_of_ble_eq_true rfl) (by first | with_reducible exact nI_inc _ | rfl) rfl ?_
          refine J_goto qX5_covered_81 ?_
          exact h3 _ _
    exact H 0 (Nat.zero_le _) .null .null
  · rw [show coveredS s lo hi = (-1, s) from if_pos (i32_nle c1)]
    refine J_pushL qX5_covered_5 ?_
    refine Jl_ret qX5_covered_8 ?_
    exact ⟨rfl, h, FrX.rf⟩
end XX
