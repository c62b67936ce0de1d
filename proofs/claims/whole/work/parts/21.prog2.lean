/-! PROGRAM: what it tells of its CASES -/
theorem ni_and (a b : Nat) : nI a &&& nI b = nI (a &&& b) := by
  apply Int32.toBitVec_inj.1
  show BitVec.ofNat 32 a &&& BitVec.ofNat 32 b = BitVec.ofNat 32 (a &&& b)
  apply BitVec.eq_of_getLsbD_eq
  intro i hi
  simp [hi]
theorem ni_or (a b : Nat) : nI a ||| nI b = nI (a ||| b) := by
  apply Int32.toBitVec_inj.1
  show BitVec.ofNat 32 a ||| BitVec.ofNat 32 b = BitVec.ofNat 32 (a ||| b)
  apply BitVec.eq_of_getLsbD_eq
  intro i hi
  simp [hi]
theorem ni_shl1 : ∀ a, a < 8 → nI 1 <<< (nI a &&& 31) = nI (2 ^ a) := by decide +kernel
def popF (s : Nat) : Nat := s % 2 + s / 2 % 2 + s / 4 % 2 + s / 8 % 2 + s / 16 % 2 + s / 32 % 2 + s / 64 % 2 + s / 128 % 2
/-- the AIMS of m CASES from i on, as bits -/
def seenF (cs : List Cs) (i : Nat) : Nat → Nat
  | 0 => 0
  | m + 1 => seenF cs i m ||| 2 ^ (cg cs (i + m)).2.2.1
theorem seen_lt {cs : List Cs} (ho : OkC cs) (i : Nat) : ∀ m, i + m ≤ cs.length → seenF cs i m < 256
  | 0, _ => Nat.zero_lt_succ 255
  | m + 1, h => by
    have h1 := seen_lt ho i m (by omega)
    have h2 : 2 ^ (cg cs (i + m)).2.2.1 < 2 ^ 8 := Nat.pow_lt_pow_right (by decide) (ho.1 (i + m) (by omega)).2.1
    exact Nat.or_lt_two_pow (n := 8) h1 h2
def aimF (cs : List Cs) (i m : Nat) : Nat := popF (seenF cs i m)
/-- Integer.bitCount, as its code says -/
def bcF (x0 : Int32) : Int32 :=
  let x1 := x0 - ((x0.toUInt32 >>> ((nI 1).toUInt32 &&& Int32.toUInt32 31)).toInt32 &&& nI 1431655765)
  let x2 := (x1 &&& nI 858993459) + ((x1.toUInt32 >>> ((nI 2).toUInt32 &&& Int32.toUInt32 31)).toInt32 &&& nI 858993459)
  let x3 := (x2 + (x2.toUInt32 >>> ((nI 4).toUInt32 &&& Int32.toUInt32 31)).toInt32) &&& nI 252645135
  let x4 := x3 + (x3.toUInt32 >>> ((nI 8).toUInt32 &&& Int32.toUInt32 31)).toInt32
  let x5 := x4 + (x4.toUInt32 >>> ((nI 16).toUInt32 &&& Int32.toUInt32 31)).toInt32
  x5 &&& nI 63
theorem bc_ok : ∀ s, s < 256 → bcF (nI s) = nI (popF s) := by decide +kernel
section PR
variable {G : Gm} {μ : Mm} {b d : Nat} {cs : List Cs}
theorem J_ldcw {mi : MI} {lim : Nat × Nat} {sc : Nat × (Nat → Int32)} {K : Option Value → Wd → Prop} {cs : Nat × Nat} {pc nx i : Nat} {ls st : List Value} {w : Wd} {v : Int32} (h : Dc mi pc (.ldc_w i) 3 nx) (hw : Cond.constant mi.1.cls i v ∈ lw_g) (k : J mi d lim sc K cs nx ls (.int v :: st) w) : J mi d lim sc K cs pc ls st w := by
  obtain ⟨hd, rfl⟩ := h
  intro p l e R s m args below meth c H locs D tc ad A lr Q hC hR hE hL hret
  exact lv_ldcw hC.1 hC.2.1 hC.2.2.2.2.1 (hC.2.2.2.2.2.1 _ hw) hd (k p l e R s m args below meth c H locs D tc ad A lr Q hC hR hE hL hret)
theorem j_bitCount (x : Int32) : Si mJ6_bitCount_0f7a4 (d) [.int x] G μ (fun r μ' => μ = μ' ∧ r = bcF x) := by
  refine Si_of (ls := [.int x]) (by decide +kernel) (Nat.le_of_ble_eq_true rfl) rfl ?_
  refine J_iload_n (i := 0) qJ6_bitCount_0f7a4_0 rfl rfl ?_
  refine J_iload_n (i := 0) qJ6_bitCount_0f7a4_1 rfl rfl ?_
  refine J_pushI qJ6_bitCount_0f7a4_2 ?_
  refine J_iushr qJ6_bitCount_0f7a4_3 ?_
  refine J_ldcw (i := 265) (v := nI 1431655765) ⟨by decide +kernel, rfl⟩ (lw_at 687 (by decide +kernel) rfl) ?_
  refine J_iand qJ6_bitCount_0f7a4_7 ?_
  first | with_reducible refine J_isub_n qJ6_bitCount_0f7a4_8 (by omega) ?_ | refine J_isub qJ6_bitCount_0f7a4_8 ?_
  refine J_ist0 qJ6_bitCount_0f7a4_9 (Nat.le_of_ble_eq_true rfl) ?_
  refine J_iload_n (i := 0) qJ6_bitCount_0f7a4_10 rfl rfl ?_
  refine J_ldcw (i := 266) (v := nI 858993459) ⟨by decide +kernel, rfl⟩ (lw_at 688 (by decide +kernel) rfl) ?_
  refine J_iand qJ6_bitCount_0f7a4_14 ?_
  refine J_iload_n (i := 0) qJ6_bitCount_0f7a4_15 rfl rfl ?_
  refine J_pushI qJ6_bitCount_0f7a4_16 ?_
  refine J_iushr qJ6_bitCount_0f7a4_17 ?_
  refine J_ldcw (i := 266) (v := nI 858993459) ⟨by decide +kernel, rfl⟩ (lw_at 688 (by decide +kernel) rfl) ?_
  refine J_iand qJ6_bitCount_0f7a4_21 ?_
  first | with_reducible refine J_iadd_n qJ6_bitCount_0f7a4_22 ?_ | refine J_iadd qJ6_bitCount_0f7a4_22 ?_
  refine J_ist0 qJ6_bitCount_0f7a4_23 (Nat.le_of_ble_eq_true rfl) ?_
  refine J_iload_n (i := 0) qJ6_bitCount_0f7a4_24 rfl rfl ?_
  refine J_iload_n (i := 0) qJ6_bitCount_0f7a4_25 rfl rfl ?_
  refine J_pushI qJ6_bitCount_0f7a4_26 ?_
  refine J_iushr qJ6_bitCount_0f7a4_27 ?_
  first | with_reducible refine J_iadd_n qJ6_bitCount_0f7a4_28 ?_ | refine J_iadd qJ6_bitCount_0f7a4_28 ?_
  refine J_ldcw (i := 267) (v := nI 252645135) ⟨by decide +kernel, rfl⟩ (lw_at 689 (by decide +kernel) rfl) ?_
  refine J_iand qJ6_bitCount_0f7a4_32 ?_
  refine J_ist0 qJ6_bitCount_0f7a4_33 (Nat.le_of_ble_eq_true rfl) ?_
  refine J_iload_n (i := 0) qJ6_bitCount_0f7a4_34 rfl rfl ?_
  refine J_iload_n (i := 0) qJ6_bitCount_0f7a4_35 rfl rfl ?_
  refine J_pushI qJ6_bitCount_0f7a4_36 ?_
  refine J_iushr qJ6_bitCount_0f7a4_38 ?_
  first | with_reducible refine J_iadd_n qJ6_bitCount_0f7a4_39 ?_ | refine J_iadd qJ6_bitCount_0f7a4_39 ?_
  refine J_ist0 qJ6_bitCount_0f7a4_40 (Nat.le_of_ble_eq_true rfl) ?_
  refine J_iload_n (i := 0) qJ6_bitCount_0f7a4_41 rfl rfl ?_
  refine J_iload_n (i := 0) qJ6_bitCount_0f7a4_42 rfl rfl ?_
  refine J_pushI qJ6_bitCount_0f7a4_43 ?_
  refine J_iushr qJ6_bitCount_0f7a4_45 ?_
  first | with_reducible refine J_iadd_n qJ6_bitCount_0f7a4_46 ?_ | refine J_iadd qJ6_bitCount_0f7a4_46 ?_
  refine J_ist0 qJ6_bitCount_0f7a4_47 (Nat.le_of_ble_eq_true rfl) ?_
  refine J_iload_n (i := 0) qJ6_bitCount_0f7a4_48 rfl rfl ?_
  refine J_pushI qJ6_bitCount_0f7a4_49 ?_
  refine J_iand qJ6_bitCount_0f7a4_51 ?_
  refine Ji_ret qJ6_bitCount_0f7a4_52 ?_
  exact ⟨rfl, rfl⟩
theorem p_span (hP : IsP G b) (hc : AbC μ b cs) {i j : Nat} (hi : i < cs.length) (hj : j < cs.length) : Sl mX1_span (d) [.ref b, .int (nI i), .int (nI j)] G μ (fun r μ' => μ = μ' ∧ r = spanF cs i j) := by
  obtain ⟨hO, ⟨r0, r1, r2, r3⟩, -, ⟨a1, a2, a3, a4⟩, -⟩ := hP
  obtain ⟨hn, h12, hk⟩ := hc
  refine Sl_of (ls := [.ref b, .int (nI i), .int (nI j)]) (by decide +kernel) (Nat.le_of_ble_eq_true rfl) rfl ?_
  refine J_aload_n (i := 0) qX1_span_0 rfl rfl ?_
  refine J_getR qX1_span_1 fX1_15 (by assumption) (by assumption) ?_
  refine J_iload_n (i := 2) qX1_span_4 rfl rfl ?_
  refine J_iald qX1_span_5 (by assumption) rfl (by omega) ?_
  rw [(hk j hj).2.1]
  refine J_i2l qX1_span_6 ?_
  refine J_aload_n (i := 0) qX1_span_7 rfl rfl ?_
  refine J_getR qX1_span_8 fX1_9 (by assumption) (by assumption) ?_
  refine J_iload_n (i := 1) qX1_span_11 rfl rfl ?_
  refine J_iald qX1_span_12 (by assumption) rfl (by omega) ?_
  rw [(hk i hi).1]
  refine J_i2l qX1_span_13 ?_
  refine J_lsub qX1_span_14 ?_
  refine J_pushL qX1_span_15 ?_
  refine J_ladd qX1_span_16 ?_
  refine Jl_ret qX1_span_17 ?_
  exact ⟨rfl, rfl⟩
theorem p_numbersIn (hP : IsP G b) (hc : AbC μ b cs) {i j : Nat} (hij : i ≤ j) (hj : j < cs.length) : Sl mX1_numbersIn (d+1) [.ref b, .int (nI i), .int (nI j)] G μ (fun r μ' => μ = μ' ∧ r = numF cs i (j + 1 - i)) := by
  have hc0 := hc
  have hP0 := hP
  obtain ⟨hO, -⟩ := hP
  obtain ⟨hn, h12, hk⟩ := hc
  refine Sl_of (ls := [.ref b, .int (nI i), .int (nI j), .null, .null, .null]) (by decide +kernel) (Nat.le_of_ble_eq_true rfl) rfl ?_
  refine J_pushL qX1_numbersIn_0 ?_
  refine J_lst3 qX1_numbersIn_1 (Nat.le_of_ble_eq_true rfl) rfl ?_
  refine J_iload_n (i := 1) qX1_numbersIn_2 rfl rfl ?_
  refine J_ist5 qX1_numbersIn_3 (Nat.le_of_ble_eq_true rfl) rfl ?_
  refine ind_up (n := j + 1 - i) (P := fun m => J mX1_numbersIn (d+1) (0, 0) s0 (Kl G (fun r μ' => μ = μ' ∧ r = numF cs i (j + 1 - i))) (0, 0) 5 [.ref b, .int (nI i), .int (nI j), .long (numF cs i m), .null, .int (nI (i + m))] [] (G, μ)) (fun m hm ih => ?_) 0 (Nat.zero_le _)
  refine J_iload (i := 5) qX1_numbersIn_5 rfl ?_
  refine J_iload_n (i := 2) qX1_numbersIn_7 rfl rfl ?_
  first | with_reducible refine J_icmp_gt_n qX1_numbersIn_8 (by omega) (by omega) (fun c => ?_) (fun c => ?_) | refine J_icmp_gt qX1_numbersIn_8 (fun c => ?_) (fun c => ?_)
  · refine J_lload_n (i := 3) qX1_numbersIn_28 rfl rfl ?_
    refine Jl_ret qX1_numbersIn_29 ?_
    exact ⟨rfl, by rw [show m = j + 1 - i by omega]⟩
  · refine J_lload_n (i := 3) qX1_numbersIn_11 rfl rfl ?_
    refine J_aload_n (i := 0) qX1_numbersIn_12 rfl rfl ?_
    refine J_iload (i := 5) qX1_numbersIn_13 rfl ?_
    refine J_iload (i := 5) qX1_numbersIn_15 rfl ?_
    refine J_vl2 qX1_numbersIn_17 kX1_58 (by assumption) (p_span hP0 hc0 (i := i + m) (j := i + m) (by omega) (by omega)) (Nat.le_of_ble_eq_true rfl) (fun r μ' hr => ?_)
    obtain ⟨rfl, rfl⟩ := hr
    refine J_ladd qX1_numbersIn_20 ?_
    refine J_lst3 qX1_numbersIn_21 (Nat.le_of_ble_eq_true rfl) rfl ?_
    refine J_inc5 qX1_numbersIn_22 (Nat.le_of_ble_eq_true rfl) (by first | exact nI_inc _ | exact nI_dec _ | rfl) rfl ?_
    refine J_goto qX1_numbersIn_25 ?_
    exact ih (by omega)
theorem p_weightIn (hP : IsP G b) (hc : AbC μ b cs) {i m : Nat} {j : Int32} (him : i + m ≤ cs.length) (hj : ∀ k, k ≤ cs.length → (j < nI k ↔ i + m ≤ k)) : Si mX1_weightIn (d) [.ref b, .int (nI i), .int j] G μ (fun r μ' => μ = μ' ∧ r = nI (wgF cs i m)) := by
  obtain ⟨hO, ⟨r0, r1, r2, r3⟩, -, ⟨a1, a2, a3, a4⟩, -⟩ := hP
  obtain ⟨hn, h12, hk⟩ := hc
  refine Si_of (ls := [.ref b, .int (nI i), .int j, .null, .null]) (by decide +kernel) (Nat.le_of_ble_eq_true rfl) rfl ?_
  refine J_pushI qX1_weightIn_0 ?_
  refine J_ist3 qX1_weightIn_1 (Nat.le_of_ble_eq_true rfl) rfl ?_
  refine J_iload_n (i := 1) qX1_weightIn_2 rfl rfl ?_
  refine J_ist4 qX1_weightIn_3 (Nat.le_of_ble_eq_true rfl) rfl ?_
  refine ind_up (n := m) (P := fun k => J mX1_weightIn (d) (0, 0) s0 (Ki G (fun r μ' => μ = μ' ∧ r = nI (wgF cs i m))) (0, 0) 5 [.ref b, .int (nI i), .int j, .int (nI (wgF cs i k)), .int (nI (i + k))] [] (G, μ)) (fun k hkn ih => ?_) 0 (Nat.zero_le _)
  refine J_iload (i := 4) qX1_weightIn_5 rfl ?_
  refine J_iload_n (i := 2) qX1_weightIn_7 rfl rfl ?_
  first | with_reducible refine J_icmp_gt_n qX1_weightIn_8 (by omega) (by omega) (fun c => ?_) (fun c => ?_) | refine J_icmp_gt qX1_weightIn_8 (fun c => ?_) (fun c => ?_)
  · refine J_iload_n (i := 3) qX1_weightIn_27 rfl rfl ?_
    refine Ji_ret qX1_weightIn_28 ?_
    have := (hj (i + k) (by omega)).mp c
    exact ⟨rfl, by rw [show k = m by omega]⟩
  · have hlt : k < m := by
      refine Nat.not_le.mp fun q => c ((hj (i + k) (by omega)).mpr (by omega))
    refine J_iload_n (i := 3) qX1_weightIn_11 rfl rfl ?_
    refine J_aload_n (i := 0) qX1_weightIn_12 rfl rfl ?_
    refine J_getR qX1_weightIn_13 fX1_21 (by assumption) (by assumption) ?_
    refine J_iload (i := 4) qX1_weightIn_16 rfl ?_
    refine J_iald qX1_weightIn_18 (by assumption) rfl (by omega) ?_
    rw [(hk (i + k) (by omega)).2.2.2]
    first | with_reducible refine J_iadd_n qX1_weightIn_19 ?_ | refine J_iadd qX1_weightIn_19 ?_
    refine J_ist3 qX1_weightIn_20 (Nat.le_of_ble_eq_true rfl) rfl ?_
    refine J_inc4 qX1_weightIn_21 (Nat.le_of_ble_eq_true rfl) (by first | exact nI_inc _ | exact nI_dec _ | rfl) rfl ?_
    refine J_goto qX1_weightIn_24 ?_
    exact ih hlt
theorem jle {i j n : Nat} (h : j < 1000) (hn : n ≤ 1000) (hij : i ≤ j + 1) : ∀ k, k ≤ n → (nI j < nI k ↔ i + (j + 1 - i) ≤ k) := fun k hk => by
  rw [nI_ltI (by omega) (by omega)]
  omega
theorem p_aimsIn (hP : IsP G b) (hc : AbC μ b cs) (ho : OkC cs) {i j : Nat} (hij : i ≤ j) (hj : j < cs.length) : Si mX1_aimsIn (d+1) [.ref b, .int (nI i), .int (nI j)] G μ (fun r μ' => μ = μ' ∧ r = nI (aimF cs i (j + 1 - i))) := by
  obtain ⟨hO, ⟨r0, r1, r2, r3⟩, -, ⟨a1, a2, a3, a4⟩, -⟩ := hP
  obtain ⟨hn, h12, hk⟩ := hc
  refine Si_of (ls := [.ref b, .int (nI i), .int (nI j), .null, .null]) (by decide +kernel) (Nat.le_of_ble_eq_true rfl) rfl ?_
  refine J_pushI qX1_aimsIn_0 ?_
  refine J_ist3 qX1_aimsIn_1 (Nat.le_of_ble_eq_true rfl) rfl ?_
  refine J_iload_n (i := 1) qX1_aimsIn_2 rfl rfl ?_
  refine J_ist4 qX1_aimsIn_3 (Nat.le_of_ble_eq_true rfl) rfl ?_
  refine ind_up (n := j + 1 - i) (P := fun m => J mX1_aimsIn (d+1) (0, 0) s0 (Ki G (fun r μ' => μ = μ' ∧ r = nI (aimF cs i (j + 1 - i)))) (0, 0) 5 [.ref b, .int (nI i), .int (nI j), .int (nI (seenF cs i m)), .int (nI (i + m))] [] (G, μ)) (fun m hm ih => ?_) 0 (Nat.zero_le _)
  refine J_iload (i := 4) qX1_aimsIn_5 rfl ?_
  refine J_iload_n (i := 2) qX1_aimsIn_7 rfl rfl ?_
  first | with_reducible refine J_icmp_gt_n qX1_aimsIn_8 (by omega) (by omega) (fun c => ?_) (fun c => ?_) | refine J_icmp_gt qX1_aimsIn_8 (fun c => ?_) (fun c => ?_)
  · refine J_iload_n (i := 3) qX1_aimsIn_29 rfl rfl ?_
    refine J_si1 qX1_aimsIn_30 kX1_62 (j_bitCount _) (Nat.le_of_ble_eq_true rfl) (fun r μ' hr => ?_)
    obtain ⟨rfl, rfl⟩ := hr
    refine Ji_ret qX1_aimsIn_33 ?_
    refine ⟨rfl, ?_⟩
    rw [show m = j + 1 - i by omega]
    exact bc_ok _ (seen_lt ho i _ (by omega))
  · refine J_iload_n (i := 3) qX1_aimsIn_11 rfl rfl ?_
    refine J_pushI qX1_aimsIn_12 ?_
    refine J_aload_n (i := 0) qX1_aimsIn_13 rfl rfl ?_
    refine J_getR qX1_aimsIn_14 fX1_18 (by assumption) (by assumption) ?_
    refine J_iload (i := 4) qX1_aimsIn_17 rfl ?_
    refine J_iald qX1_aimsIn_19 (by assumption) rfl (by omega) ?_
    rw [(hk (i + m) (by omega)).2.2.1]
    refine J_ishl qX1_aimsIn_20 ?_
    rw [ni_shl1 _ (ho.1 (i + m) (by omega)).2.1]
    refine J_ior qX1_aimsIn_21 ?_
    rw [ni_or]
    refine J_ist3 qX1_aimsIn_22 (Nat.le_of_ble_eq_true rfl) rfl ?_
    refine J_inc4 qX1_aimsIn_23 (Nat.le_of_ble_eq_true rfl) (by first | exact nI_inc _ | exact nI_dec _ | rfl) rfl ?_
    refine J_goto qX1_aimsIn_26 ?_
    exact ih (by omega)
theorem p_loneSteps (hP : IsP G b) (hc : AbC μ b cs) {i : Nat} (hi : i < cs.length) : Si mX1_loneSteps (d) [.ref b, .int (nI i)] G μ (fun r μ' => μ = μ' ∧ r = nI (loneF cs i)) := by
  obtain ⟨hO, ⟨r0, r1, r2, r3⟩, -, ⟨a1, a2, a3, a4⟩, -⟩ := hP
  obtain ⟨hn, h12, hk⟩ := hc
  refine Si_of (ls := [.ref b, .int (nI i)]) (by decide +kernel) (Nat.le_of_ble_eq_true rfl) rfl ?_
  refine J_aload_n (i := 0) qX1_loneSteps_0 rfl rfl ?_
  refine J_getR qX1_loneSteps_1 fX1_9 (by assumption) (by assumption) ?_
  refine J_iload_n (i := 1) qX1_loneSteps_4 rfl rfl ?_
  refine J_iald qX1_loneSteps_5 (by assumption) rfl (by omega) ?_
  refine J_aload_n (i := 0) qX1_loneSteps_6 rfl rfl ?_
  refine J_getR qX1_loneSteps_7 fX1_15 (by assumption) (by assumption) ?_
  refine J_iload_n (i := 1) qX1_loneSteps_10 rfl rfl ?_
  refine J_iald qX1_loneSteps_11 (by assumption) rfl (by omega) ?_
  rw [(hk i hi).1, (hk i hi).2.1]
  first | with_reducible refine J_icmp_ne_n qX1_loneSteps_12 (by omega) (by omega) (fun c => ?_) (fun c => ?_) | refine J_icmp_ne qX1_loneSteps_12 (fun c => ?_) (fun c => ?_)
  · refine J_pushI qX1_loneSteps_19 ?_
    refine Ji_ret qX1_loneSteps_20 ?_
    exact ⟨rfl, by unfold loneF; rw [if_neg c]⟩
  · refine J_pushI qX1_loneSteps_15 ?_
    refine J_goto qX1_loneSteps_16 ?_
    refine Ji_ret qX1_loneSteps_20 ?_
    exact ⟨rfl, by unfold loneF; rw [if_pos c]⟩
def valF (cs : List Cs) (i : Nat) (k : Nat) : Int32 := match k with
  | 0 => (cg cs i).1
  | 1 => (cg cs i).2.1
  | 2 => nI (cg cs i).2.2.1
  | _ => nI (cg cs i).2.2.2
theorem p_valueOf (hP : IsP G b) (hc : AbC μ b cs) {i k : Nat} (hi : i < cs.length) (hk4 : k < 4) : Si mX1_valueOf (d) [.ref b, .int (nI i), .int (nI k)] G μ (fun r μ' => μ = μ' ∧ r = valF cs i k) := by
  obtain ⟨hO, ⟨r0, r1, r2, r3⟩, -, ⟨a1, a2, a3, a4⟩, -⟩ := hP
  obtain ⟨hn, h12, hk⟩ := hc
  refine Si_of (ls := [.ref b, .int (nI i), .int (nI k)]) (by decide +kernel) (Nat.le_of_ble_eq_true rfl) rfl ?_
  refine J_iload_n (i := 2) qX1_valueOf_0 rfl rfl ?_
  obtain ⟨e1, e2, e3, e4⟩ := hk i hi
  match k, hk4 with
  | 0, _ =>
    refine J_tabIn (tgt := 28) qX1_valueOf_1 (by decide) (by decide) rfl (by decide) ?_
    refine J_aload_n (i := 0) qX1_valueOf_28 rfl rfl ?_
    refine J_getR qX1_valueOf_29 fX1_9 (by assumption) (by assumption) ?_
    refine J_iload_n (i := 1) qX1_valueOf_32 rfl rfl ?_
    refine J_iald qX1_valueOf_33 (by assumption) rfl (by omega) ?_
    refine Ji_ret qX1_valueOf_34 ?_
    exact ⟨rfl, e1⟩
  | 1, _ =>
    refine J_tabIn (tgt := 35) qX1_valueOf_1 (by decide) (by decide) rfl (by decide) ?_
    refine J_aload_n (i := 0) qX1_valueOf_35 rfl rfl ?_
    refine J_getR qX1_valueOf_36 fX1_15 (by assumption) (by assumption) ?_
    refine J_iload_n (i := 1) qX1_valueOf_39 rfl rfl ?_
    refine J_iald qX1_valueOf_40 (by assumption) rfl (by omega) ?_
    refine Ji_ret qX1_valueOf_41 ?_
    exact ⟨rfl, e2⟩
  | 2, _ =>
    refine J_tabIn (tgt := 42) qX1_valueOf_1 (by decide) (by decide) rfl (by decide) ?_
    refine J_aload_n (i := 0) qX1_valueOf_42 rfl rfl ?_
    refine J_getR qX1_valueOf_43 fX1_18 (by assumption) (by assumption) ?_
    refine J_iload_n (i := 1) qX1_valueOf_46 rfl rfl ?_
    refine J_iald qX1_valueOf_47 (by assumption) rfl (by omega) ?_
    refine Ji_ret qX1_valueOf_48 ?_
    exact ⟨rfl, e3⟩
  | 3, _ =>
    refine J_tabOut (tgt := 49) qX1_valueOf_1 (by decide) (by decide) ?_
    refine J_aload_n (i := 0) qX1_valueOf_49 rfl rfl ?_
    refine J_getR qX1_valueOf_50 fX1_21 (by assumption) (by assumption) ?_
    refine J_iload_n (i := 1) qX1_valueOf_53 rfl rfl ?_
    refine J_iald qX1_valueOf_54 (by assumption) rfl (by omega) ?_
    refine Ji_ret qX1_valueOf_55 ?_
    exact ⟨rfl, e4⟩
theorem p_clear (hP : IsP G b) : Sv mX1_clear (d) [.ref b] G μ (fun μ' => μ' = wI (wI (wI μ b 4 (nI 0)) b 5 (nI 0)) b 12 (nI 0)) := by
  obtain ⟨hO, -⟩ := hP
  refine Sv_of (ls := [.ref b]) (by decide +kernel) (Nat.le_of_ble_eq_true rfl) rfl ?_
  refine J_aload_n (i := 0) qX1_clear_0 rfl rfl ?_
  refine J_pushI qX1_clear_1 ?_
  refine J_putI qX1_clear_2 fX1_24p (by assumption) rfl rfl ?_
  refine J_aload_n (i := 0) qX1_clear_5 rfl rfl ?_
  refine J_pushI qX1_clear_6 ?_
  refine J_putI qX1_clear_7 fX1_28p (by assumption) rfl rfl ?_
  refine J_aload_n (i := 0) qX1_clear_10 rfl rfl ?_
  refine J_pushI qX1_clear_11 ?_
  refine J_putI qX1_clear_12 fX1_49p (by assumption) rfl rfl ?_
  refine Jv_ret qX1_clear_15 ?_
  rfl
end PR
