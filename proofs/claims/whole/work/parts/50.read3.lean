/-! READER: numbers, names -/
theorem free_1 {cs : List Cs} {x : Int32} : freeB cs x x = freeB cs x x := rfl
section RD
variable {G : Gm} {μ : Mm} {q b d p : Nat} {T : List Int32} {cs : List Cs} {rest : Nat}
theorem r_numbers (hR : IsRd G q) (hP : IsP G b) (hqb : q + 1 < b ∨ b + 10 < q) (h : AbR μ q T p) (hD : DrS μ b cs rest) (sp : Bool) : Si mX2_readNumbers (d+3) [.ref q, .ref b, .int (b2i sp)] G μ (fun r μ' => Rout (nbF T p cs sp) q b μ (fun x μ' => AbR μ' q T x.2.2 ∧ DrS μ' b cs rest ∧ μ'.1 q 8 = μ.1 q 8 ∧ μ'.1 q 6 = x.1 ∧ μ'.1 q 7 = x.2.1 ∧ x.1 ≤ x.2.1 ∧ freeB cs x.1 x.2.1 = true) r μ') := by
  have hR0 := hR
  obtain ⟨hO, r0, a1⟩ := hR
  have hPO := hP.1
  refine Si_of (ls := [.ref q, .ref b, .int (b2i sp)]) (by decide +kernel) (Nat.le_of_ble_eq_true rfl) rfl ?_
  refine J_aload_n (i := 0) qX2_readNumbers_0 rfl rfl ?_
  refine J_pushL qX2_readNumbers_1 ?_
  refine J_pushL qX2_readNumbers_4 ?_
  refine J_vi2 qX2_readNumbers_7 kX2_103 (by assumption) (r_readNumber hR0 h (x := (-2147483648)) (y := lN 2147483647) (by decide) (by decide)) (Nat.le_of_ble_eq_true rfl) (fun r ν1 hr => ?_)
  obtain ⟨rfl, g1, g2, g3, g4⟩ := hr
  cases hn1 : numOK T p (-2147483648) 2147483647 with
  | false =>
    have hn1' : numOK T p (-2147483648 : Int64).toInt (lN 2147483647).toInt = false := hn1
    rw [hn1']
    refine J_if_ne qX2_readNumbers_10 (fun c => absurd b2i_f0 c) (fun c => ?_)
    refine J_pushI qX2_readNumbers_13 ?_
    refine Jz_ret qX2_readNumbers_14 (by first | exact Or.inl rfl | exact Or.inr rfl | assumption) ?_
    have e : nbF T p cs sp = .error (tkS T p) := if_pos hn1
    rw [e]
    exact ⟨rfl, g2, g4.q⟩
  | true =>
    have hn1' : numOK T p (-2147483648 : Int64).toInt (lN 2147483647).toInt = true := hn1
    have v1 := g3 hn1'
    obtain ⟨-, q1, q2⟩ := numOK_at hn1
    rw [hn1']
    have e1 : nbF T p cs sp = if freeB cs (loF T p) (loF T p) = false then .error (tkS T p) else if sp = false then .ok (loF T p, loF T p, tkE T p) else if numOK T (tkE T p) (loF T p).toInt 2147483647 = false then .error (tkS T (tkE T p)) else if freeB cs (loF T p) (loF T (tkE T p)) = false then .error (tkS T (tkE T p)) else .ok (loF T p, loF T (tkE T p), tkE T (tkE T p)) := if_neg (by rw [hn1]; decide)
    rw [e1]
    refine J_if_ne qX2_readNumbers_10 (fun c => ?_) (fun c => absurd c b2i_t0)
    refine J_aload_n (i := 0) qX2_readNumbers_15 rfl rfl ?_
    refine J_aload_n (i := 0) qX2_readNumbers_16 rfl rfl ?_
    refine J_getLe qX2_readNumbers_17 fX2_28 (by assumption) (by (repeat first | with_reducible exact wL_e _ _ _ _ | with_reducible apply rdl_i | (with_reducible apply rdl_s; focus omega) | (with_reducible apply rdl_k; focus omega)); first | done | assumption | rfl) ?_
    refine J_l2i qX2_readNumbers_20 ?_
    rw [show (ν1.2 q 5).toInt32 = loF T p from l2i_is v1 (by omega) (by omega)]
    refine J_putI qX2_readNumbers_21 fX2_32p (by assumption) rfl rfl ?_
    refine J_aload_n (i := 0) qX2_readNumbers_24 rfl rfl ?_
    refine J_aload_n (i := 0) qX2_readNumbers_25 rfl rfl ?_
    refine J_getIe qX2_readNumbers_26 fX2_32 (by assumption) (by (repeat first | with_reducible exact wI_e _ _ _ _ | (with_reducible apply rd_s; focus omega) | (with_reducible apply rd_c; focus omega) | (with_reducible apply rd_k; focus omega) | with_reducible exact rd_e (by omega)); first | done | assumption | rfl) ?_
    refine J_putI qX2_readNumbers_29 fX2_35p (by assumption) rfl rfl ?_
    refine J_aload_n (i := 1) qX2_readNumbers_32 rfl rfl ?_
    refine J_aload_n (i := 0) qX2_readNumbers_33 rfl rfl ?_
    refine J_getIe qX2_readNumbers_34 fX2_32 (by assumption) (by (repeat first | with_reducible exact wI_e _ _ _ _ | (with_reducible apply rd_s; focus omega) | (with_reducible apply rd_c; focus omega) | (with_reducible apply rd_k; focus omega) | with_reducible exact rd_e (by omega)); first | done | assumption | rfl) ?_
    refine J_aload_n (i := 0) qX2_readNumbers_37 rfl rfl ?_
    refine J_getIe qX2_readNumbers_38 fX2_35 (by assumption) (by (repeat first | with_reducible exact wI_e _ _ _ _ | (with_reducible apply rd_s; focus omega) | (with_reducible apply rd_c; focus omega) | (with_reducible apply rd_k; focus omega) | with_reducible exact rd_e (by omega)); first | done | assumption | rfl) ?_
    have hD2 : DrS (wI (wI ν1 q 6 (loF T p)) q 7 (loF T p)) b cs rest := ((hD.r g4 (by omega)).w (by omega)).w (by omega)
    have gA : AbR (wI (wI ν1 q 6 (loF T p)) q 7 (loF T p)) q T (tkE T p) := (g1.w (by omega)).w (by omega)
    have hF1 : FrQ q b μ (wI (wI ν1 q 6 (loF T p)) q 7 (loF T p)) := ((FrR.q g4).w (by omega)).w (by omega)
    have k8 : (wI (wI ν1 q 6 (loF T p)) q 7 (loF T p)).1 q 8 = μ.1 q 8 := by rw [wI_n (by omega), wI_n (by omega)]; exact g4.1 _ _ (by omega)
    have k6 : (wI (wI ν1 q 6 (loF T p)) q 7 (loF T p)).1 q 6 = loF T p := by rw [wI_n (by omega), wI_e]
    have k4 : (wI (wI ν1 q 6 (loF T p)) q 7 (loF T p)).1 q 4 = nI (tkS T p) := by rw [wI_n (by omega), wI_n (by omega)]; exact g2
    have k7 : (wI (wI ν1 q 6 (loF T p)) q 7 (loF T p)).1 q 7 = loF T p := wI_e _ _ _ _
    generalize (wI (wI ν1 q 6 (loF T p)) q 7 (loF T p)) = ν2 at *
    refine J_vi2 qX2_readNumbers_41 kX2_117 (by assumption) (p_isFree hP hD2.1 (loF T p) (loF T p)) (Nat.le_of_ble_eq_true rfl) (fun r ν3 hr => ?_)
    obtain ⟨rfl, rfl⟩ := hr
    cases hf1 : freeB cs (loF T p) (loF T p) with
    | false =>
      refine J_if_ne qX2_readNumbers_44 (fun c => absurd b2i_f0 c) (fun c => ?_)
      refine J_pushI qX2_readNumbers_47 ?_
      refine Jz_ret qX2_readNumbers_48 (by first | exact Or.inl rfl | exact Or.inr rfl | assumption) ?_
      rw [if_pos rfl]
      exact ⟨rfl, k4, hF1⟩
    | true =>
      rw [if_neg (by decide)]
      refine J_if_ne qX2_readNumbers_44 (fun c => ?_) (fun c => absurd c b2i_t0)
      refine J_iload_n (i := 2) qX2_readNumbers_49 rfl rfl ?_
      cases sp with
      | false =>
        refine J_if_ne qX2_readNumbers_50 (fun c => absurd b2i_f0 c) (fun c => ?_)
        refine J_pushI qX2_readNumbers_53 ?_
        refine Jz_ret qX2_readNumbers_54 (by first | exact Or.inl rfl | exact Or.inr rfl | assumption) ?_
        rw [if_pos rfl]
        exact ⟨rfl, ⟨gA, hD2, k8, k6, k7, Int32.le_refl _, hf1⟩, hF1⟩
      | true =>
        rw [if_neg (by decide)]
        refine J_if_ne qX2_readNumbers_50 (fun c => ?_) (fun c => absurd c b2i_t0)
        refine J_aload_n (i := 0) qX2_readNumbers_55 rfl rfl ?_
        refine J_aload_n (i := 0) qX2_readNumbers_56 rfl rfl ?_
        refine J_getIe qX2_readNumbers_57 fX2_32 (by assumption) (by (repeat first | with_reducible exact wI_e _ _ _ _ | (with_reducible apply rd_s; focus omega) | (with_reducible apply rd_c; focus omega) | (with_reducible apply rd_k; focus omega) | with_reducible exact rd_e (by omega)); first | done | assumption | rfl) ?_
        refine J_i2l qX2_readNumbers_60 ?_
        refine J_pushL qX2_readNumbers_61 ?_
        have rl := rng (loF T p)
        refine J_vi2 qX2_readNumbers_64 kX2_103 (by assumption) (r_readNumber hR0 gA (x := (loF T p).toInt64) (y := lN 2147483647) (by rw [Int32.toInt_toInt64]; omega) (by decide)) (Nat.le_of_ble_eq_true rfl) (fun r ν4 hr => ?_)
        obtain ⟨rfl, m1, m2, m3, m4⟩ := hr
        rw [Int32.toInt_toInt64] at m3 ⊢
        cases hn2 : numOK T (tkE T p) (loF T p).toInt 2147483647 with
        | false =>
          have hn2' : numOK T (tkE T p) (loF T p).toInt (lN 2147483647).toInt = false := hn2
          rw [hn2', if_pos rfl]
          refine J_if_ne qX2_readNumbers_67 (fun c => absurd b2i_f0 c) (fun c => ?_)
          refine J_pushI qX2_readNumbers_70 ?_
          refine Jz_ret qX2_readNumbers_71 (by first | exact Or.inl rfl | exact Or.inr rfl | assumption) ?_
          exact ⟨rfl, m2, hF1.tr m4.q⟩
        | true =>
          have hn2' : numOK T (tkE T p) (loF T p).toInt (lN 2147483647).toInt = true := hn2
          have v2 := m3 hn2'
          obtain ⟨-, w1, w2⟩ := numOK_at hn2
          rw [hn2', if_neg (by decide)]
          refine J_if_ne qX2_readNumbers_67 (fun c => ?_) (fun c => absurd c b2i_t0)
          refine J_aload_n (i := 0) qX2_readNumbers_72 rfl rfl ?_
          refine J_aload_n (i := 0) qX2_readNumbers_73 rfl rfl ?_
          refine J_getLe qX2_readNumbers_74 fX2_28 (by assumption) (by (repeat first | with_reducible exact wL_e _ _ _ _ | with_reducible apply rdl_i | (with_reducible apply rdl_s; focus omega) | (with_reducible apply rdl_k; focus omega)); first | done | assumption | rfl) ?_
          refine J_l2i qX2_readNumbers_77 ?_
          rw [show (ν4.2 q 5).toInt32 = loF T (tkE T p) from l2i_is v2 (by omega) (by omega)]
          have k6' : ν4.1 q 6 = loF T p := (m4.1 _ _ (by omega)).trans k6
          refine J_putI qX2_readNumbers_78 fX2_35p (by assumption) rfl rfl ?_
          refine J_aload_n (i := 1) qX2_readNumbers_81 rfl rfl ?_
          refine J_aload_n (i := 0) qX2_readNumbers_82 rfl rfl ?_
          refine J_getIe qX2_readNumbers_83 fX2_32 (by assumption) (by (repeat first | with_reducible exact wI_e _ _ _ _ | (with_reducible apply rd_s; focus omega) | (with_reducible apply rd_c; focus omega) | (with_reducible apply rd_k; focus omega) | with_reducible exact rd_e (by omega)); first | done | assumption | rfl) ?_
          refine J_aload_n (i := 0) qX2_readNumbers_86 rfl rfl ?_
          refine J_getIe qX2_readNumbers_87 fX2_35 (by assumption) (by (repeat first | with_reducible exact wI_e _ _ _ _ | (with_reducible apply rd_s; focus omega) | (with_reducible apply rd_c; focus omega) | (with_reducible apply rd_k; focus omega) | with_reducible exact rd_e (by omega)); first | done | assumption | rfl) ?_
          have hD3 : DrS (wI ν4 q 7 (loF T (tkE T p))) b cs rest := (hD2.r m4 (by omega)).w (by omega)
          refine J_vi2 qX2_readNumbers_90 kX2_117 (by assumption) (p_isFree hP hD3.1 (loF T p) (loF T (tkE T p))) (Nat.le_of_ble_eq_true rfl) (fun r ν5 hr => ?_)
          obtain ⟨rfl, rfl⟩ := hr
          refine Jz_ret qX2_readNumbers_93 (b2i_01 _) ?_
          have hF2 : FrQ q b μ (wI ν4 q 7 (loF T (tkE T p))) := (hF1.tr m4.q).w (by omega)
          cases hf2 : freeB cs (loF T p) (loF T (tkE T p)) with
          | false =>
            rw [if_pos rfl]
            exact ⟨rfl, (wI_n (by omega)).trans m2, hF2⟩
          | true =>
            rw [if_neg (by decide)]
            refine ⟨rfl, ⟨m1.w (by omega), hD3, ?_, ?_, wI_e _ _ _ _, ?_, hf2⟩, hF2⟩
            · rw [wI_n (by omega), m4.1 _ _ (by omega)]; exact k8
            · rw [wI_n (by omega)]; exact k6'
            · show loF T p ≤ loF T (tkE T p)
              rw [Int32.le_iff_toInt_le]
              have : (loF T (tkE T p)).toInt = tkV T (tkE T p) := ofI_i (by omega) (by omega)
              omega
theorem r_name (hR : IsRd G q) (hP : IsP G b) (hqb : q + 1 < b ∨ b + 10 < q) (h : AbR μ q T p) (hD : DrS μ b cs rest) : Si mX2_readName (d+3) [.ref q, .ref b] G μ (fun r μ' => Rout (nmF T p cs) q b μ (fun x μ' => AbR μ' q T x.2.2 ∧ DrS μ' b cs rest ∧ μ'.1 q 8 = μ.1 q 8 ∧ μ'.1 q 6 = x.1 ∧ μ'.1 q 7 = x.2.1 ∧ x.1 ≤ x.2.1 ∧ freeB cs x.1 x.2.1 = true) r μ') := by
  have hR0 := hR
  obtain ⟨hO, r0, a1⟩ := hR
  have hPO := hP.1
  have hE := tkE_le h.2.2.2.1
  have h120 := h.2.1
  refine Si_of (ls := [.ref q, .ref b, .null]) (by decide +kernel) (Nat.le_of_ble_eq_true rfl) rfl ?_
  refine J_aload_n (i := 0) qX2_readName_0 rfl rfl ?_
  refine J_vv0 qX2_readName_1 kX2_68 (by assumption) (r_step hR0 h) (Nat.le_of_ble_eq_true rfl) (fun ν hr => ?_)
  obtain ⟨g1, g2, g3, g4, g5⟩ := hr
  have s3 := g1.2.2.1
  have k4 : tkK T p ≤ 4 := by
    unfold tkK kdA
    split
    · omega
    · split
      · omega
      · split
        · split <;> omega
        · split <;> omega
  have no : ¬ (tkK T p = 1 ∧ tkE T p - tkS T p ≤ 6) → J mX2_readName (d+3) (0, 0) s0 (Ki G (fun r μ' => Rout (nmF T p cs) q b μ (fun x μ' => AbR μ' q T x.2.2 ∧ DrS μ' b cs rest ∧ μ'.1 q 8 = μ.1 q 8 ∧ μ'.1 q 6 = x.1 ∧ μ'.1 q 7 = x.2.1 ∧ x.1 ≤ x.2.1 ∧ freeB cs x.1 x.2.1 = true) r μ')) (0, 0) 26 [.ref q, .ref b, .null] [] (G, ν) := fun hno => by
    refine J_pushI qX2_readName_26 ?_
    refine Jz_ret qX2_readName_27 (by first | exact Or.inl rfl | exact Or.inr rfl | assumption) ?_
    have e : nmF T p cs = .error (tkS T p) := if_neg hno
    rw [e]
    exact ⟨rfl, g3, g5.q⟩
  refine J_aload_n (i := 0) qX2_readName_4 rfl rfl ?_
  refine J_getIe qX2_readName_5 fX2_22 (by assumption) (by (repeat first | with_reducible exact wI_e _ _ _ _ | (with_reducible apply rd_s; focus omega) | (with_reducible apply rd_c; focus omega) | (with_reducible apply rd_k; focus omega) | with_reducible exact rd_e (by omega)); first | done | assumption | rfl) ?_
  refine J_pushI qX2_readName_8 ?_
  first | with_reducible refine J_icmp_ne_n qX2_readName_9 (by omega) (by omega) (fun c1 => ?_) (fun c1 => ?_) | refine J_icmp_ne qX2_readName_9 (fun c1 => ?_) (fun c1 => ?_)
  · exact no (fun z => c1 z.1)
  · refine J_aload_n (i := 0) qX2_readName_12 rfl rfl ?_
    refine J_getIe qX2_readName_13 fX2_19 (by assumption) (by (repeat first | with_reducible exact wI_e _ _ _ _ | (with_reducible apply rd_s; focus omega) | (with_reducible apply rd_c; focus omega) | (with_reducible apply rd_k; focus omega) | with_reducible exact rd_e (by omega)); first | done | assumption | rfl) ?_
    refine J_aload_n (i := 0) qX2_readName_16 rfl rfl ?_
    refine J_getIe qX2_readName_17 fX2_25 (by assumption) (by (repeat first | with_reducible exact wI_e _ _ _ _ | (with_reducible apply rd_s; focus omega) | (with_reducible apply rd_c; focus omega) | (with_reducible apply rd_k; focus omega) | with_reducible exact rd_e (by omega)); first | done | assumption | rfl) ?_
    first | with_reducible refine J_isub_n qX2_readName_20 (by omega) ?_ | refine J_isub qX2_readName_20 ?_
    refine J_pushI qX2_readName_21 ?_
    first | with_reducible refine J_icmp_le_n qX2_readName_23 (by omega) (by omega) (fun c2 => ?_) (fun c2 => ?_) | refine J_icmp_le qX2_readName_23 (fun c2 => ?_) (fun c2 => ?_)
    · have e1 : nmF T p cs = if freeB cs (hashF T (tkS T p) (tkE T p - tkS T p)) (hashF T (tkS T p) (tkE T p - tkS T p)) = false then .error (tkS T p) else .ok (hashF T (tkS T p) (tkE T p - tkS T p), hashF T (tkS T p) (tkE T p - tkS T p), tkE T p) := if_pos ⟨c1, c2⟩
      rw [e1]
      refine J_aload_n (i := 0) qX2_readName_28 rfl rfl ?_
      refine J_pushI qX2_readName_29 ?_
      refine J_putI qX2_readName_30 fX2_32p (by assumption) rfl rfl ?_
      refine J_aload_n (i := 0) qX2_readName_33 rfl rfl ?_
      refine J_getIe qX2_readName_34 fX2_25 (by assumption) (by (repeat first | with_reducible exact wI_e _ _ _ _ | (with_reducible apply rd_s; focus omega) | (with_reducible apply rd_c; focus omega) | (with_reducible apply rd_k; focus omega) | with_reducible exact rd_e (by omega)); first | done | assumption | rfl) ?_
      refine J_ist2 qX2_readName_37 (Nat.le_of_ble_eq_true rfl) rfl ?_
      have H : ∀ m, m ≤ tkE T p - tkS T p → ∀ ν' : Mm, FrQ q b ν ν' → AbR ν' q T (tkE T p) → DrS ν' b cs rest → ν'.1 q 4 = nI (tkS T p) → ν'.1 q 8 = μ.1 q 8 → ν'.1 q 6 = hashF T (tkS T p) m → J mX2_readName (d + 3) (0, 0) s0 (Ki G fun r μ' => Rout (if freeB cs (hashF T (tkS T p) (tkE T p - tkS T p)) (hashF T (tkS T p) (tkE T p - tkS T p)) = false then .error (tkS T p) else .ok (hashF T (tkS T p) (tkE T p - tkS T p), hashF T (tkS T p) (tkE T p - tkS T p), tkE T p)) q b μ (fun x μ' => AbR μ' q T x.2.2 ∧ DrS μ' b cs rest ∧ μ'.1 q 8 = μ.1 q 8 ∧ μ'.1 q 6 = x.1 ∧ μ'.1 q 7 = x.2.1 ∧ x.1 ≤ x.2.1 ∧ freeB cs x.1 x.2.1 = true) r μ') (0, 0) 38 [.ref q, .ref b, .int (nI (tkS T p + m))] [] (G, ν') := by
        refine ind_up (fun m hm ih ν' hF hA hDr f4 f8 f6 => ?_)
        have z3 := hA.2.2.1
        refine J_iload_n (i := 2) qX2_readName_38 rfl rfl ?_
        refine J_aload_n (i := 0) qX2_readName_39 rfl rfl ?_
        refine J_getIe qX2_readName_40 fX2_19 (by assumption) (by (repeat first | with_reducible exact wI_e _ _ _ _ | (with_reducible apply rd_s; focus omega) | (with_reducible apply rd_c; focus omega) | (with_reducible apply rd_k; focus omega) | with_reducible exact rd_e (by omega)); first | done | assumption | rfl) ?_
        first | with_reducible refine J_icmp_ge_n qX2_readName_43 (by omega) (by omega) (fun c3 => ?_) (fun c3 => ?_) | refine J_icmp_ge qX2_readName_43 (fun c3 => ?_) (fun c3 => ?_)
        · have em : tkE T p - tkS T p = m := by omega
          rw [em]
          refine J_aload_n (i := 0) qX2_readName_69 rfl rfl ?_
          refine J_aload_n (i := 0) qX2_readName_70 rfl rfl ?_
          refine J_getIe qX2_readName_71 fX2_32 (by assumption) (by (repeat first | with_reducible exact wI_e _ _ _ _ | (with_reducible apply rd_s; focus omega) | (with_reducible apply rd_c; focus omega) | (with_reducible apply rd_k; focus omega) | with_reducible exact rd_e (by omega)); first | done | assumption | rfl) ?_
          refine J_putI qX2_readName_74 fX2_35p (by assumption) rfl rfl ?_
          refine J_aload_n (i := 1) qX2_readName_77 rfl rfl ?_
          refine J_aload_n (i := 0) qX2_readName_78 rfl rfl ?_
          refine J_getIe qX2_readName_79 fX2_32 (by assumption) (by (repeat first | with_reducible exact wI_e _ _ _ _ | (with_reducible apply rd_s; focus omega) | (with_reducible apply rd_c; focus omega) | (with_reducible apply rd_k; focus omega) | with_reducible exact rd_e (by omega)); first | done | assumption | rfl) ?_
          refine J_aload_n (i := 0) qX2_readName_82 rfl rfl ?_
          refine J_getIe qX2_readName_83 fX2_35 (by assumption) (by (repeat first | with_reducible exact wI_e _ _ _ _ | (with_reducible apply rd_s; focus omega) | (with_reducible apply rd_c; focus omega) | (with_reducible apply rd_k; focus omega) | with_reducible exact rd_e (by omega)); first | done | assumption | rfl) ?_
          have hD3 : DrS (wI ν' q 7 (hashF T (tkS T p) m)) b cs rest := hDr.w (by omega)
          refine J_vi2 qX2_readName_86 kX2_117 (by assumption) (p_isFree hP hD3.1 (hashF T (tkS T p) m) (hashF T (tkS T p) m)) (Nat.le_of_ble_eq_true rfl) (fun r ν5 hr => ?_)
          obtain ⟨rfl, rfl⟩ := hr
          refine Jz_ret qX2_readName_89 (b2i_01 _) ?_
          have hF2 : FrQ q b μ (wI ν' q 7 (hashF T (tkS T p) m)) := (g5.q.tr hF).w (by omega)
          cases hf2 : freeB cs (hashF T (tkS T p) m) (hashF T (tkS T p) m) with
          | false =>
            rw [if_pos rfl]
            exact ⟨rfl, (wI_n (by omega)).trans f4, hF2⟩
          | true =>
            rw [if_neg (by decide)]
            refine ⟨rfl, ⟨hA.w (by omega), hD3, ?_, ?_, wI_e _ _ _ _, Int32.le_refl _, hf2⟩, hF2⟩
            · rw [wI_n (by omega)]; exact f8
            · rw [wI_n (by omega)]; exact f6
        · have e := hA.2.2.2.2 (tkS T p + m) (by omega)
          refine J_aload_n (i := 0) qX2_readName_46 rfl rfl ?_
          refine J_aload_n (i := 0) qX2_readName_47 rfl rfl ?_
          refine J_getIe qX2_readName_48 fX2_32 (by assumption) (by (repeat first | with_reducible exact wI_e _ _ _ _ | (with_reducible apply rd_s; focus omega) | (with_reducible apply rd_c; focus omega) | (with_reducible apply rd_k; focus omega) | with_reducible exact rd_e (by omega)); first | done | assumption | rfl) ?_
          refine J_aload_n (i := 0) qX2_readName_51 rfl rfl ?_
          refine J_getR qX2_readName_52 fX2_9 (by assumption) (by assumption) ?_
          refine J_iload_n (i := 2) qX2_readName_55 rfl rfl ?_
          refine J_ialde qX2_readName_56 (by assumption) rfl (by omega) (by (repeat first | with_reducible exact wI_e _ _ _ _ | (with_reducible apply rd_s; focus omega) | (with_reducible apply rd_c; focus omega) | (with_reducible apply rd_k; focus omega) | with_reducible exact rd_e (by omega)); first | done | assumption | rfl) ?_
          refine J_nsi2 qX2_readName_57 kX2_121 (x_hashWith _ _) (Nat.le_of_ble_eq_true rfl) (fun r ν6 hr => ?_)
          obtain ⟨rfl, rfl⟩ := hr
          refine J_putI qX2_readName_60 fX2_32p (by assumption) rfl rfl ?_
          refine J_inc2 qX2_readName_63 (Nat.le_of_ble_eq_true rfl) (by first | with_reducible exact nI_inc _ | rfl) rfl ?_
          refine J_goto qX2_readName_66 ?_
          exact ih (by omega) _ (hF.w (by omega)) (hA.w (by omega)) (hDr.w (by omega)) ((wI_n (by omega)).trans f4) ((wI_n (by omega)).trans f8) (wI_e _ _ _ _)
      refine H 0 (Nat.zero_le _) _ (FrQ.rf.w (by omega)) (g1.w (by omega)) ((hD.r g5 (by omega)).w (by omega)) ((wI_n (by omega)).trans g3) ?_ (wI_e _ _ _ _)
      rw [wI_n (by omega)]
      exact g5.1 _ _ (by omega)
    · exact no (fun z => by omega)
end RD
