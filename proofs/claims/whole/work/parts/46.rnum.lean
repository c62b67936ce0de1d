/-! READER: a number, a ; a word that is meant -/
def numOK (T : List Int32) (p : Nat) (lo hi : Int) : Bool := decide (tkK T p = 2 ∧ lo ≤ tkV T p ∧ tkV T p ≤ hi)
theorem numL_i (T : List Int32) (s : Nat) : (numL T s).toInt = if negB T s then -(mgF T s : Int) else (mgF T s : Int) := by
  have h : mgF T s ≤ 20000000000000 := gN_le _ _ _
  unfold numL
  by_cases c : negB T s = true
  · rw [if_pos c, if_pos c, Int64.toInt_neg, pk_lT (by omega), Int.bmod_eq_of_le (by omega) (by omega)]
  · rw [if_neg c, if_neg c, pk_lT (by omega)]
theorem mg_v (T : List Int32) (s : Nat) : mgF T s ≤ magF T s ∧ (mgF T s < 1099511627776 → mgF T s = magF T s) := gN_v _ _ _
/-- within ints the number that is held is the one that is told -/
theorem num_in {T : List Int32} {p : Nat} {lo hi : Int} (h1 : -2147483648 ≤ lo) (h2 : hi ≤ 2147483648) : (lo ≤ (numL T (tkS T p)).toInt ∧ (numL T (tkS T p)).toInt ≤ hi) ↔ (lo ≤ tkV T p ∧ tkV T p ≤ hi) := by
  rw [numL_i]
  unfold tkV
  obtain ⟨v1, v2⟩ := mg_v T (tkS T p)
  by_cases c : negB T (tkS T p) = true
  · rw [if_pos c, if_pos c]; omega
  · rw [if_neg c, if_neg c]; omega
theorem num_eq {T : List Int32} {p : Nat} {lo hi : Int} (h1 : -2147483648 ≤ lo) (h2 : hi ≤ 2147483648) (h3 : lo ≤ tkV T p) (h4 : tkV T p ≤ hi) : (numL T (tkS T p)).toInt = tkV T p := by
  rw [numL_i]
  unfold tkV at h3 h4 ⊢
  obtain ⟨v1, v2⟩ := mg_v T (tkS T p)
  by_cases c : negB T (tkS T p) = true
  · rw [if_pos c] at h3 h4 ⊢
    rw [if_pos c]
    omega
  · rw [if_neg c] at h3 h4 ⊢
    rw [if_neg c]
    omega
section RD
variable {G : Gm} {μ : Mm} {q d p : Nat} {T : List Int32}
theorem r_readNumber (hR : IsRd G q) (h : AbR μ q T p) {x y : Int64} (h1 : -2147483648 ≤ x.toInt) (h2 : y.toInt ≤ 2147483648) : Si mX2_readNumber (d+2) [.ref q, .long x, .long y] G μ (fun r μ' => r = b2i (numOK T p x.toInt y.toInt) ∧ AbR μ' q T (tkE T p) ∧ μ'.1 q 4 = nI (tkS T p) ∧ (numOK T p x.toInt y.toInt = true → (μ'.2 q 5).toInt = tkV T p) ∧ FrR q μ μ') := by
  have hR0 := hR
  obtain ⟨hO, r0, a1⟩ := hR
  refine Si_of (ls := [.ref q, .long x, .null, .long y, .null]) (by decide +kernel) (Nat.le_of_ble_eq_true rfl) rfl ?_
  refine J_aload_n (i := 0) qX2_readNumber_0 rfl rfl ?_
  refine J_vv0 qX2_readNumber_1 kX2_68 (by assumption) (r_step hR0 h) (Nat.le_of_ble_eq_true rfl) (fun ν hr => ?_)
  obtain ⟨g1, g2, g3, g4, g5⟩ := hr
  have k4 : tkK T p ≤ 4 := by
    unfold tkK kdA
    split
    · omega
    · split
      · omega
      · split
        · split <;> omega
        · split <;> omega
  have no : ¬ (tkK T p = 2 ∧ x.toInt ≤ tkV T p ∧ tkV T p ≤ y.toInt) → J mX2_readNumber (d+2) (0, 0) s0 (Ki G (fun r μ' => r = b2i (numOK T p x.toInt y.toInt) ∧ AbR μ' q T (tkE T p) ∧ μ'.1 q 4 = nI (tkS T p) ∧ (numOK T p x.toInt y.toInt = true → (μ'.2 q 5).toInt = tkV T p) ∧ FrR q μ μ')) (0, 0) 34 [.ref q, .long x, .null, .long y, .null] [] (G, ν) := fun hno => by
    refine J_pushI qX2_readNumber_34 ?_
    refine Jz_ret qX2_readNumber_35 (by first | exact Or.inl rfl | exact Or.inr rfl | assumption) ?_
    have e : numOK T p x.toInt y.toInt = false := decide_eq_false hno
    exact ⟨b2i_f e, g1, g3, (fun z => by rw [e] at z; cases z), g5⟩
  refine J_aload_n (i := 0) qX2_readNumber_4 rfl rfl ?_
  refine J_getIe qX2_readNumber_5 fX2_22 (by assumption) (by (repeat first | with_reducible exact wI_e _ _ _ _ | (with_reducible apply rd_s; focus omega) | (with_reducible apply rd_c; focus omega) | (with_reducible apply rd_k; focus omega) | with_reducible exact rd_e (by omega)); first | done | assumption | rfl) ?_
  refine J_pushI qX2_readNumber_8 ?_
  first | with_reducible refine J_icmp_ne_n qX2_readNumber_9 (by omega) (by omega) (fun c1 => ?_) (fun c1 => ?_) | refine J_icmp_ne qX2_readNumber_9 (fun c1 => ?_) (fun c1 => ?_)
  · exact no (fun z => c1 z.1)
  · have g4 := g4 c1
    have hi := num_in (T := T) (p := p) h1 h2
    refine J_aload_n (i := 0) qX2_readNumber_12 rfl rfl ?_
    refine J_getLe qX2_readNumber_13 fX2_28 (by assumption) (by (repeat first | with_reducible exact wL_e _ _ _ _ | with_reducible apply rdl_i | (with_reducible apply rdl_s; focus omega) | (with_reducible apply rdl_k; focus omega)); first | done | assumption | rfl) ?_
    refine J_lload_n (i := 1) qX2_readNumber_16 rfl rfl ?_
    refine J_lif_lt qX2_readNumber_17 qX2_readNumber_18 (fun c2 => ?_) (fun c2 => ?_)
    · refine no (fun z => ?_)
      rw [Int64.lt_iff_toInt_lt] at c2
      have := (hi.mpr z.2).1
      omega
    · refine J_aload_n (i := 0) qX2_readNumber_21 rfl rfl ?_
      refine J_getLe qX2_readNumber_22 fX2_28 (by assumption) (by (repeat first | with_reducible exact wL_e _ _ _ _ | with_reducible apply rdl_i | (with_reducible apply rdl_s; focus omega) | (with_reducible apply rdl_k; focus omega)); first | done | assumption | rfl) ?_
      refine J_lload_n (i := 3) qX2_readNumber_25 rfl rfl ?_
      refine J_lif_gt qX2_readNumber_26 qX2_readNumber_27 (fun c3 => ?_) (fun c3 => ?_)
      · refine no (fun z => ?_)
        rw [Int64.lt_iff_toInt_lt] at c3
        have := (hi.mpr z.2).2
        omega
      · refine J_pushI qX2_readNumber_30 ?_
        refine J_goto qX2_readNumber_31 ?_
        refine Jz_ret qX2_readNumber_35 (by first | exact Or.inl rfl | exact Or.inr rfl | assumption) ?_
        rw [Int64.lt_iff_toInt_lt] at c2 c3
        have hok := hi.mp ⟨by omega, by omega⟩
        exact ⟨b2i_t (decide_eq_true ⟨c1, hok⟩), g1, g3, (fun _ => by rw [g4]; exact num_eq h1 h2 hok.1 hok.2), g5⟩
theorem r_readSemicolon (hR : IsRd G q) (h : AbR μ q T p) : Si mX2_readSemicolon (d+2) [.ref q] G μ (fun r μ' => r = b2i (decide (tkK T p = 3)) ∧ AbR μ' q T (tkE T p) ∧ μ'.1 q 4 = nI (tkS T p) ∧ FrR q μ μ') := by
  have hR0 := hR
  obtain ⟨hO, r0, a1⟩ := hR
  refine Si_of (ls := [.ref q]) (by decide +kernel) (Nat.le_of_ble_eq_true rfl) rfl ?_
  refine J_aload_n (i := 0) qX2_readSemicolon_0 rfl rfl ?_
  refine J_vv0 qX2_readSemicolon_1 kX2_68 (by assumption) (r_step hR0 h) (Nat.le_of_ble_eq_true rfl) (fun ν hr => ?_)
  obtain ⟨g1, g2, g3, g4, g5⟩ := hr
  have k4 : tkK T p ≤ 4 := by
    unfold tkK kdA
    split
    · omega
    · split
      · omega
      · split
        · split <;> omega
        · split <;> omega
  refine J_aload_n (i := 0) qX2_readSemicolon_4 rfl rfl ?_
  refine J_getIe qX2_readSemicolon_5 fX2_22 (by assumption) (by (repeat first | with_reducible exact wI_e _ _ _ _ | (with_reducible apply rd_s; focus omega) | (with_reducible apply rd_c; focus omega) | (with_reducible apply rd_k; focus omega) | with_reducible exact rd_e (by omega)); first | done | assumption | rfl) ?_
  refine J_pushI qX2_readSemicolon_8 ?_
  first | with_reducible refine J_icmp_ne_n qX2_readSemicolon_9 (by omega) (by omega) (fun c1 => ?_) (fun c1 => ?_) | refine J_icmp_ne qX2_readSemicolon_9 (fun c1 => ?_) (fun c1 => ?_)
  · refine J_pushI qX2_readSemicolon_16 ?_
    refine Jz_ret qX2_readSemicolon_17 (by first | exact Or.inl rfl | exact Or.inr rfl | assumption) ?_
    exact ⟨b2i_f (decide_eq_false c1), g1, g3, g5⟩
  · refine J_pushI qX2_readSemicolon_12 ?_
    refine J_goto qX2_readSemicolon_13 ?_
    refine Jz_ret qX2_readSemicolon_17 (by first | exact Or.inl rfl | exact Or.inr rfl | assumption) ?_
    exact ⟨b2i_t (decide_eq_true c1), g1, g3, g5⟩
/-- the letters from s to e are the word i -/
def isWd (T : List Int32) (s e i : Nat) : Bool := decide (e = s + lnS i ∧ ∀ k, k < lnS i → bt T (s + k) = chS i k)
theorem r_isWord (hR : IsRd G q) {s e : Nat} (h : AbR μ q T e) (h4 : μ.1 q 4 = nI s) (hse : s ≤ e) {i : Nat} (hi : i < 4) : Si mX2_isWord (d+4) [.ref q, .ref (1000000 + i)] G μ (fun r μ' => μ = μ' ∧ r = b2i (isWd T s e i)) := by
  obtain ⟨hO, r0, a1⟩ := hR
  have h5 := ln_le i
  obtain ⟨s1, s2, s3, s4, s5⟩ := id h
  refine Si_of (ls := [.ref q, .ref (1000000 + i), .null]) (by decide +kernel) (Nat.le_of_ble_eq_true rfl) rfl ?_
  refine J_aload_n (i := 0) qX2_isWord_0 rfl rfl ?_
  refine J_getIe qX2_isWord_1 fX2_19 (by assumption) (by (repeat first | with_reducible exact wI_e _ _ _ _ | (with_reducible apply rd_s; focus omega) | (with_reducible apply rd_c; focus omega) | (with_reducible apply rd_k; focus omega) | with_reducible exact rd_e (by omega)); first | done | assumption | rfl) ?_
  refine J_aload_n (i := 0) qX2_isWord_4 rfl rfl ?_
  refine J_getIe qX2_isWord_5 fX2_25 (by assumption) (by (repeat first | with_reducible exact wI_e _ _ _ _ | (with_reducible apply rd_s; focus omega) | (with_reducible apply rd_c; focus omega) | (with_reducible apply rd_k; focus omega) | with_reducible exact rd_e (by omega)); first | done | assumption | rfl) ?_
  first | with_reducible refine J_isub_n qX2_isWord_8 (by omega) ?_ | refine J_isub qX2_isWord_8 ?_
  refine J_aload_n (i := 1) qX2_isWord_9 rfl rfl ?_
  refine J_tsi0 qX2_isWord_10 kX2_130 hi (t_length hi) (Nat.le_of_ble_eq_true rfl) (fun r μ' hr => ?_)
  obtain ⟨rfl, rfl⟩ := hr
  first | with_reducible refine J_icmp_eq_n qX2_isWord_13 (by omega) (by omega) (fun c1 => ?_) (fun c1 => ?_) | refine J_icmp_eq qX2_isWord_13 (fun c1 => ?_) (fun c1 => ?_)
  · refine J_pushI qX2_isWord_18 ?_
    refine J_ist2 qX2_isWord_19 (Nat.le_of_ble_eq_true rfl) rfl ?_
    have H : ∀ k, k ≤ lnS i → (∀ j, j < k → bt T (s + j) = chS i j) → J mX2_isWord (d+4) (0, 0) s0 (Ki G (fun r μ' => μ = μ' ∧ r = b2i (isWd T s e i))) (0, 0) 20 [.ref q, .ref (1000000 + i), .int (nI k)] [] (G, μ) := by
      refine ind_up (fun k hk ih hinv => ?_)
      refine J_iload_n (i := 2) qX2_isWord_20 rfl rfl ?_
      refine J_aload_n (i := 1) qX2_isWord_21 rfl rfl ?_
      refine J_tsi0 qX2_isWord_22 kX2_130 hi (t_length hi) (Nat.le_of_ble_eq_true rfl) (fun r μ' hr => ?_)
      obtain ⟨rfl, rfl⟩ := hr
      first | with_reducible refine J_icmp_ge_n qX2_isWord_25 (by omega) (by omega) (fun c2 => ?_) (fun c2 => ?_) | refine J_icmp_ge qX2_isWord_25 (fun c2 => ?_) (fun c2 => ?_)
      · refine J_pushI qX2_isWord_55 ?_
        refine Jz_ret qX2_isWord_56 (by first | exact Or.inl rfl | exact Or.inr rfl | assumption) ?_
        exact ⟨rfl, b2i_t (decide_eq_true ⟨by omega, fun j hj => hinv j (by omega)⟩)⟩
      · have e := s5 (s + k) (by omega)
        refine J_aload_n (i := 0) qX2_isWord_28 rfl rfl ?_
        refine J_getR qX2_isWord_29 fX2_9 (by assumption) (by assumption) ?_
        refine J_aload_n (i := 0) qX2_isWord_32 rfl rfl ?_
        refine J_getIe qX2_isWord_33 fX2_25 (by assumption) (by (repeat first | with_reducible exact wI_e _ _ _ _ | (with_reducible apply rd_s; focus omega) | (with_reducible apply rd_c; focus omega) | (with_reducible apply rd_k; focus omega) | with_reducible exact rd_e (by omega)); first | done | assumption | rfl) ?_
        refine J_iload_n (i := 2) qX2_isWord_36 rfl rfl ?_
        first | with_reducible refine J_iadd_n qX2_isWord_37 ?_ | refine J_iadd qX2_isWord_37 ?_
        refine J_ialde qX2_isWord_38 (by assumption) rfl (by omega) (by (repeat first | with_reducible exact wI_e _ _ _ _ | (with_reducible apply rd_s; focus omega) | (with_reducible apply rd_c; focus omega) | (with_reducible apply rd_k; focus omega) | with_reducible exact rd_e (by omega)); first | done | assumption | rfl) ?_
        refine J_aload_n (i := 1) qX2_isWord_39 rfl rfl ?_
        refine J_iload_n (i := 2) qX2_isWord_40 rfl rfl ?_
        refine J_tsi1 qX2_isWord_41 kX2_136 hi (t_charAt hi c2) (Nat.le_of_ble_eq_true rfl) (fun r μ' hr => ?_)
        obtain ⟨rfl, rfl⟩ := hr
        first | with_reducible refine J_icmp_eq_n qX2_isWord_44 (by omega) (by omega) (fun c3 => ?_) (fun c3 => ?_) | refine J_icmp_eq qX2_isWord_44 (fun c3 => ?_) (fun c3 => ?_)
        · refine J_inc2 qX2_isWord_49 (Nat.le_of_ble_eq_true rfl) (by first | with_reducible exact nI_inc _ | rfl) rfl ?_
          refine J_goto qX2_isWord_52 ?_
          refine ih c2 (fun j hj => ?_)
          by_cases z : j = k
          · subst z; exact c3
          · exact hinv j (by omega)
        · refine J_pushI qX2_isWord_47 ?_
          refine Jz_ret qX2_isWord_48 (by first | exact Or.inl rfl | exact Or.inr rfl | assumption) ?_
          exact ⟨rfl, b2i_f (decide_eq_false (fun z => c3 (z.2 k c2)))⟩
    exact H 0 (Nat.zero_le _) (fun j hj => absurd hj (Nat.not_lt_zero j))
  · refine J_pushI qX2_isWord_16 ?_
    refine Jz_ret qX2_isWord_17 (by first | exact Or.inl rfl | exact Or.inr rfl | assumption) ?_
    exact ⟨rfl, b2i_f (decide_eq_false (fun z => c1 (by omega)))⟩
end RD
