/-! WRITER: what is written so far is a list -/
def IsW (G : Gm) (q : Nat) : Prop := IsO G q 4 ∧ RF G q 0 (q + 1) ∧ RF G q 1 (q + 2) ∧ IsA G (q + 1) 10 120 ∧ IsA G (q + 2) 10 10
def AbW (μ : Mm) (q : Nat) (o : List Int32) : Prop := μ.1 q 2 = nI o.length ∧ ∀ k, k < o.length → k < 120 → μ.1 (q + 1) k = o.getD k 0
def Pw (q : Nat) (c k : Nat) : Prop := (c = q ∧ k = 2) ∨ c = q + 1 ∨ c = q + 2
def wordS (i : Nat) : List Int32 := strB.getD i []
theorem word_take : ∀ i, i < 4 → ∀ k, k < lnS i → (wordS i).take (k + 1) = (wordS i).take k ++ [chS i k] := by decide +kernel
theorem word_all : ∀ i, i < 4 → (wordS i).take (lnS i) = wordS i := by decide +kernel
/-- the figures of n, the last one first -/
def dgL : Nat → Nat → List Nat
  | 0, _ => []
  | f + 1, n => (n % 10) :: (if n / 10 = 0 then [] else dgL f (n / 10))
theorem dgL_succ (f n : Nat) : dgL (f + 1) n = (n % 10) :: (if n / 10 = 0 then [] else dgL f (n / 10)) := rfl
theorem dgL_lt : ∀ f n, ∀ g ∈ dgL f n, g < 10
  | 0, _, g, h => by cases h
  | f + 1, n, g, h => by
    rw [dgL_succ] at h
    rcases List.mem_cons.mp h with rfl | h
    · omega
    · by_cases c : n / 10 = 0
      · rw [if_pos c] at h; cases h
      · rw [if_neg c] at h; exact dgL_lt f _ g h
theorem dgL_len : ∀ f n, (dgL f n).length ≤ f
  | 0, _ => Nat.le_refl 0
  | f + 1, n => by
    rw [dgL_succ, List.length_cons]
    by_cases c : n / 10 = 0
    · rw [if_pos c]; simp
    · rw [if_neg c]; exact Nat.succ_le_succ (dgL_len f _)
def figB (l : List Nat) : List Int32 := l.map (fun g => nI (48 + g))
def nmB (v : Int32) : List Int32 := nI 32 :: ((if v < 0 then [nI 45] else []) ++ figB (dgL 10 v.toInt.natAbs).reverse)
theorem abs_v (v : Int32) : (if 0 < v.toInt64 then v.toInt64 else -v.toInt64) = lN v.toInt.natAbs := by
  have h := rng v
  refine i64_inj ?_
  rw [pk_lT (by omega)]
  by_cases c : 0 < v.toInt64
  · rw [if_pos c, Int32.toInt_toInt64]
    rw [Int64.lt_iff_toInt_lt, Int32.toInt_toInt64, show (0 : Int64).toInt = 0 from rfl] at c
    omega
  · rw [if_neg c]
    rw [Int64.lt_iff_toInt_lt, Int32.toInt_toInt64, show (0 : Int64).toInt = 0 from rfl] at c
    rw [Int64.toInt_neg, Int32.toInt_toInt64, Int.bmod_eq_of_le (by omega) (by omega)]
    omega
def lv (c : Nat) : Int32 := match c with
  | 0 => -1
  | k + 1 => nI k
theorem dec_lv (k : Nat) : nI k + Int32.ofInt (-1) = lv k := by
  match k with
  | 0 => decide
  | k + 1 => exact nI_dec k
theorem AbW.fr {μ μ' : Mm} {q : Nat} {o : List Int32} {P : Nat → Nat → Prop} (h : AbW μ q o) (hF : Fr μ μ' P) (hP : ∀ c k, P c k → ¬ ((c = q ∧ k = 2) ∨ c = q + 1)) : AbW μ' q o :=
  ⟨(hF.1 _ _ (fun z => hP _ _ z (Or.inl ⟨rfl, rfl⟩))).trans h.1, fun k h1 h2 => (hF.1 _ _ (fun z => hP _ _ z (Or.inr rfl))).trans (h.2 k h1 h2)⟩
section WR
variable {G : Gm} {μ : Mm} {q d : Nat} {o : List Int32}
theorem w_byte (hW : IsW G q) (h : AbW μ q o) (hl : o.length < 100000) (b : Int32) : Sv mX4_writeByte (d) [.ref q, .int b] G μ (fun μ' => AbW μ' q (o ++ [b]) ∧ Fr μ μ' (fun c k => (c = q ∧ k = 2) ∨ c = q + 1)) := by
  obtain ⟨hO, r0, r1, a1, a2⟩ := hW
  obtain ⟨h1, h2⟩ := h
  refine Sv_of (ls := [.ref q, .int b]) (by decide +kernel) (Nat.le_of_ble_eq_true rfl) rfl ?_
  refine J_aload_n (i := 0) qX4_writeByte_0 rfl rfl ?_
  refine J_getIe qX4_writeByte_1 fX4_18 (by assumption) (by (repeat first | with_reducible exact wI_e _ _ _ _ | (with_reducible apply rd_s; focus omega) | (with_reducible apply rd_c; focus omega) | (with_reducible apply rd_k; focus omega) | with_reducible exact rd_e (by omega)); first | done | assumption | rfl) ?_
  refine J_aload_n (i := 0) qX4_writeByte_4 rfl rfl ?_
  refine J_getR qX4_writeByte_5 fX4_9 (by assumption) (by assumption) ?_
  refine J_alen qX4_writeByte_8 (by assumption) (by decide) (by decide) ?_
  have old : ∀ k, k < o.length → (o ++ [b]).getD k 0 = o.getD k 0 := fun k hk => by
    rw [List.getD_eq_getElem?_getD, List.getD_eq_getElem?_getD, List.getElem?_append_left hk]
  have new : (o ++ [b]).getD o.length 0 = b := by
    rw [List.getD_eq_getElem?_getD, List.getElem?_append_right (Nat.le_refl _)]
    simp
  first | with_reducible refine J_icmp_ge_n qX4_writeByte_9 (by omega) (by omega) (fun c1 => ?_) (fun c1 => ?_) | refine J_icmp_ge qX4_writeByte_9 (fun c1 => ?_) (fun c1 => ?_)
  · refine J_aload_n (i := 0) qX4_writeByte_22 rfl rfl ?_
    refine J_dup qX4_writeByte_23 rfl ?_
    refine J_getIe qX4_writeByte_24 fX4_18 (by assumption) (by (repeat first | with_reducible exact wI_e _ _ _ _ | (with_reducible apply rd_s; focus omega) | (with_reducible apply rd_c; focus omega) | (with_reducible apply rd_k; focus omega) | with_reducible exact rd_e (by omega)); first | done | assumption | rfl) ?_
    refine J_pushI qX4_writeByte_27 ?_
    first | with_reducible refine J_iadd_n qX4_writeByte_28 ?_ | refine J_iadd qX4_writeByte_28 ?_
    refine J_putI qX4_writeByte_29 fX4_18p (by assumption) rfl rfl ?_
    refine Jv_ret qX4_writeByte_32 ?_
    refine ⟨⟨by rw [wI_e]; simp, fun k hk hk2 => ?_⟩, Fr.w Fr.rf (Or.inl ⟨rfl, rfl⟩)⟩
    simp at hk
    rw [wI_n (by omega), old k (by omega)]
    exact h2 k (by omega) hk2
  · refine J_aload_n (i := 0) qX4_writeByte_12 rfl rfl ?_
    refine J_getR qX4_writeByte_13 fX4_9 (by assumption) (by assumption) ?_
    refine J_aload_n (i := 0) qX4_writeByte_16 rfl rfl ?_
    refine J_getIe qX4_writeByte_17 fX4_18 (by assumption) (by (repeat first | with_reducible exact wI_e _ _ _ _ | (with_reducible apply rd_s; focus omega) | (with_reducible apply rd_c; focus omega) | (with_reducible apply rd_k; focus omega) | with_reducible exact rd_e (by omega)); first | done | assumption | rfl) ?_
    refine J_iload_n (i := 1) qX4_writeByte_20 rfl rfl ?_
    refine J_iast qX4_writeByte_21 (by assumption) rfl (by omega) ?_
    refine J_aload_n (i := 0) qX4_writeByte_22 rfl rfl ?_
    refine J_dup qX4_writeByte_23 rfl ?_
    refine J_getIe qX4_writeByte_24 fX4_18 (by assumption) (by (repeat first | with_reducible exact wI_e _ _ _ _ | (with_reducible apply rd_s; focus omega) | (with_reducible apply rd_c; focus omega) | (with_reducible apply rd_k; focus omega) | with_reducible exact rd_e (by omega)); first | done | assumption | rfl) ?_
    refine J_pushI qX4_writeByte_27 ?_
    first | with_reducible refine J_iadd_n qX4_writeByte_28 ?_ | refine J_iadd qX4_writeByte_28 ?_
    refine J_putI qX4_writeByte_29 fX4_18p (by assumption) rfl rfl ?_
    refine Jv_ret qX4_writeByte_32 ?_
    refine ⟨⟨by rw [wI_e]; simp, fun k hk hk2 => ?_⟩, Fr.w (Fr.w Fr.rf (Or.inr rfl)) (Or.inl ⟨rfl, rfl⟩)⟩
    simp at hk
    rw [wI_n (by omega)]
    by_cases e : k = o.length
    · subst e
      rw [wI_e, new]
    · rw [wI_n (by omega), old k (by omega)]
      exact h2 k (by omega) hk2
theorem w_word (hW : IsW G q) (h : AbW μ q o) (hl : o.length < 90000) {i : Nat} (hi : i < 4) : Sv mX4_writeWord (d+4) [.ref q, .ref (1000000 + i)] G μ (fun μ' => AbW μ' q (o ++ wordS i) ∧ Fr μ μ' (Pw q)) := by
  have hW0 := hW
  obtain ⟨hO, r0, r1, a1, a2⟩ := hW
  have h5 := ln_le i
  refine Sv_of (ls := [.ref q, .ref (1000000 + i), .null]) (by decide +kernel) (Nat.le_of_ble_eq_true rfl) rfl ?_
  refine J_pushI qX4_writeWord_0 ?_
  refine J_ist2 qX4_writeWord_1 (Nat.le_of_ble_eq_true rfl) rfl ?_
  have H : ∀ k, k ≤ lnS i → ∀ ν : Mm, Fr μ ν (Pw q) → AbW ν q (o ++ (wordS i).take k) → J mX4_writeWord (d+4) (0, 0) s0 (Kv G (fun μ' => AbW μ' q (o ++ wordS i) ∧ Fr μ μ' (Pw q))) (0, 0) 2 [.ref q, .ref (1000000 + i), .int (nI k)] [] (G, ν) := by
    refine ind_up (fun k hk ih ν hF hA => ?_)
    refine J_iload_n (i := 2) qX4_writeWord_2 rfl rfl ?_
    refine J_aload_n (i := 1) qX4_writeWord_3 rfl rfl ?_
    refine J_tsi0 qX4_writeWord_4 kX4_56 hi (t_length hi) (Nat.le_of_ble_eq_true rfl) (fun r μ' hr => ?_)
    obtain ⟨rfl, rfl⟩ := hr
    first | with_reducible refine J_icmp_ge_n qX4_writeWord_7 (by omega) (by omega) (fun c1 => ?_) (fun c1 => ?_) | refine J_icmp_ge qX4_writeWord_7 (fun c1 => ?_) (fun c1 => ?_)
    · refine Jv_ret qX4_writeWord_25 ?_
      rw [show k = lnS i by omega, word_all i hi] at hA
      exact ⟨hA, hF⟩
    · refine J_aload_n (i := 0) qX4_writeWord_10 rfl rfl ?_
      refine J_aload_n (i := 1) qX4_writeWord_11 rfl rfl ?_
      refine J_iload_n (i := 2) qX4_writeWord_12 rfl rfl ?_
      refine J_tsi1 qX4_writeWord_13 kX4_62 hi (t_charAt hi c1) (Nat.le_of_ble_eq_true rfl) (fun r μ' hr => ?_)
      obtain ⟨rfl, rfl⟩ := hr
      refine J_vv1 qX4_writeWord_16 kX4_49 (by assumption) (w_byte hW0 hA (by rw [List.length_append, List.length_take]; omega) _) (Nat.le_of_ble_eq_true rfl) (fun ν' hr => ?_)
      obtain ⟨g1, g2⟩ := hr
      refine J_inc2 qX4_writeWord_19 (Nat.le_of_ble_eq_true rfl) (by first | with_reducible exact nI_inc _ | rfl) rfl ?_
      refine J_goto qX4_writeWord_22 ?_
      refine ih c1 ν' (hF.tr (g2.mono (fun c k z => by unfold Pw; omega))) ?_
      rw [word_take i hi k c1, ← List.append_assoc]
      exact g1
  exact H 0 (Nat.zero_le _) μ Fr.rf (by rw [List.take_zero, List.append_nil]; exact h)
theorem w_number (hW : IsW G q) (h : AbW μ q o) (hl : o.length < 90000) (v : Int32) : Sv mX4_writeNumber (d+1) [.ref q, .int v] G μ (fun μ' => AbW μ' q (o ++ nmB v) ∧ Fr μ μ' (Pw q)) := by
  have hW0 := hW
  obtain ⟨hO, r0, r1, a1, a2⟩ := hW
  have hv := rng v
  refine Sv_of (ls := [.ref q, .int v, .null, .null, .null, .null]) (by decide +kernel) (Nat.le_of_ble_eq_true rfl) rfl ?_
  refine J_aload_n (i := 0) qX4_writeNumber_0 rfl rfl ?_
  refine J_pushI qX4_writeNumber_1 ?_
  refine J_vv1 qX4_writeNumber_3 kX4_49 (by assumption) (w_byte hW0 h (by omega) (nI 32)) (Nat.le_of_ble_eq_true rfl) (fun ν hr => ?_)
  obtain ⟨g1, g2⟩ := hr
  have tail : ∀ (ν : Mm) (o1 : List Int32), o1.length < 90010 → Fr μ ν (Pw q) → AbW ν q o1 → o ++ nmB v = o1 ++ figB (dgL 10 v.toInt.natAbs).reverse → J mX4_writeNumber (d+1) (0, 0) s0 (Kv G (fun μ' => AbW μ' q (o ++ nmB v) ∧ Fr μ μ' (Pw q))) (0, 0) 16 [.ref q, .int v, .null, .null, .null, .null] [] (G, ν) := by
    intro ν o1 ho1 hF hA hEq
    refine J_iload_n (i := 1) qX4_writeNumber_16 rfl rfl ?_
    refine J_i2l qX4_writeNumber_17 ?_
    refine J_mabsl qX4_writeNumber_18 kX4_66 (Nat.le_of_ble_eq_true rfl) ?_
    rw [abs_v]
    refine J_lst2 qX4_writeNumber_21 (Nat.le_of_ble_eq_true rfl) rfl ?_
    refine J_pushI qX4_writeNumber_22 ?_
    refine J_ist4 qX4_writeNumber_23 (Nat.le_of_ble_eq_true rfl) rfl ?_
    have H1 : ∀ f (l : List Nat) (n : Nat) (ν : Mm), l.length + f = 10 → 0 < f → n < 9000000000 → Fr μ ν (Pw q) → AbW ν q o1 → (∀ k, k < l.length → ν.1 (q + 2) k = nI (l.getD k 0)) → dgL 10 v.toInt.natAbs = l ++ dgL f n → J mX4_writeNumber (d+1) (0, 0) s0 (Kv G (fun μ' => AbW μ' q (o ++ nmB v) ∧ Fr μ μ' (Pw q))) (0, 0) 25 [.ref q, .int v, .long (lN n), .null, .int (nI l.length), .null] [] (G, ν) := by
      intro f
      induction f with
      | zero => intro l n ν h1 h2; omega
      | succ f ih =>
        intro l n ν hlf _ hn hF hA hfig hdg
        have fin : ∀ (l : List Nat) (ν : Mm) (z : Value), 0 < l.length → l.length ≤ 10 → Fr μ ν (Pw q) → AbW ν q o1 → (∀ k, k < l.length → ν.1 (q + 2) k = nI (l.getD k 0)) → dgL 10 v.toInt.natAbs = l → J mX4_writeNumber (d+1) (0, 0) s0 (Kv G (fun μ' => AbW μ' q (o ++ nmB v) ∧ Fr μ μ' (Pw q))) (0, 0) 63 [.ref q, .int v, z, .null, .int (nI l.length), .null] [] (G, ν) := by
          intro l ν z hl0 hl10 hF hA hfig hdg
          refine J_iload (i := 4) qX4_writeNumber_63 rfl ?_
          refine J_pushI qX4_writeNumber_65 ?_
          first | with_reducible refine J_isub_n qX4_writeNumber_66 (by omega) ?_ | refine J_isub qX4_writeNumber_66 ?_
          refine J_ist5 qX4_writeNumber_67 (Nat.le_of_ble_eq_true rfl) rfl ?_
          have H2 : ∀ c, c ≤ l.length → ∀ ν : Mm, Fr μ ν (Pw q) → (∀ k, k < l.length → ν.1 (q + 2) k = nI (l.getD k 0)) → AbW ν q (o1 ++ figB (l.drop c).reverse) → J mX4_writeNumber (d+1) (0, 0) s0 (Kv G (fun μ' => AbW μ' q (o ++ nmB v) ∧ Fr μ μ' (Pw q))) (0, 0) 69 [.ref q, .int v, z, .null, .int (nI l.length), .int (lv c)] [] (G, ν) := by
            intro c
            induction c with
            | zero =>
              intro _ ν hF hfig hA
              refine J_iload (i := 5) qX4_writeNumber_69 rfl ?_
              refine J_if_lt qX4_writeNumber_71 (fun c => ?_) (fun c => absurd (by decide) c)
              refine Jv_ret qX4_writeNumber_94 ?_
              rw [List.drop_zero] at hA
              refine ⟨?_, hF⟩
              rw [hEq, hdg]
              exact hA
            | succ c ih2 =>
              intro hc ν hF hfig hA
              have e := hfig c (by omega)
              refine J_iload (i := 5) qX4_writeNumber_69 rfl ?_
              refine J_if_lt_n (a := c) qX4_writeNumber_71 (by omega) ?_
              refine J_aload_n (i := 0) qX4_writeNumber_74 rfl rfl ?_
              refine J_pushI qX4_writeNumber_75 ?_
              refine J_aload_n (i := 0) qX4_writeNumber_77 rfl rfl ?_
              refine J_getR qX4_writeNumber_78 fX4_15 (by assumption) (by assumption) ?_
              refine J_iload (i := 5) qX4_writeNumber_81 rfl ?_
              refine J_ialde qX4_writeNumber_83 (by assumption) rfl (by omega) (by (repeat first | with_reducible exact wI_e _ _ _ _ | (with_reducible apply rd_s; focus omega) | (with_reducible apply rd_c; focus omega) | (with_reducible apply rd_k; focus omega) | with_reducible exact rd_e (by omega)); first | done | assumption | rfl) ?_
              first | with_reducible refine J_iadd_n qX4_writeNumber_84 ?_ | refine J_iadd qX4_writeNumber_84 ?_
              refine J_vv1 qX4_writeNumber_85 kX4_49 (by assumption) (w_byte hW0 hA (by rw [List.length_append]; unfold figB; simp; omega) _) (Nat.le_of_ble_eq_true rfl) (fun ν' hr => ?_)
              obtain ⟨g1, g2⟩ := hr
              refine J_inc5 qX4_writeNumber_88 (Nat.le_of_ble_eq_true rfl) (dec_lv c) rfl ?_
              refine J_goto qX4_writeNumber_91 ?_
              refine ih2 (by omega) ν' (hF.tr (g2.mono (fun c k z => by unfold Pw; omega))) (fun k hk => ?_) ?_
              · rw [g2.1 _ _ (by omega)]; exact hfig k hk
              · have ed : l.drop c = l.getD c 0 :: l.drop (c + 1) := by
                  rw [List.drop_eq_getElem_cons (by omega), List.getD_eq_getElem?_getD, List.getElem?_eq_getElem (by omega)]
                  rfl
                rw [ed, List.reverse_cons]
                unfold figB at g1 ⊢
                rw [List.map_append, ← List.append_assoc]
                exact g1
          have el : lv l.length = nI (l.length - 1) := by
            match hq : l.length, hl0 with
            | n + 1, _ => rfl
          have h3 := H2 l.length (Nat.le_refl _) ν hF hfig (by rw [List.drop_length]; unfold figB; simpa using hA)
          rw [el] at h3
          exact h3
        refine J_aload_n (i := 0) qX4_writeNumber_25 rfl rfl ?_
        refine J_getR qX4_writeNumber_26 fX4_15 (by assumption) (by assumption) ?_
        refine J_iload (i := 4) qX4_writeNumber_29 rfl ?_
        refine J_lload_n (i := 2) qX4_writeNumber_31 rfl rfl ?_
        refine J_pushL qX4_writeNumber_32 ?_
        refine J_lrem qX4_writeNumber_35 (by decide) ?_
        rw [pk_lRem (by omega) (by omega) (by omega)]
        refine J_l2i qX4_writeNumber_36 ?_
        rw [lN_i]
        refine J_iast qX4_writeNumber_37 (by assumption) rfl (by omega) ?_
        refine J_lload_n (i := 2) qX4_writeNumber_38 rfl rfl ?_
        refine J_pushL qX4_writeNumber_39 ?_
        refine J_ldiv qX4_writeNumber_42 (by decide) ?_
        rw [pk_lDiv (by omega) (by omega) (by omega)]
        refine J_lst2 qX4_writeNumber_43 (Nat.le_of_ble_eq_true rfl) rfl ?_
        refine J_inc4 qX4_writeNumber_44 (Nat.le_of_ble_eq_true rfl) (by first | with_reducible exact nI_inc _ | rfl) rfl ?_
        refine J_lload_n (i := 2) qX4_writeNumber_47 rfl rfl ?_
        refine J_pushL qX4_writeNumber_48 ?_
        have hF' : Fr μ (wI ν (q + 2) l.length (nI (n % 10))) (Pw q) := hF.w (Or.inr (Or.inr rfl))
        have hA' : AbW (wI ν (q + 2) l.length (nI (n % 10))) q o1 := ⟨by rw [wI_n (by omega)]; exact hA.1, fun k k1 k2 => by rw [wI_n (by omega)]; exact hA.2 k k1 k2⟩
        have hfig' : ∀ k, k < (l ++ [n % 10]).length → (wI ν (q + 2) l.length (nI (n % 10))).1 (q + 2) k = nI ((l ++ [n % 10]).getD k 0) := fun k hk => by
          simp at hk
          by_cases e : k = l.length
          · subst e
            rw [wI_e, List.getD_eq_getElem?_getD, List.getElem?_append_right (Nat.le_refl _)]
            simp
          · rw [wI_n (by omega), hfig k (by omega), List.getD_eq_getElem?_getD, List.getD_eq_getElem?_getD, List.getElem?_append_left (by omega)]
        have ll : (l ++ [n % 10]).length = l.length + 1 := by simp
        rw [dgL_succ f n] at hdg
        refine J_lif_le qX4_writeNumber_49 qX4_writeNumber_50 (fun c1 => ?_) (fun c1 => ?_)
        · have c1' : n / 10 = 0 := by
            have := (pk_lLE (a := n / 10) (b := 0) (by omega) (by omega)).mp c1
            omega
          rw [if_pos c1'] at hdg
          have h3 := fin (l ++ [n % 10]) _ (.long (lN (n / 10))) (by omega) (by omega) hF' hA' hfig' hdg
          rw [ll] at h3
          exact h3
        · have c1' : ¬ n / 10 = 0 := fun z => c1 (by rw [z]; decide)
          rw [if_neg c1'] at hdg
          refine J_iload (i := 4) qX4_writeNumber_53 rfl ?_
          refine J_aload_n (i := 0) qX4_writeNumber_55 rfl rfl ?_
          refine J_getR qX4_writeNumber_56 fX4_15 (by assumption) (by assumption) ?_
          refine J_alen qX4_writeNumber_59 (by assumption) (by decide) (by decide) ?_
          first | with_reducible refine J_icmp_lt_n qX4_writeNumber_60 (by omega) (by omega) (fun c2 => ?_) (fun c2 => ?_) | refine J_icmp_lt qX4_writeNumber_60 (fun c2 => ?_) (fun c2 => ?_)
          · have h3 := ih (l ++ [n % 10]) (n / 10) _ (by omega) (by omega) (by omega) hF' hA' hfig' (by rw [hdg, List.append_assoc]; rfl)
            rw [ll] at h3
            exact h3
          · have f0 : f = 0 := by omega
            subst f0
            have h3 := fin (l ++ [n % 10]) _ (.long (lN (n / 10))) (by omega) (by omega) hF' hA' hfig' hdg
            rw [ll] at h3
            exact h3
    exact H1 10 [] v.toInt.natAbs ν rfl (by omega) (by omega) hF hA (fun k hk => absurd hk (Nat.not_lt_zero k)) rfl
  have hF1 : Fr μ ν (Pw q) := g2.mono (fun c k z => by unfold Pw; omega)
  refine J_iload_n (i := 1) qX4_writeNumber_6 rfl rfl ?_
  first | with_reducible refine J_if_ge_n qX4_writeNumber_7 (by omega) ?_ | refine J_if_ge qX4_writeNumber_7 (fun c1 => ?_) (fun c1 => ?_)
  · refine tail ν (o ++ [nI 32]) (by simp; omega) hF1 g1 ?_
    unfold nmB
    rw [if_neg (Int32.not_lt.mpr c1)]
    simp
  · refine J_aload_n (i := 0) qX4_writeNumber_10 rfl rfl ?_
    refine J_pushI qX4_writeNumber_11 ?_
    refine J_vv1 qX4_writeNumber_13 kX4_49 (by assumption) (w_byte hW0 g1 (by simp; omega) (nI 45)) (Nat.le_of_ble_eq_true rfl) (fun ν' hr => ?_)
    obtain ⟨g3, g4⟩ := hr
    refine tail ν' (o ++ [nI 32] ++ [nI 45]) (by simp; omega) (hF1.tr (g4.mono (fun c k z => by unfold Pw; omega))) g3 ?_
    unfold nmB
    rw [if_pos (i32_nle c1)]
    simp
end WR
