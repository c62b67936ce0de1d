/-! THE MODEL: written out -/
def byB (x : Int32) : Prop := x.toInt8.toInt32 = x
def AbM (μ : Mm) (o : List Int32) : Prop := μ.1 198 18 = nI o.length ∧ (∀ k, k < o.length → k < 120 → μ.1 207 k = o.getD k 0) ∧ ∀ x ∈ o, byB x
def PwM (c k : Nat) : Prop := (c = 198 ∧ k = 18) ∨ c = 207
theorem by_fig : ∀ g, g < 10 → byB (nI (48 + g)) := by unfold byB; decide +kernel
def tpD (n : Nat) : Nat → List Nat
  | 0 => [n % 10]
  | j + 1 => n / 10 ^ (j + 1) % 10 :: tpD n j
theorem div_pow (n j : Nat) : n / 10 ^ (j + 1) = n / 10 / 10 ^ j := by
  rw [Nat.div_div_eq_div_mul, Nat.pow_succ, Nat.mul_comm]
theorem tpD_snoc (n : Nat) : ∀ j, tpD n (j + 1) = tpD (n / 10) j ++ [n % 10]
  | 0 => by
    show [n / 10 ^ 1 % 10, n % 10] = [n / 10 % 10, n % 10]
    rw [Nat.pow_one]
  | j + 1 => by
    show n / 10 ^ (j + 1 + 1) % 10 :: tpD n (j + 1) = (n / 10 / 10 ^ (j + 1) % 10 :: tpD (n / 10) j) ++ [n % 10]
    rw [tpD_snoc n j, div_pow n (j + 1)]
    rfl
theorem dgL_top : ∀ j f n, j < f → n / 10 ^ j < 10 → (j = 0 ∨ 10 ≤ n / 10 ^ (j - 1)) → (dgL f n).reverse = tpD n j
  | _, 0, _, h, _, _ => absurd h (Nat.not_lt_zero _)
  | 0, f + 1, n, _, h, _ => by
    rw [Nat.pow_zero, Nat.div_one] at h
    rw [dgL_succ, if_pos (by omega)]
    rfl
  | j + 1, f + 1, n, hf, h, h2 => by
    have h3 := h2.resolve_left (by omega)
    rw [show j + 1 - 1 = j by omega] at h3
    rw [div_pow] at h
    have h4 : 10 ≤ n := by
      have := Nat.div_le_self n (10 ^ j)
      omega
    rw [dgL_succ, if_neg (by omega), List.reverse_cons, tpD_snoc]
    rw [dgL_top j f (n / 10) (by omega) h (by
      by_cases c : j = 0
      · exact Or.inl c
      · right
        rw [← div_pow, show j - 1 + 1 = j by omega]
        exact h3)]
theorem tpD_lt (n : Nat) : ∀ j, ∀ g ∈ tpD n j, g < 10
  | 0, g, h => by rw [List.mem_singleton.mp h]; omega
  | j + 1, g, h => by
    rcases List.mem_cons.mp h with rfl | h
    · omega
    · exact tpD_lt n j g h
theorem tpD_len (n : Nat) : ∀ j, (tpD n j).length = j + 1
  | 0 => rfl
  | j + 1 => by
    show (_ :: tpD n j).length = _
    rw [List.length_cons, tpD_len n j]
theorem pow_le9 {j : Nat} (h : j ≤ 9) : 1 ≤ 10 ^ j ∧ 10 ^ j ≤ 1000000000 := by
  have h1 : 10 ^ j ≤ 10 ^ 9 := Nat.pow_le_pow_right (by omega) h
  have h2 : 10 ^ 9 = 1000000000 := rfl
  have h3 : 0 < 10 ^ j := Nat.pow_pos (by omega)
  omega
theorem l_abs (v : Int32) : (v < 0 → -v.toInt64 = lN v.toInt.natAbs) ∧ (¬ v < 0 → v.toInt64 = lN v.toInt.natAbs) := by
  have h := rng v
  constructor
  · intro c
    rw [i32_lt0] at c
    refine i64_inj ?_
    rw [pk_lT (by omega), Int64.toInt_neg, Int32.toInt_toInt64, Int.bmod_eq_of_le (by omega) (by omega)]
    omega
  · intro c
    rw [i32_lt0] at c
    refine i64_inj ?_
    rw [pk_lT (by omega), Int32.toInt_toInt64]
    omega
theorem nI_byte {n : Nat} (h : n < 128) : byB (nI n) := by
  unfold byB
  have : ∀ n, n < 128 → (nI n).toInt8.toInt32 = nI n := by decide +kernel
  exact this n h
section MM
variable {G : Gm} {μ : Mm} {d : Nat} {s : St} {o : List Int32}
theorem AbM.fr {ν : Mm} (h : AbM μ o) (h1 : ν.1 198 18 = μ.1 198 18) (h2 : ∀ k, ν.1 207 k = μ.1 207 k) : AbM ν o := ⟨h1.trans h.1, fun k a b => (h2 k).trans (h.2.1 k a b), h.2.2⟩
theorem m_writes (hM : LayM G) (h : AbM μ o) (hl : o.length < 100000) {b : Int32} (hb : byB b) : Sv mX6_writes (d) [.ref 198, .int b] G μ (fun μ' => AbM μ' (o ++ [b]) ∧ Fr μ μ' PwM) := by
  obtain ⟨mO, ⟨-, -, -, -, -, -, -, f17, f19, -⟩, ⟨-, -, -, -, -, -, -, b206, b207, -⟩⟩ := hM
  obtain ⟨h1, h2, h3⟩ := h
  have old : ∀ k, k < o.length → (o ++ [b]).getD k 0 = o.getD k 0 := fun k hk => by
    rw [List.getD_eq_getElem?_getD, List.getD_eq_getElem?_getD, List.getElem?_append_left hk]
  have new : (o ++ [b]).getD o.length 0 = b := by
    rw [List.getD_eq_getElem?_getD, List.getElem?_append_right (Nat.le_refl _)]
    simp
  have ll : (o ++ [b]).length = o.length + 1 := by simp
  have all : ∀ x ∈ o ++ [b], byB x := fun x hx => by
    rcases List.mem_append.mp hx with z | z
    · exact h3 x z
    · rw [List.mem_singleton.mp z]; exact hb
  refine Sv_of (ls := [.ref 198, .int b]) (by decide +kernel) (Nat.le_of_ble_eq_true rfl) rfl ?_
  refine J_aload_n (i := 0) qX6_writes_0 rfl rfl ?_
  refine J_getIe qX6_writes_1 fX6_207 (by assumption) (by (repeat first | with_reducible exact wI_e _ _ _ _ | (with_reducible apply rd_s; focus omega) | (with_reducible apply rd_c; focus omega) | (with_reducible apply rd_k; focus omega) | with_reducible exact rd_e (by omega)); first | done | assumption | rfl) ?_
  refine J_pushI qX6_writes_4 ?_
  first | with_reducible refine J_icmp_ge_n qX6_writes_6 (by omega) (by omega) (fun c => ?_) (fun c => ?_) | refine J_icmp_ge qX6_writes_6 (fun c => ?_) (fun c => ?_)
  · refine J_aload_n (i := 0) qX6_writes_20 rfl rfl ?_
    refine J_dup qX6_writes_21 rfl ?_
    refine J_getIe qX6_writes_22 fX6_207 (by assumption) (by (repeat first | with_reducible exact wI_e _ _ _ _ | (with_reducible apply rd_s; focus omega) | (with_reducible apply rd_c; focus omega) | (with_reducible apply rd_k; focus omega) | with_reducible exact rd_e (by omega)); first | done | assumption | rfl) ?_
    refine J_pushI qX6_writes_25 ?_
    first | with_reducible refine J_iadd_n qX6_writes_26 ?_ | refine J_iadd qX6_writes_26 ?_
    refine J_putI qX6_writes_27 fX6_207p (by assumption) rfl rfl ?_
    refine Jv_ret qX6_writes_30 ?_
    refine ⟨⟨?_, fun k q1 q2 => ?_, all⟩, Fr.w Fr.rf (Or.inl ⟨rfl, rfl⟩)⟩
    · rw [wI_e, ll]
    · rw [wI_n (by omega), old k (by omega)]; exact h2 k (by omega) q2
  · refine J_aload_n (i := 0) qX6_writes_9 rfl rfl ?_
    refine J_getR qX6_writes_10 fX6_35 (by assumption) (by assumption) ?_
    refine J_aload_n (i := 0) qX6_writes_13 rfl rfl ?_
    refine J_getIe qX6_writes_14 fX6_207 (by assumption) (by (repeat first | with_reducible exact wI_e _ _ _ _ | (with_reducible apply rd_s; focus omega) | (with_reducible apply rd_c; focus omega) | (with_reducible apply rd_k; focus omega) | with_reducible exact rd_e (by omega)); first | done | assumption | rfl) ?_
    refine J_iload_n (i := 1) qX6_writes_17 rfl rfl ?_
    refine J_i2b qX6_writes_18 ?_
    refine J_bast qX6_writes_19 b207 rfl (by omega) ?_
    rw [b_b, show b.toInt8.toInt32 = b from hb]
    refine J_aload_n (i := 0) qX6_writes_20 rfl rfl ?_
    refine J_dup qX6_writes_21 rfl ?_
    refine J_getIe qX6_writes_22 fX6_207 (by assumption) (by (repeat first | with_reducible exact wI_e _ _ _ _ | (with_reducible apply rd_s; focus omega) | (with_reducible apply rd_c; focus omega) | (with_reducible apply rd_k; focus omega) | with_reducible exact rd_e (by omega)); first | done | assumption | rfl) ?_
    refine J_pushI qX6_writes_25 ?_
    first | with_reducible refine J_iadd_n qX6_writes_26 ?_ | refine J_iadd qX6_writes_26 ?_
    refine J_putI qX6_writes_27 fX6_207p (by assumption) rfl rfl ?_
    refine Jv_ret qX6_writes_30 ?_
    refine ⟨⟨?_, fun k q1 q2 => ?_, all⟩, Fr.w (Fr.w Fr.rf (Or.inr rfl)) (Or.inl ⟨rfl, rfl⟩)⟩
    · rw [wI_e, ll]
    · rw [ll] at q1
      by_cases e : k = o.length
      · subst e
        rw [wI_n (by omega), wI_e, new]
      · rw [wI_n (by omega), wI_n (by omega), old k (by omega)]; exact h2 k (by omega) q2
theorem m_writesWord (hM : LayM G) (h : AbM μ o) (hl : o.length < 90000) {a b c e : Nat} (ha : a < 128) (hb : b < 128) (hc : c < 128) (he : e < 128) : Sv mX6_writesWord (d+1) [.ref 198, .int (nI a), .int (nI b), .int (nI c), .int (nI e)] G μ (fun μ' => AbM μ' (o ++ [nI a, nI b, nI c, nI e]) ∧ Fr μ μ' PwM) := by
  have mO := hM.1
  refine Sv_of (ls := [.ref 198, .int (nI a), .int (nI b), .int (nI c), .int (nI e)]) (by decide +kernel) (Nat.le_of_ble_eq_true rfl) rfl ?_
  refine J_aload_n (i := 0) qX6_writesWord_0 rfl rfl ?_
  refine J_iload_n (i := 1) qX6_writesWord_1 rfl rfl ?_
  refine J_vv1 qX6_writesWord_2 kX6_210 (by assumption) (m_writes (d := d) hM h (by omega) (nI_byte ha)) (Nat.le_of_ble_eq_true rfl) (fun ν1 hr => ?_)
  obtain ⟨g1, g2⟩ := hr
  refine J_aload_n (i := 0) qX6_writesWord_5 rfl rfl ?_
  refine J_iload_n (i := 2) qX6_writesWord_6 rfl rfl ?_
  refine J_vv1 qX6_writesWord_7 kX6_210 (by assumption) (m_writes (d := d) hM g1 (by simp; omega) (nI_byte hb)) (Nat.le_of_ble_eq_true rfl) (fun ν2 hr => ?_)
  obtain ⟨g3, g4⟩ := hr
  refine J_aload_n (i := 0) qX6_writesWord_10 rfl rfl ?_
  refine J_iload_n (i := 3) qX6_writesWord_11 rfl rfl ?_
  refine J_vv1 qX6_writesWord_12 kX6_210 (by assumption) (m_writes (d := d) hM g3 (by simp; omega) (nI_byte hc)) (Nat.le_of_ble_eq_true rfl) (fun ν3 hr => ?_)
  obtain ⟨g5, g6⟩ := hr
  refine J_aload_n (i := 0) qX6_writesWord_15 rfl rfl ?_
  refine J_iload (i := 4) qX6_writesWord_16 rfl ?_
  refine J_vv1 qX6_writesWord_18 kX6_210 (by assumption) (m_writes (d := d) hM g5 (by simp; omega) (nI_byte he)) (Nat.le_of_ble_eq_true rfl) (fun ν4 hr => ?_)
  obtain ⟨g7, g8⟩ := hr
  refine Jv_ret qX6_writesWord_21 ?_
  refine ⟨?_, ((g2.tr g4).tr g6).tr g8⟩
  simpa using g7
theorem m_writesNumber (hM : LayM G) (h : AbM μ o) (hl : o.length < 90000) (v : Int32) : Sv mX6_writesNumber (d+1) [.ref 198, .long v.toInt64] G μ (fun μ' => AbM μ' (o ++ nmB v) ∧ Fr μ μ' PwM) := by
  have mO := hM.1
  have rv := rng v
  have n31 : v.toInt.natAbs ≤ 2147483648 := by omega
  have tail : ∀ (ν : Mm) (o1 : List Int32), o1.length < 99000 → Fr μ ν PwM → AbM ν o1 → o ++ nmB v = o1 ++ figB (dgL 10 v.toInt.natAbs).reverse → J mX6_writesNumber (d+1) (0, 0) s0 (Kv G (fun μ' => AbM μ' (o ++ nmB v) ∧ Fr μ μ' PwM)) (0, 0) 23 [.ref 198, .long v.toInt64, .null, .long (lN v.toInt.natAbs), .null, .null, .null] [] (G, ν) := by
    intro ν o1 hl1 hF hA hE
    generalize v.toInt.natAbs = n at n31 hE ⊢
    have down : ∀ i, i ≤ 9 → ∀ (ν : Mm) (o2 : List Int32), o2.length + i < 99990 → Fr μ ν PwM → AbM ν o2 → o ++ nmB v = o2 ++ figB (tpD n i) → J mX6_writesNumber (d+1) (0, 0) s0 (Kv G (fun μ' => AbM μ' (o ++ nmB v) ∧ Fr μ μ' PwM)) (0, 0) 48 [.ref 198, .long v.toInt64, .null, .long (lN n), .null, .long (lN (10 ^ i)), .null] [] (G, ν) := by
      intro i
      induction i with
      | zero =>
        intro hi ν o2 hl2 hF hA hE
        have hne : ¬ lN (10 ^ 0) = 0 := by decide
        refine J_lload (i := 5) qX6_writesNumber_48 rfl ?_
        refine J_pushL qX6_writesNumber_50 ?_
        refine J_lif_le qX6_writesNumber_51 qX6_writesNumber_52 (fun z => absurd z (by decide)) (fun _ => ?_)
        refine J_aload_n (i := 0) qX6_writesNumber_55 rfl rfl ?_
        refine J_pushL qX6_writesNumber_56 ?_
        refine J_lload_n (i := 3) qX6_writesNumber_59 rfl rfl ?_
        refine J_lload (i := 5) qX6_writesNumber_60 rfl ?_
        refine J_ldiv qX6_writesNumber_62 (by first | assumption | decide) ?_
        rw [pk_lDiv (by omega) (by decide) (by decide)]
        refine J_pushL qX6_writesNumber_63 ?_
        refine J_lrem qX6_writesNumber_66 (by first | assumption | decide) ?_
        rw [pk_lRem (by have := Nat.div_le_self n (10 ^ 0); omega) (by omega) (by omega)]
        refine J_ladd qX6_writesNumber_67 ?_
        rw [lN_add]
        refine J_l2i qX6_writesNumber_68 ?_
        rw [lN_i]
        have e1 : n / 10 ^ 0 % 10 = n % 10 := by rw [Nat.pow_zero, Nat.div_one]
        rw [e1]
        refine J_vv1 qX6_writesNumber_69 kX6_210 (by assumption) (m_writes (d := d) hM hA (by omega) (by_fig (n % 10) (by omega))) (Nat.le_of_ble_eq_true rfl) (fun ν1 hr => ?_)
        obtain ⟨g1, g2⟩ := hr
        refine J_lload (i := 5) qX6_writesNumber_72 rfl ?_
        refine J_pushL qX6_writesNumber_74 ?_
        refine J_ldiv qX6_writesNumber_77 (by first | assumption | decide) ?_
        rw [pk_lDiv (by decide) (by omega) (by omega), show 10 ^ 0 / 10 = 0 from rfl]
        refine J_lst5 qX6_writesNumber_78 (Nat.le_of_ble_eq_true rfl) rfl ?_
        refine J_goto qX6_writesNumber_80 ?_
        refine J_lload (i := 5) qX6_writesNumber_48 rfl ?_
        refine J_pushL qX6_writesNumber_50 ?_
        refine J_lif_le qX6_writesNumber_51 qX6_writesNumber_52 (fun _ => ?_) (fun z => absurd (by decide) z)
        refine Jv_ret qX6_writesNumber_83 ?_
        refine ⟨?_, hF.tr g2⟩
        rw [hE]
        exact g1
      | succ i ih =>
        intro hi ν o2 hl2 hF hA hE
        have p9 := pow_le9 hi
        have hne : ¬ lN (10 ^ (i + 1)) = 0 := fun z => by
          have := (pk_lEQ (a := 10 ^ (i + 1)) (b := 0) (by omega) (by omega)).mp z
          omega
        refine J_lload (i := 5) qX6_writesNumber_48 rfl ?_
        refine J_pushL qX6_writesNumber_50 ?_
        refine J_lif_le qX6_writesNumber_51 qX6_writesNumber_52 (fun z => ?_) (fun _ => ?_)
        · have := (pk_lLE (a := 10 ^ (i + 1)) (b := 0) (by omega) (by omega)).mp z
          omega
        · refine J_aload_n (i := 0) qX6_writesNumber_55 rfl rfl ?_
          refine J_pushL qX6_writesNumber_56 ?_
          refine J_lload_n (i := 3) qX6_writesNumber_59 rfl rfl ?_
          refine J_lload (i := 5) qX6_writesNumber_60 rfl ?_
          refine J_ldiv qX6_writesNumber_62 (by first | assumption | decide) ?_
          rw [pk_lDiv (by omega) (by omega) (by omega)]
          refine J_pushL qX6_writesNumber_63 ?_
          refine J_lrem qX6_writesNumber_66 (by first | assumption | decide) ?_
          rw [pk_lRem (by have := Nat.div_le_self n (10 ^ (i + 1)); omega) (by omega) (by omega)]
          refine J_ladd qX6_writesNumber_67 ?_
          rw [lN_add]
          refine J_l2i qX6_writesNumber_68 ?_
          rw [lN_i]
          refine J_vv1 qX6_writesNumber_69 kX6_210 (by assumption) (m_writes (d := d) hM hA (by omega) (by_fig (n / 10 ^ (i + 1) % 10) (by omega))) (Nat.le_of_ble_eq_true rfl) (fun ν1 hr => ?_)
          obtain ⟨g1, g2⟩ := hr
          refine J_lload (i := 5) qX6_writesNumber_72 rfl ?_
          refine J_pushL qX6_writesNumber_74 ?_
          refine J_ldiv qX6_writesNumber_77 (by first | assumption | decide) ?_
          rw [pk_lDiv (by omega) (by omega) (by omega), show 10 ^ (i + 1) / 10 = 10 ^ i by rw [Nat.pow_succ, Nat.mul_div_cancel _ (by omega)]]
          refine J_lst5 qX6_writesNumber_78 (Nat.le_of_ble_eq_true rfl) rfl ?_
          refine J_goto qX6_writesNumber_80 ?_
          refine ih (by omega) ν1 _ (by rw [List.length_append]; simp; omega) (hF.tr g2) g1 ?_
          rw [hE, List.append_assoc]
          rfl
    have up : ∀ N j, 9 - j = N → j ≤ 9 → (j = 0 ∨ 10 ≤ n / 10 ^ (j - 1)) → J mX6_writesNumber (d+1) (0, 0) s0 (Kv G (fun μ' => AbM μ' (o ++ nmB v) ∧ Fr μ μ' PwM)) (0, 0) 26 [.ref 198, .long v.toInt64, .null, .long (lN n), .null, .long (lN (10 ^ j)), .null] [] (G, ν) := by
      intro N
      induction N with
      | zero =>
        intro j hN hj h2
        have ej : j = 9 := by omega
        subst ej
        have hne : ¬ lN (10 ^ 9) = 0 := by decide
        refine J_lload_n (i := 3) qX6_writesNumber_26 rfl rfl ?_
        refine J_lload (i := 5) qX6_writesNumber_27 rfl ?_
        refine J_ldiv qX6_writesNumber_29 (by first | assumption | decide) ?_
        rw [pk_lDiv (by omega) (by decide) (by decide)]
        refine J_pushL qX6_writesNumber_30 ?_
        have hsm : n / 10 ^ 9 < 10 := by
          have : 10 ^ 9 = 1000000000 := rfl
          rw [this]
          omega
        refine J_lif_lt qX6_writesNumber_33 qX6_writesNumber_34 (fun _ => ?_) (fun z => absurd ((pk_lLT (by omega) (by omega)).mpr hsm) z)
        refine down 9 (by omega) ν o1 (by omega) hF hA ?_
        rw [hE, dgL_top 9 10 n (by omega) hsm h2]
      | succ N ih =>
        intro j hN hj h2
        have p9 := pow_le9 hj
        have hne : ¬ lN (10 ^ j) = 0 := fun z => by
          have := (pk_lEQ (a := 10 ^ j) (b := 0) (by omega) (by omega)).mp z
          omega
        have dl := Nat.div_le_self n (10 ^ j)
        refine J_lload_n (i := 3) qX6_writesNumber_26 rfl rfl ?_
        refine J_lload (i := 5) qX6_writesNumber_27 rfl ?_
        refine J_ldiv qX6_writesNumber_29 (by first | assumption | decide) ?_
        rw [pk_lDiv (by omega) (by omega) (by omega)]
        refine J_pushL qX6_writesNumber_30 ?_
        refine J_lif_lt qX6_writesNumber_33 qX6_writesNumber_34 (fun c => ?_) (fun c => ?_)
        · have hsm := (pk_lLT (a := n / 10 ^ j) (b := 10) (by omega) (by omega)).mp c
          refine down j hj ν o1 (by omega) hF hA ?_
          rw [hE, dgL_top j 10 n (by omega) hsm h2]
        · have hbg : 10 ≤ n / 10 ^ j := Nat.le_of_not_lt (fun z => c ((pk_lLT (by omega) (by omega)).mpr z))
          refine J_lload (i := 5) qX6_writesNumber_37 rfl ?_
          refine J_pushL qX6_writesNumber_39 ?_
          refine J_lmul qX6_writesNumber_42 ?_
          rw [lN_mul, ← Nat.pow_succ]
          refine J_lst5 qX6_writesNumber_43 (Nat.le_of_ble_eq_true rfl) rfl ?_
          refine J_goto qX6_writesNumber_45 ?_
          exact ih (j + 1) (by omega) (by omega) (Or.inr (by rw [show j + 1 - 1 = j by omega]; exact hbg))
    refine J_pushL qX6_writesNumber_23 ?_
    refine J_lst5 qX6_writesNumber_24 (Nat.le_of_ble_eq_true rfl) rfl ?_
    exact up _ 0 rfl (by omega) (Or.inl rfl)
  refine Sv_of (ls := [.ref 198, .long v.toInt64, .null, .null, .null, .null, .null]) (by decide +kernel) (Nat.le_of_ble_eq_true rfl) rfl ?_
  refine J_aload_n (i := 0) qX6_writesNumber_0 rfl rfl ?_
  refine J_pushI qX6_writesNumber_1 ?_
  refine J_vv1 qX6_writesNumber_3 kX6_210 (by assumption) (m_writes (d := d) hM h (by omega) (nI_byte (n := 32) (by omega))) (Nat.le_of_ble_eq_true rfl) (fun ν hr => ?_)
  obtain ⟨g1, g2⟩ := hr
  obtain ⟨la1, la2⟩ := l_abs v
  refine J_lload_n (i := 1) qX6_writesNumber_6 rfl rfl ?_
  refine J_lst3 qX6_writesNumber_7 (Nat.le_of_ble_eq_true rfl) rfl ?_
  refine J_lload_n (i := 1) qX6_writesNumber_8 rfl rfl ?_
  refine J_pushL qX6_writesNumber_9 ?_
  refine J_lif_ge qX6_writesNumber_10 qX6_writesNumber_11 (fun c => ?_) (fun c => ?_)
  · have c' : ¬ v < 0 := by
      rw [Int64.le_iff_toInt_le, Int32.toInt_toInt64, show (lN 0).toInt = 0 from rfl] at c
      rw [i32_lt0]
      omega
    have t := tail ν (o ++ [nI 32]) (by simp; omega) g2 g1 (by unfold nmB; rw [if_neg c']; simp)
    rw [← la2 c'] at t
    exact t
  · have c' : v < 0 := by
      rw [Int64.le_iff_toInt_le, Int32.toInt_toInt64, show (lN 0).toInt = 0 from rfl] at c
      rw [i32_lt0]
      omega
    refine J_aload_n (i := 0) qX6_writesNumber_14 rfl rfl ?_
    refine J_pushI qX6_writesNumber_15 ?_
    refine J_vv1 qX6_writesNumber_17 kX6_210 (by assumption) (m_writes (d := d) hM g1 (by simp; omega) (nI_byte (n := 45) (by omega))) (Nat.le_of_ble_eq_true rfl) (fun ν1 hr => ?_)
    obtain ⟨g3, g4⟩ := hr
    refine J_lload_n (i := 1) qX6_writesNumber_20 rfl rfl ?_
    refine J_lneg qX6_writesNumber_21 ?_
    rw [la1 c']
    refine J_lst3 qX6_writesNumber_22 (Nat.le_of_ble_eq_true rfl) rfl ?_
    exact tail ν1 (o ++ [nI 32] ++ [nI 45]) (by simp; omega) (g2.tr g4) g3 (by unfold nmB; rw [if_pos c']; simp)
theorem m_write (hM : LayM G) (h : RelM μ s) (r : Int32) : Si mX6_write (d+2) [.ref 198, .int r] G μ (fun q μ' => q = (writeS s r).1 ∧ RelM μ' (writeS s r).2 ∧ FrM μ μ') := by
  have hM0 := hM
  obtain ⟨mO, ⟨f2, f3, f4, f5, f6, f7, f15, f17, f19, -⟩, ⟨b199, b200, b201, b202, b203, b204, b205, b206, b207, -⟩⟩ := hM
  have hc0 := h.2.2.1.1
  have h12 := hc0.2.1
  have er0 := h.2.2.1.2.2.2.2.1
  have r10 := h.2.2.1.2.2.2.2.2
  refine Si_of (ls := [.ref 198, .int r, .null]) (by decide +kernel) (Nat.le_of_ble_eq_true rfl) rfl ?_
  refine J_iload_n (i := 1) qX6_write_0 rfl rfl ?_
  refine J_si1 qX6_write_1 kX6_94 (m_isText (d := d) r) (Nat.le_of_ble_eq_true rfl) (fun v1 μ' hr => ?_)
  obtain ⟨rfl, rfl⟩ := hr
  cases hb : hasB 4 r with
  | false =>
    first | refine J_if_ne qX6_write_4 (fun c => absurd b2i_f0 c) (fun _ => ?_) | refine J_if_ne qX6_write_4 (fun _ => ?_) (fun c => absurd c b2i_t0)
    refine J_pushI qX6_write_7 ?_
    refine Ji_ret qX6_write_8 ?_
    rw [show writeS s r = (-1, s) from if_pos hb]
    exact ⟨rfl, h, FrM.rf⟩
  | true =>
    first | refine J_if_ne qX6_write_4 (fun c => absurd b2i_f0 c) (fun _ => ?_) | refine J_if_ne qX6_write_4 (fun _ => ?_) (fun c => absurd c b2i_t0)
    have eW : writeS s r = if 120 < (outB (sP s).1 (sR s)).length then (-6, s) else (nI (outB (sP s).1 (sR s)).length, uTxt s (ix r) (some (outB (sP s).1 (sR s)))) := if_neg (by rw [hb]; decide)
    obtain ⟨j, hj, rfl⟩ := hasB_of (by omega) hb
    rw [ix_n (by omega)] at eW
    have ol := outB_len (sP s).1 (sR s) h12
    have hcf : ∀ {ν : Mm}, Fr μ ν PwM → MC ν 206 0 (sP s).1 := fun hF => hc0.ag (fun k _ _ => hF.1 _ _ (fun z => by unfold PwM at z; omega))
    have fin : ∀ (ν : Mm) (v2 : Value), Fr μ ν PwM → AbM ν (outB (sP s).1 (sR s)) → J mX6_write (d+2) (0, 0) s0 (Ki G (fun q μ' => q = (writeS s (nI j)).1 ∧ RelM μ' (writeS s (nI j)).2 ∧ FrM μ μ')) (0, 0) 180 [.ref 198, .int (nI j), v2] [] (G, ν) := fun ν v2 hF hA => by
      generalize outB (sP s).1 (sR s) = o at hA ol eW
      have e18 := hA.1
      refine J_aload_n (i := 0) qX6_write_180 rfl rfl ?_
      refine J_getIe qX6_write_181 fX6_207 (by assumption) (by (repeat first | with_reducible exact wI_e _ _ _ _ | (with_reducible apply rd_s; focus omega) | (with_reducible apply rd_c; focus omega) | (with_reducible apply rd_k; focus omega) | with_reducible exact rd_e (by omega)); first | done | assumption | rfl) ?_
      refine J_pushI qX6_write_184 ?_
      first | with_reducible refine J_icmp_le_n qX6_write_186 (by omega) (by omega) (fun c1 => ?_) (fun c1 => ?_) | refine J_icmp_le qX6_write_186 (fun c1 => ?_) (fun c1 => ?_)
      · rw [if_neg (by omega)] at eW
        refine J_aload_n (i := 0) qX6_write_192 rfl rfl ?_
        refine J_getR qX6_write_193 fX6_22 (by assumption) (by assumption) ?_
        refine J_iload_n (i := 1) qX6_write_196 rfl rfl ?_
        refine J_aload_n (i := 0) qX6_write_197 rfl rfl ?_
        refine J_getIe qX6_write_198 fX6_207 (by assumption) (by (repeat first | with_reducible exact wI_e _ _ _ _ | (with_reducible apply rd_s; focus omega) | (with_reducible apply rd_c; focus omega) | (with_reducible apply rd_k; focus omega) | with_reducible exact rd_e (by omega)); first | done | assumption | rfl) ?_
        refine J_iast qX6_write_201 (by assumption) rfl (by omega) ?_
        refine J_pushI qX6_write_202 ?_
        refine J_ist2 qX6_write_203 (Nat.le_of_ble_eq_true rfl) rfl ?_
        have H : ∀ i, i ≤ 120 → ∀ ν1 : Mm, Fr μ ν1 (PmT j) → AbM ν1 o → ν1.1 203 j = nI o.length → (∀ q, q < i → q < o.length → ν1.1 204 (120 * j + q) = o.getD q 0) → J mX6_write (d+2) (0, 0) s0 (Ki G (fun q μ' => q = (writeS s (nI j)).1 ∧ RelM μ' (writeS s (nI j)).2 ∧ FrM μ μ')) (0, 0) 204 [.ref 198, .int (nI j), .int (nI i)] [] (G, ν1) := by
          refine ind_up (fun i hi ih ν1 hF1 hA1 h203 hinv => ?_)
          have e18 := hA1.1
          refine J_iload_n (i := 2) qX6_write_204 rfl rfl ?_
          refine J_pushI qX6_write_205 ?_
          first | with_reducible refine J_icmp_ge_n qX6_write_207 (by omega) (by omega) (fun c2 => ?_) (fun c2 => ?_) | refine J_icmp_ge qX6_write_207 (fun c2 => ?_) (fun c2 => ?_)
          · refine J_aload_n (i := 0) qX6_write_246 rfl rfl ?_
            refine J_getIe qX6_write_247 fX6_207 (by assumption) (by (repeat first | with_reducible exact wI_e _ _ _ _ | (with_reducible apply rd_s; focus omega) | (with_reducible apply rd_c; focus omega) | (with_reducible apply rd_k; focus omega) | with_reducible exact rd_e (by omega)); first | done | assumption | rfl) ?_
            refine Ji_ret qX6_write_250 ?_
            rw [eW]
            exact ⟨rfl, h.txt hF1 hj ⟨h203, by omega, fun q hq => hinv q (by omega) hq⟩⟩
          · have st : ∀ z : Int32, byB z → (i < o.length → z = o.getD i 0) → J mX6_write (d+2) (0, 0) s0 (Ki G (fun q μ' => q = (writeS s (nI j)).1 ∧ RelM μ' (writeS s (nI j)).2 ∧ FrM μ μ')) (0, 0) 239 [.ref 198, .int (nI j), .int (nI i)] [.int z, .int (nI (120 * j + i)), .ref 204] (G, ν1) := fun z hz hz2 => by
              refine J_bast qX6_write_239 b204 rfl (by omega) ?_
              rw [show z.toInt8.toInt32 = z from hz]
              refine J_inc2 qX6_write_240 (Nat.le_of_ble_eq_true rfl) (by first | with_reducible exact nI_inc _ | rfl) rfl ?_
              refine J_goto qX6_write_243 ?_
              refine ih c2 _ (hF1.w (Or.inr (Or.inl ⟨rfl, by omega, by omega⟩))) (hA1.fr (wI_n (by omega)) (fun k => wI_n (by omega))) (by rw [wI_n (by omega)]; exact h203) (fun q hq1 hq2 => ?_)
              by_cases e : q = i
              · subst e
                rw [wI_e]; exact hz2 hq2
              · rw [wI_n (by omega)]; exact hinv q (by omega) hq2
            refine J_aload_n (i := 0) qX6_write_210 rfl rfl ?_
            refine J_getR qX6_write_211 fX6_25 (by assumption) (by assumption) ?_
            refine J_pushI qX6_write_214 ?_
            refine J_iload_n (i := 1) qX6_write_216 rfl rfl ?_
            first | with_reducible refine J_imul_n qX6_write_217 ?_ | refine J_imul qX6_write_217 ?_
            refine J_iload_n (i := 2) qX6_write_218 rfl rfl ?_
            first | with_reducible refine J_iadd_n qX6_write_219 ?_ | refine J_iadd qX6_write_219 ?_
            refine J_iload_n (i := 2) qX6_write_220 rfl rfl ?_
            refine J_aload_n (i := 0) qX6_write_221 rfl rfl ?_
            refine J_getIe qX6_write_222 fX6_207 (by assumption) (by (repeat first | with_reducible exact wI_e _ _ _ _ | (with_reducible apply rd_s; focus omega) | (with_reducible apply rd_c; focus omega) | (with_reducible apply rd_k; focus omega) | with_reducible exact rd_e (by omega)); first | done | assumption | rfl) ?_
            first | with_reducible refine J_icmp_ge_n qX6_write_225 (by omega) (by omega) (fun c3 => ?_) (fun c3 => ?_) | refine J_icmp_ge qX6_write_225 (fun c3 => ?_) (fun c3 => ?_)
            · refine J_pushI qX6_write_237 ?_
              exact st _ (nI_byte (by omega)) (fun z => absurd z (by omega))
            · refine J_aload_n (i := 0) qX6_write_228 rfl rfl ?_
              refine J_getR qX6_write_229 fX6_35 (by assumption) (by assumption) ?_
              refine J_iload_n (i := 2) qX6_write_232 rfl rfl ?_
              refine J_bald qX6_write_233 b207 rfl (by omega) ?_
              rw [hA1.2.1 i c3 (by omega)]
              refine J_goto qX6_write_234 ?_
              refine st _ (hA1.2.2 _ ?_) (fun _ => rfl)
              rw [List.getD_eq_getElem?_getD, List.getElem?_eq_getElem c3]
              exact List.getElem_mem c3
        refine H 0 (Nat.zero_le _) _ (Fr.w (hF.mono (fun c q z => by unfold PwM at z; unfold PmT; omega)) (Or.inl ⟨rfl, rfl⟩)) (hA.fr (wI_n (by omega)) (fun k => wI_n (by omega))) (wI_e _ _ _ _) (fun q hq => absurd hq (Nat.not_lt_zero q))
      · rw [eW, if_pos c1]
        refine J_pushI qX6_write_189 ?_
        refine Ji_ret qX6_write_191 ?_
        exact ⟨rfl, h.free ⟨fun c q z => hF.1 _ _ (fun y => z (by unfold PwM at y; unfold Fre; omega)), fun c q _ => by rw [hF.2]⟩⟩
    have H : ∀ k, k ≤ (sP s).1.length → ∀ ν : Mm, Fr μ ν PwM → AbM ν (outA (sP s).1 k) → J mX6_write (d+2) (0, 0) s0 (Ki G (fun q μ' => q = (writeS s (nI j)).1 ∧ RelM μ' (writeS s (nI j)).2 ∧ FrM μ μ')) (0, 0) 16 [.ref 198, .int (nI j), .int (nI k)] [] (G, ν) := by
      refine ind_up (fun k hk ih ν hF hA => ?_)
      have hc := hcf hF
      have e0 := hc.n0
      have oa := outA_len (sP s).1 k
      refine J_iload_n (i := 2) qX6_write_16 rfl rfl ?_
      refine J_aload_n (i := 0) qX6_write_17 rfl rfl ?_
      refine J_getR qX6_write_18 fX6_32 (by assumption) (by assumption) ?_
      refine J_pushI qX6_write_21 ?_
      refine J_ialde qX6_write_22 (by assumption) rfl (by omega) (by (repeat first | with_reducible exact wI_e _ _ _ _ | (with_reducible apply rd_s; focus omega) | (with_reducible apply rd_c; focus omega) | (with_reducible apply rd_k; focus omega) | with_reducible exact rd_e (by omega)); first | done | assumption | rfl) ?_
      first | with_reducible refine J_icmp_ge_n qX6_write_23 (by omega) (by omega) (fun c1 => ?_) (fun c1 => ?_) | refine J_icmp_ge qX6_write_23 (fun c1 => ?_) (fun c1 => ?_)
      · have ek : k = (sP s).1.length := by omega
        subst ek
        have er : ν.1 198 16 = nI (sR s) := (hF.1 _ _ (fun z => by unfold PwM at z; omega)).trans er0
        refine J_aload_n (i := 0) qX6_write_146 rfl rfl ?_
        refine J_getIe qX6_write_147 fX6_201 (by assumption) (by (repeat first | with_reducible exact wI_e _ _ _ _ | (with_reducible apply rd_s; focus omega) | (with_reducible apply rd_c; focus omega) | (with_reducible apply rd_k; focus omega) | with_reducible exact rd_e (by omega)); first | done | assumption | rfl) ?_
        refine J_if_eq_n qX6_write_150 (by omega) (fun c2 => ?_) (fun c2 => ?_)
        · refine fin ν _ hF ?_
          unfold outB rstB
          rw [if_pos c2, List.append_nil]
          exact hA
        · refine J_aload_n (i := 0) qX6_write_153 rfl rfl ?_
          refine J_pushI qX6_write_154 ?_
          refine J_pushI qX6_write_156 ?_
          refine J_pushI qX6_write_158 ?_
          refine J_pushI qX6_write_160 ?_
          refine J_vv4 qX6_write_162 kX6_213 (by assumption) (m_writesWord (d := d) hM0 hA (by omega) (a := 114) (b := 101) (c := 115) (e := 116) (by omega) (by omega) (by omega) (by omega)) (Nat.le_of_ble_eq_true rfl) (fun ν1 hr => ?_)
          obtain ⟨g1, g2⟩ := hr
          have er1 : ν1.1 198 16 = nI (sR s) := (g2.1 _ _ (fun z => by unfold PwM at z; omega)).trans er
          refine J_aload_n (i := 0) qX6_write_165 rfl rfl ?_
          refine J_aload_n (i := 0) qX6_write_166 rfl rfl ?_
          refine J_getIe qX6_write_167 fX6_201 (by assumption) (by (repeat first | with_reducible exact wI_e _ _ _ _ | (with_reducible apply rd_s; focus omega) | (with_reducible apply rd_c; focus omega) | (with_reducible apply rd_k; focus omega) | with_reducible exact rd_e (by omega)); first | done | assumption | rfl) ?_
          refine J_i2l qX6_write_170 ?_
          refine J_vv1 qX6_write_171 kX6_217 (by assumption) (m_writesNumber (d := d) hM0 g1 (by simp; omega) (nI (sR s))) (Nat.le_of_ble_eq_true rfl) (fun ν2 hr => ?_)
          obtain ⟨g3, g4⟩ := hr
          have nl := nmB_len (nI (sR s))
          refine J_aload_n (i := 0) qX6_write_174 rfl rfl ?_
          refine J_pushI qX6_write_175 ?_
          refine J_vv1 qX6_write_177 kX6_210 (by assumption) (m_writes (d := d + 1) hM0 g3 (by simp; omega) (nI_byte (n := 59) (by omega))) (Nat.le_of_ble_eq_true rfl) (fun ν3 hr => ?_)
          obtain ⟨g5, g6⟩ := hr
          refine fin ν3 _ (((hF.tr g2).tr g4).tr g6) ?_
          unfold outB rstB
          rw [if_neg c2]
          have ew : wordS 0 = [nI 114, nI 101, nI 115, nI 116] := by decide
          rw [ew]
          simpa using g5
      · have e1 := hc.lo c1
        have e2 := hc.hi c1
        have n0 := nmB_len (cg (sP s).1 k).1
        have n1 := nmB_len (cg (sP s).1 k).2.1
        have n2 := nmB_len (nI (cg (sP s).1 k).2.2.1)
        have n3 := nmB_len (nI (cg (sP s).1 k).2.2.2)
        have rest : ∀ (ν1 : Mm) (o1 : List Int32), o1.length < 2000 → Fr μ ν1 PwM → AbM ν1 o1 → o1 ++ nmB (cg (sP s).1 k).2.1 ++ nmB (nI (cg (sP s).1 k).2.2.1) ++ nmB (nI (cg (sP s).1 k).2.2.2) ++ [nI 59] = outA (sP s).1 (k + 1) → J mX6_write (d+2) (0, 0) s0 (Ki G (fun q μ' => q = (writeS s (nI j)).1 ∧ RelM μ' (writeS s (nI j)).2 ∧ FrM μ μ')) (0, 0) 92 [.ref 198, .int (nI j), .int (nI k)] [] (G, ν1) := fun ν1 o1 hl1 hF1 hA1 hE => by
          have l1 := (hcf hF1).hi c1
          refine J_aload_n (i := 0) qX6_write_92 rfl rfl ?_
          refine J_aload_n (i := 0) qX6_write_93 rfl rfl ?_
          refine J_getR qX6_write_94 fX6_32 (by assumption) (by assumption) ?_
          refine J_pushI qX6_write_97 ?_
          refine J_iload_n (i := 2) qX6_write_99 rfl rfl ?_
          first | with_reducible refine J_iadd_n qX6_write_100 ?_ | refine J_iadd qX6_write_100 ?_
          refine J_ialde qX6_write_101 (by assumption) rfl (by omega) (by (repeat first | with_reducible exact wI_e _ _ _ _ | (with_reducible apply rd_s; focus omega) | (with_reducible apply rd_c; focus omega) | (with_reducible apply rd_k; focus omega) | with_reducible exact rd_e (by omega)); first | done | assumption | rfl) ?_
          refine J_i2l qX6_write_102 ?_
          refine J_vv1 qX6_write_103 kX6_217 (by assumption) (m_writesNumber (d := d) hM0 hA1 (by omega) (cg (sP s).1 k).2.1) (Nat.le_of_ble_eq_true rfl) (fun ν2 hr => ?_)
          obtain ⟨g1, g2⟩ := hr
          have hF2 := hF1.tr g2
          have l2 := (hcf hF2).am c1
          refine J_aload_n (i := 0) qX6_write_106 rfl rfl ?_
          refine J_aload_n (i := 0) qX6_write_107 rfl rfl ?_
          refine J_getR qX6_write_108 fX6_32 (by assumption) (by assumption) ?_
          refine J_pushI qX6_write_111 ?_
          refine J_iload_n (i := 2) qX6_write_113 rfl rfl ?_
          first | with_reducible refine J_iadd_n qX6_write_114 ?_ | refine J_iadd qX6_write_114 ?_
          refine J_ialde qX6_write_115 (by assumption) rfl (by omega) (by (repeat first | with_reducible exact wI_e _ _ _ _ | (with_reducible apply rd_s; focus omega) | (with_reducible apply rd_c; focus omega) | (with_reducible apply rd_k; focus omega) | with_reducible exact rd_e (by omega)); first | done | assumption | rfl) ?_
          refine J_i2l qX6_write_116 ?_
          refine J_vv1 qX6_write_117 kX6_217 (by assumption) (m_writesNumber (d := d) hM0 g1 (by rw [List.length_append]; omega) (nI (cg (sP s).1 k).2.2.1)) (Nat.le_of_ble_eq_true rfl) (fun ν3 hr => ?_)
          obtain ⟨g3, g4⟩ := hr
          have hF3 := hF2.tr g4
          have l3 := (hcf hF3).wt c1
          refine J_aload_n (i := 0) qX6_write_120 rfl rfl ?_
          refine J_aload_n (i := 0) qX6_write_121 rfl rfl ?_
          refine J_getR qX6_write_122 fX6_32 (by assumption) (by assumption) ?_
          refine J_pushI qX6_write_125 ?_
          refine J_iload_n (i := 2) qX6_write_127 rfl rfl ?_
          first | with_reducible refine J_iadd_n qX6_write_128 ?_ | refine J_iadd qX6_write_128 ?_
          refine J_ialde qX6_write_129 (by assumption) rfl (by omega) (by (repeat first | with_reducible exact wI_e _ _ _ _ | (with_reducible apply rd_s; focus omega) | (with_reducible apply rd_c; focus omega) | (with_reducible apply rd_k; focus omega) | with_reducible exact rd_e (by omega)); first | done | assumption | rfl) ?_
          refine J_i2l qX6_write_130 ?_
          refine J_vv1 qX6_write_131 kX6_217 (by assumption) (m_writesNumber (d := d) hM0 g3 (by rw [List.length_append, List.length_append]; omega) (nI (cg (sP s).1 k).2.2.2)) (Nat.le_of_ble_eq_true rfl) (fun ν4 hr => ?_)
          obtain ⟨g5, g6⟩ := hr
          refine J_aload_n (i := 0) qX6_write_134 rfl rfl ?_
          refine J_pushI qX6_write_135 ?_
          refine J_vv1 qX6_write_137 kX6_210 (by assumption) (m_writes (d := d + 1) hM0 g5 (by rw [List.length_append, List.length_append, List.length_append]; omega) (nI_byte (n := 59) (by omega))) (Nat.le_of_ble_eq_true rfl) (fun ν5 hr => ?_)
          obtain ⟨g7, g8⟩ := hr
          refine J_inc2 qX6_write_140 (Nat.le_of_ble_eq_true rfl) (by first | with_reducible exact nI_inc _ | rfl) rfl ?_
          refine J_goto qX6_write_143 ?_
          exact ih c1 ν5 ((hF3.tr g6).tr g8) (by rw [← hE]; exact g7)
        have ew3 : wordS 3 = [nI 99, nI 97, nI 115, nI 101] := by decide
        have ew1 : wordS 1 = [nI 114, nI 97, nI 110, nI 103] ++ [nI 101] := by decide
        refine J_aload_n (i := 0) qX6_write_26 rfl rfl ?_
        refine J_getR qX6_write_27 fX6_32 (by assumption) (by assumption) ?_
        refine J_pushI qX6_write_30 ?_
        refine J_iload_n (i := 2) qX6_write_31 rfl rfl ?_
        first | with_reducible refine J_iadd_n qX6_write_32 ?_ | refine J_iadd qX6_write_32 ?_
        refine J_ialde qX6_write_33 (by assumption) rfl (by omega) (by (repeat first | with_reducible exact wI_e _ _ _ _ | (with_reducible apply rd_s; focus omega) | (with_reducible apply rd_c; focus omega) | (with_reducible apply rd_k; focus omega) | with_reducible exact rd_e (by omega)); first | done | assumption | rfl) ?_
        refine J_aload_n (i := 0) qX6_write_34 rfl rfl ?_
        refine J_getR qX6_write_35 fX6_32 (by assumption) (by assumption) ?_
        refine J_pushI qX6_write_38 ?_
        refine J_iload_n (i := 2) qX6_write_40 rfl rfl ?_
        first | with_reducible refine J_iadd_n qX6_write_41 ?_ | refine J_iadd qX6_write_41 ?_
        refine J_ialde qX6_write_42 (by assumption) rfl (by omega) (by (repeat first | with_reducible exact wI_e _ _ _ _ | (with_reducible apply rd_s; focus omega) | (with_reducible apply rd_c; focus omega) | (with_reducible apply rd_k; focus omega) | with_reducible exact rd_e (by omega)); first | done | assumption | rfl) ?_
        refine J_icmp_ne qX6_write_43 (fun c2 => ?_) (fun c2 => ?_)
        · refine J_aload_n (i := 0) qX6_write_61 rfl rfl ?_
          refine J_pushI qX6_write_62 ?_
          refine J_pushI qX6_write_64 ?_
          refine J_pushI qX6_write_66 ?_
          refine J_pushI qX6_write_68 ?_
          refine J_vv4 qX6_write_70 kX6_213 (by assumption) (m_writesWord (d := d) hM0 hA (by omega) (a := 114) (b := 97) (c := 110) (e := 103) (by omega) (by omega) (by omega) (by omega)) (Nat.le_of_ble_eq_true rfl) (fun ν1 hr => ?_)
          obtain ⟨g1, g2⟩ := hr
          refine J_aload_n (i := 0) qX6_write_73 rfl rfl ?_
          refine J_pushI qX6_write_74 ?_
          refine J_vv1 qX6_write_76 kX6_210 (by assumption) (m_writes (d := d + 1) hM0 g1 (by simp; omega) (nI_byte (n := 101) (by omega))) (Nat.le_of_ble_eq_true rfl) (fun ν2 hr => ?_)
          obtain ⟨g3, g4⟩ := hr
          have hF2 := (hF.tr g2).tr g4
          have l1 := (hcf hF2).lo c1
          refine J_aload_n (i := 0) qX6_write_79 rfl rfl ?_
          refine J_aload_n (i := 0) qX6_write_80 rfl rfl ?_
          refine J_getR qX6_write_81 fX6_32 (by assumption) (by assumption) ?_
          refine J_pushI qX6_write_84 ?_
          refine J_iload_n (i := 2) qX6_write_85 rfl rfl ?_
          first | with_reducible refine J_iadd_n qX6_write_86 ?_ | refine J_iadd qX6_write_86 ?_
          refine J_ialde qX6_write_87 (by assumption) rfl (by omega) (by (repeat first | with_reducible exact wI_e _ _ _ _ | (with_reducible apply rd_s; focus omega) | (with_reducible apply rd_c; focus omega) | (with_reducible apply rd_k; focus omega) | with_reducible exact rd_e (by omega)); first | done | assumption | rfl) ?_
          refine J_i2l qX6_write_88 ?_
          refine J_vv1 qX6_write_89 kX6_217 (by assumption) (m_writesNumber (d := d) hM0 g3 (by simp; omega) (cg (sP s).1 k).1) (Nat.le_of_ble_eq_true rfl) (fun ν3 hr => ?_)
          obtain ⟨g5, g6⟩ := hr
          refine rest ν3 _ (by simp; omega) (hF2.tr g6) g5 ?_
          rw [outA_succ]
          unfold casB
          rw [if_neg c2, ew1]
          simp only [List.append_assoc]
        · refine J_aload_n (i := 0) qX6_write_46 rfl rfl ?_
          refine J_pushI qX6_write_47 ?_
          refine J_pushI qX6_write_49 ?_
          refine J_pushI qX6_write_51 ?_
          refine J_pushI qX6_write_53 ?_
          refine J_vv4 qX6_write_55 kX6_213 (by assumption) (m_writesWord (d := d) hM0 hA (by omega) (a := 99) (b := 97) (c := 115) (e := 101) (by omega) (by omega) (by omega) (by omega)) (Nat.le_of_ble_eq_true rfl) (fun ν1 hr => ?_)
          obtain ⟨g1, g2⟩ := hr
          refine J_goto qX6_write_58 ?_
          refine rest ν1 _ (by simp; omega) (hF.tr g2) g1 ?_
          rw [outA_succ]
          unfold casB
          rw [if_pos c2, ew3, c2]
          simp only [List.append_assoc]
    refine J_aload_n (i := 0) qX6_write_9 rfl rfl ?_
    refine J_pushI qX6_write_10 ?_
    refine J_putI qX6_write_11 fX6_207p (by assumption) rfl rfl ?_
    refine J_pushI qX6_write_14 ?_
    refine J_ist2 qX6_write_15 (Nat.le_of_ble_eq_true rfl) rfl ?_
    refine H 0 (Nat.zero_le _) _ (Fr.w Fr.rf (Or.inl ⟨rfl, rfl⟩)) ⟨?_, fun k hk => absurd hk (Nat.not_lt_zero k), fun x hx => absurd hx List.not_mem_nil⟩
    rw [wI_e]; rfl
end MM
