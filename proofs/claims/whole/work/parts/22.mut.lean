/-! PROGRAM: CASES that come and go -/
theorem rd_s {μ : Mm} {a a' k k' : Nat} {v x : Int32} (h : a ≠ a') (he : μ.1 a k = x) : (wI μ a' k' v).1 a k = x := (wI_n (fun q => h q.1)).trans he
theorem rd_k {μ : Mm} {a a' k k' : Nat} {v x : Int32} (h : k ≠ k') (he : μ.1 a k = x) : (wI μ a' k' v).1 a k = x := (wI_n (fun q => h q.2)).trans he
theorem rd_e {μ : Mm} {a k k' : Nat} {v : Int32} (h : k = k') : (wI μ a k' v).1 a k = v := by rw [h]; exact wI_e _ _ _ _
theorem rdl_s {μ : Mm} {a a' k k' : Nat} {v x : Int64} (h : a ≠ a') (he : μ.2 a k = x) : (wL μ a' k' v).2 a k = x := (wL_n (fun q => h q.1)).trans he
theorem rdl_k {μ : Mm} {a a' k k' : Nat} {v x : Int64} (h : k ≠ k') (he : μ.2 a k = x) : (wL μ a' k' v).2 a k = x := (wL_n (fun q => h q.2)).trans he
theorem rdl_i {μ : Mm} {a a' k k' : Nat} {v : Int32} {x : Int64} (he : μ.2 a k = x) : (wI μ a' k' v).2 a k = x := he
/-- nothing but P has changed -/
def Fr (μ μ' : Mm) (P : Nat → Nat → Prop) : Prop := (∀ c k, ¬ P c k → μ'.1 c k = μ.1 c k) ∧ μ'.2 = μ.2
theorem Fr.rf {μ : Mm} {P : Nat → Nat → Prop} : Fr μ μ P := ⟨fun _ _ _ => rfl, rfl⟩
theorem Fr.tr {μ μ1 μ2 : Mm} {P : Nat → Nat → Prop} (h1 : Fr μ μ1 P) (h2 : Fr μ1 μ2 P) : Fr μ μ2 P := ⟨fun c k h => (h2.1 c k h).trans (h1.1 c k h), h2.2.trans h1.2⟩
theorem Fr.mono {μ μ1 : Mm} {P P' : Nat → Nat → Prop} (h1 : Fr μ μ1 P) (h : ∀ c k, P c k → P' c k) : Fr μ μ1 P' := ⟨fun c k q => h1.1 c k (fun z => q (h c k z)), h1.2⟩
theorem Fr.w {μ μ1 : Mm} {P : Nat → Nat → Prop} {a k : Nat} {v : Int32} (h1 : Fr μ μ1 P) (h : P a k) : Fr μ (wI μ1 a k v) P := ⟨fun c j q => (wI_n (fun z => q (by rw [z.1, z.2]; exact h))).trans (h1.1 c j q), h1.2⟩
def Pcs (b : Nat) (c k : Nat) : Prop := (b + 1 ≤ c ∧ c ≤ b + 4) ∨ (c = b ∧ k = 4)
def Pdd (b : Nat) (c k : Nat) : Prop := (b + 5 ≤ c ∧ c ≤ b + 10) ∨ (c = b ∧ k = 12)
theorem AbC.j {μ : Mm} {b : Nat} {cs : List Cs} (h : AbC μ b cs) : ∀ j, j < 4 → ∀ k, k < cs.length → μ.1 (b + 1 + j) k = valF cs k j := fun j hj k hk => by
  obtain ⟨e1, e2, e3, e4⟩ := h.2.2 k hk
  match j, hj with
  | 0, _ => exact e1
  | 1, _ => exact e2
  | 2, _ => exact e3
  | 3, _ => exact e4
theorem AbC.of {μ : Mm} {b : Nat} {cs : List Cs} (h1 : μ.1 b 4 = nI cs.length) (h2 : cs.length ≤ 12) (h : ∀ j, j < 4 → ∀ k, k < cs.length → μ.1 (b + 1 + j) k = valF cs k j) : AbC μ b cs :=
  ⟨h1, h2, fun k hk => ⟨h 0 (by omega) k hk, h 1 (by omega) k hk, h 2 (by omega) k hk, h 3 (by omega) k hk⟩⟩
theorem AbC.fr {μ μ' : Mm} {b : Nat} {cs : List Cs} {P : Nat → Nat → Prop} (h : AbC μ b cs) (hF : Fr μ μ' P) (hP : ∀ c k, P c k → ¬ Pcs b c k) : AbC μ' b cs := by
  refine AbC.of ?_ h.2.1 (fun j hj k hk => ?_)
  · rw [hF.1 _ _ (fun q => hP _ _ q (Or.inr ⟨rfl, rfl⟩))]; exact h.1
  · rw [hF.1 _ _ (fun q => hP _ _ q (Or.inl ⟨by omega, by omega⟩))]; exact h.j j hj k hk
/-- the four rows at one place -/
def w4 (μ : Mm) (b i : Nat) (v : Nat → Int32) : Mm := wI (wI (wI (wI μ (b + 1) i (v 0)) (b + 2) i (v 1)) (b + 3) i (v 2)) (b + 4) i (v 3)
theorem w4_e {μ : Mm} {b i j : Nat} {v : Nat → Int32} (hj : j < 4) : (w4 μ b i v).1 (b + 1 + j) i = v j := by
  unfold w4
  match j, hj with
  | 0, _ => rw [wI_n (by omega), wI_n (by omega), wI_n (by omega), wI_e]
  | 1, _ => rw [wI_n (by omega), wI_n (by omega), wI_e]
  | 2, _ => rw [wI_n (by omega), wI_e]
  | 3, _ => rw [wI_e]
theorem w4_n {μ : Mm} {b i c k : Nat} {v : Nat → Int32} (h : ¬ (b + 1 ≤ c ∧ c ≤ b + 4 ∧ k = i)) : (w4 μ b i v).1 c k = μ.1 c k := by
  unfold w4
  rw [wI_n (by omega), wI_n (by omega), wI_n (by omega), wI_n (by omega)]
theorem w4_fr {μ : Mm} {b i : Nat} {v : Nat → Int32} : Fr μ (w4 μ b i v) (Pcs b) := ⟨fun c k h => w4_n (fun q => h (Or.inl ⟨q.1, q.2.1⟩)), rfl⟩
/-- where a CASE of this LOW belongs -/
def posF (cs : List Cs) (lo : Int32) : Nat → Nat
  | 0 => 0
  | n + 1 => if lo < (cg cs n).1 then posF cs lo n else n + 1
theorem posF_succ (cs : List Cs) (lo : Int32) (n : Nat) : posF cs lo (n + 1) = if lo < (cg cs n).1 then posF cs lo n else n + 1 := rfl
theorem posF_le (cs : List Cs) (lo : Int32) : ∀ n, posF cs lo n ≤ n
  | 0 => Nat.le_refl 0
  | n + 1 => by
    unfold posF
    by_cases h : lo < (cg cs n).1
    · rw [if_pos h]; exact Nat.le_succ_of_le (posF_le cs lo n)
    · rw [if_neg h]; exact Nat.le_refl _
def insA (cs : List Cs) (p : Nat) (c : Cs) : List Cs := cs.take p ++ c :: cs.drop p
def insF (cs : List Cs) (c : Cs) : List Cs := insA cs (posF cs c.1 cs.length) c
theorem insA_len {cs : List Cs} {p : Nat} {c : Cs} (h : p ≤ cs.length) : (insA cs p c).length = cs.length + 1 := by
  unfold insA
  rw [List.length_append, List.length_cons, List.length_take, List.length_drop]
  omega
theorem insF_len (cs : List Cs) (c : Cs) : (insF cs c).length = cs.length + 1 := insA_len (posF_le _ _ _)
theorem cg_insA {cs : List Cs} {p : Nat} {c : Cs} (h : p ≤ cs.length) (k : Nat) : cg (insA cs p c) k = if k < p then cg cs k else if k = p then c else cg cs (k - 1) := by
  unfold cg insA
  rw [List.getD_eq_getElem?_getD, List.getD_eq_getElem?_getD, List.getD_eq_getElem?_getD]
  by_cases h1 : k < p
  · rw [if_pos h1, List.getElem?_append_left (by rw [List.length_take]; omega), List.getElem?_take, if_pos h1]
  · rw [if_neg h1, List.getElem?_append_right (by rw [List.length_take]; omega), List.length_take]
    by_cases h2 : k = p
    · rw [if_pos h2, show k - min p cs.length = 0 by omega]
      rfl
    · rw [if_neg h2, show k - min p cs.length = (k - p - 1) + 1 by omega, List.getElem?_cons_succ, List.getElem?_drop, show p + (k - p - 1) = k - 1 by omega]
theorem cg_era (cs : List Cs) (i k : Nat) : cg (cs.eraseIdx i) k = if k < i then cg cs k else cg cs (k + 1) := by
  unfold cg
  rw [List.getD_eq_getElem?_getD, List.getD_eq_getElem?_getD, List.getD_eq_getElem?_getD, List.getElem?_eraseIdx]
  by_cases h : k < i
  · rw [if_pos h, if_pos h]
  · rw [if_neg h, if_neg h]
theorem valF_if {cs : List Cs} {k j : Nat} {P : Prop} [Decidable P] {a c : Cs} (h : cg cs k = if P then a else c) : valF cs k j = if P then valF [a] 0 j else valF [c] 0 j := by
  by_cases hp : P
  · rw [if_pos hp] at h ⊢
    match j with
    | 0 => exact congrArg (·.1) h
    | 1 => exact congrArg (·.2.1) h
    | 2 => exact congrArg (fun z => nI z.2.2.1) h
    | j + 3 => exact congrArg (fun z => nI z.2.2.2) h
  · rw [if_neg hp] at h ⊢
    match j with
    | 0 => exact congrArg (·.1) h
    | 1 => exact congrArg (·.2.1) h
    | 2 => exact congrArg (fun z => nI z.2.2.1) h
    | j + 3 => exact congrArg (fun z => nI z.2.2.2) h
theorem valF_c {cs cs' : List Cs} {k k' : Nat} (h : cg cs k = cg cs' k') (j : Nat) : valF cs k j = valF cs' k' j := by
  match j with
  | 0 => exact congrArg (·.1) h
  | 1 => exact congrArg (·.2.1) h
  | 2 => exact congrArg (fun z => nI z.2.2.1) h
  | j + 3 => exact congrArg (fun z => nI z.2.2.2) h
section PR
variable {G : Gm} {μ : Mm} {b d : Nat} {cs : List Cs}
theorem p_insert (hP : IsP G b) (hc : AbC μ b cs) (lo hi : Int32) (a w : Nat) (hlt : cs.length < 12) : Si mX1_insert (d) [.ref b, .int lo, .int hi, .int (nI a), .int (nI w)] G μ (fun r μ' => r = nI (posF cs lo cs.length) ∧ AbC μ' b (insF cs (lo, hi, a, w)) ∧ Fr μ μ' (Pcs b)) := by
  obtain ⟨hO, ⟨r0, r1, r2, r3⟩, -, ⟨a1, a2, a3, a4⟩, -⟩ := hP
  have hj := hc.j
  obtain ⟨hn, h12, hk⟩ := hc
  refine Si_of (ls := [.ref b, .int lo, .int hi, .int (nI a), .int (nI w), .null]) (by decide +kernel) (Nat.le_of_ble_eq_true rfl) rfl ?_
  refine J_aload_n (i := 0) qX1_insert_0 rfl rfl ?_
  refine J_getIe qX1_insert_1 fX1_24 (by assumption) (by (repeat first | with_reducible exact wI_e _ _ _ _ | (with_reducible apply rd_s; focus omega) | (with_reducible apply rd_k; focus omega) | with_reducible exact rd_e (by omega)); first | done | assumption | rfl) ?_
  refine J_pushI qX1_insert_4 ?_
  first | with_reducible refine J_icmp_lt_n qX1_insert_6 (by omega) (by omega) (fun c => ?_) (fun c => ?_) | refine J_icmp_lt qX1_insert_6 (fun c => ?_) (fun c => ?_)
  · have fin : ∀ (i : Nat) (ν : Mm), i ≤ cs.length → Fr μ ν (fun c k => b + 1 ≤ c ∧ c ≤ b + 4) → posF cs lo cs.length = i → (∀ j, j < 4 → (∀ k, k < i → ν.1 (b + 1 + j) k = valF cs k j) ∧ ∀ k, i < k → k ≤ cs.length → ν.1 (b + 1 + j) k = valF cs (k - 1) j) → J mX1_insert (d) (0, 0) s0 (Ki G (fun r μ' => r = nI (posF cs lo cs.length) ∧ AbC μ' b (insF cs (lo, hi, a, w)) ∧ Fr μ μ' (Pcs b))) (0, 0) 105 [.ref b, .int lo, .int hi, .int (nI a), .int (nI w), .int (nI i)] [] (G, ν) := by
      intro i ν hi0 hF hpos hinv
      have hν : ν.1 b 4 = nI cs.length := (hF.1 b 4 (by omega)).trans hn
      refine J_aload_n (i := 0) qX1_insert_105 rfl rfl ?_
      refine J_getR qX1_insert_106 fX1_9 (by assumption) (by assumption) ?_
      refine J_iload (i := 5) qX1_insert_109 rfl ?_
      refine J_iload_n (i := 1) qX1_insert_111 rfl rfl ?_
      refine J_iast qX1_insert_112 (by assumption) rfl (by omega) ?_
      refine J_aload_n (i := 0) qX1_insert_113 rfl rfl ?_
      refine J_getR qX1_insert_114 fX1_15 (by assumption) (by assumption) ?_
      refine J_iload (i := 5) qX1_insert_117 rfl ?_
      refine J_iload_n (i := 2) qX1_insert_119 rfl rfl ?_
      refine J_iast qX1_insert_120 (by assumption) rfl (by omega) ?_
      refine J_aload_n (i := 0) qX1_insert_121 rfl rfl ?_
      refine J_getR qX1_insert_122 fX1_18 (by assumption) (by assumption) ?_
      refine J_iload (i := 5) qX1_insert_125 rfl ?_
      refine J_iload_n (i := 3) qX1_insert_127 rfl rfl ?_
      refine J_iast qX1_insert_128 (by assumption) rfl (by omega) ?_
      refine J_aload_n (i := 0) qX1_insert_129 rfl rfl ?_
      refine J_getR qX1_insert_130 fX1_21 (by assumption) (by assumption) ?_
      refine J_iload (i := 5) qX1_insert_133 rfl ?_
      refine J_iload (i := 4) qX1_insert_135 rfl ?_
      refine J_iast qX1_insert_137 (by assumption) rfl (by omega) ?_
      refine J_aload_n (i := 0) qX1_insert_138 rfl rfl ?_
      refine J_dup qX1_insert_139 rfl ?_
      refine J_getIe qX1_insert_140 fX1_24 (by assumption) (by (repeat first | with_reducible exact wI_e _ _ _ _ | (with_reducible apply rd_s; focus omega) | (with_reducible apply rd_k; focus omega) | with_reducible exact rd_e (by omega)); first | done | assumption | rfl) ?_
      refine J_pushI qX1_insert_143 ?_
      first | with_reducible refine J_iadd_n qX1_insert_144 ?_ | refine J_iadd qX1_insert_144 ?_
      refine J_putI qX1_insert_145 fX1_24p (by assumption) rfl rfl ?_
      refine J_iload (i := 5) qX1_insert_148 rfl ?_
      refine Ji_ret qX1_insert_150 ?_
      refine ⟨by rw [hpos], AbC.of ?_ ?_ (fun j hj4 k hk1 => ?_), ?_⟩
      · rw [insF_len]; exact wI_e _ _ _ _
      · rw [insF_len]; omega
      · rw [insF_len] at hk1
        show (wI (w4 ν b i (fun j => valF [(lo, hi, a, w)] 0 j)) b 4 (nI (cs.length + 1))).1 (b + 1 + j) k = _
        have hcg := cg_insA (cs := cs) (p := i) (c := (lo, hi, a, w)) hi0 k
        have hins : insF cs (lo, hi, a, w) = insA cs i (lo, hi, a, w) := by unfold insF; rw [hpos]
        rw [hins, wI_n (by omega)]
        by_cases e : k = i
        · subst e
          rw [w4_e hj4]
          rw [if_neg (by omega), if_pos rfl] at hcg
          exact valF_c (cs := [(lo, hi, a, w)]) (k := 0) hcg.symm j
        · rw [w4_n (by omega)]
          by_cases e2 : k < i
          · rw [if_pos e2] at hcg
            rw [(hinv j hj4).1 k e2]
            exact valF_c hcg.symm j
          · rw [if_neg e2, if_neg e] at hcg
            rw [(hinv j hj4).2 k (by omega) (by omega)]
            exact valF_c hcg.symm j
      · exact Fr.w (Fr.tr (hF.mono (fun c k q => Or.inl q)) (w4_fr (v := fun j => valF [(lo, hi, a, w)] 0 j))) (Or.inr ⟨rfl, rfl⟩)
    have H : ∀ i, i ≤ cs.length → ∀ ν : Mm, Fr μ ν (fun c k => b + 1 ≤ c ∧ c ≤ b + 4) → posF cs lo cs.length = posF cs lo i → (∀ j, j < 4 → (∀ k, k < i → ν.1 (b + 1 + j) k = valF cs k j) ∧ ∀ k, i < k → k ≤ cs.length → ν.1 (b + 1 + j) k = valF cs (k - 1) j) → J mX1_insert (d) (0, 0) s0 (Ki G (fun r μ' => r = nI (posF cs lo cs.length) ∧ AbC μ' b (insF cs (lo, hi, a, w)) ∧ Fr μ μ' (Pcs b))) (0, 0) 17 [.ref b, .int lo, .int hi, .int (nI a), .int (nI w), .int (nI i)] [] (G, ν) := by
      intro i
      induction i with
      | zero =>
        intro hi0 ν hF hpos hinv
        refine J_iload (i := 5) qX1_insert_17 rfl ?_
        first | with_reducible refine J_if_le_n qX1_insert_19 (by omega) (fun c1 => ?_) (fun c1 => ?_) | refine J_if_le qX1_insert_19 (fun c1 => ?_) (fun c1 => ?_)
        · exact fin 0 ν hi0 hF hpos hinv
        · omega
      | succ i ih =>
        intro hi0 ν hF hpos hinv
        have e0 : ν.1 (b + 1) i = (cg cs i).1 := (hinv 0 (by omega)).1 i (by omega)
        have e1 : ν.1 (b + 2) i = (cg cs i).2.1 := (hinv 1 (by omega)).1 i (by omega)
        have e2 : ν.1 (b + 3) i = nI (cg cs i).2.2.1 := (hinv 2 (by omega)).1 i (by omega)
        have e3 : ν.1 (b + 4) i = nI (cg cs i).2.2.2 := (hinv 3 (by omega)).1 i (by omega)
        rw [posF_succ] at hpos
        refine J_iload (i := 5) qX1_insert_17 rfl ?_
        first | with_reducible refine J_if_le_n qX1_insert_19 (by omega) (fun c1 => ?_) (fun c1 => ?_) | refine J_if_le qX1_insert_19 (fun c1 => ?_) (fun c1 => ?_)
        · omega
        · refine J_aload_n (i := 0) qX1_insert_22 rfl rfl ?_
          refine J_getR qX1_insert_23 fX1_9 (by assumption) (by assumption) ?_
          refine J_iload (i := 5) qX1_insert_26 rfl ?_
          refine J_pushI qX1_insert_28 ?_
          first | with_reducible refine J_isub_n qX1_insert_29 (by omega) ?_ | refine J_isub qX1_insert_29 ?_
          refine J_ialde qX1_insert_30 (by assumption) rfl (by omega) (by (repeat first | with_reducible exact wI_e _ _ _ _ | (with_reducible apply rd_s; focus omega) | (with_reducible apply rd_k; focus omega) | with_reducible exact rd_e (by omega)); first | done | assumption | rfl) ?_
          refine J_iload_n (i := 1) qX1_insert_31 rfl rfl ?_
          first | with_reducible refine J_icmp_le_n qX1_insert_32 (by omega) (by omega) (fun c2 => ?_) (fun c2 => ?_) | refine J_icmp_le qX1_insert_32 (fun c2 => ?_) (fun c2 => ?_)
          · rw [if_neg (fun q => absurd c2 (Int32.not_le.mpr q))] at hpos
            exact fin (i + 1) ν hi0 hF hpos hinv
          · rw [if_pos (i32_nle c2)] at hpos
            refine J_aload_n (i := 0) qX1_insert_35 rfl rfl ?_
            refine J_getR qX1_insert_36 fX1_9 (by assumption) (by assumption) ?_
            refine J_iload (i := 5) qX1_insert_39 rfl ?_
            refine J_aload_n (i := 0) qX1_insert_41 rfl rfl ?_
            refine J_getR qX1_insert_42 fX1_9 (by assumption) (by assumption) ?_
            refine J_iload (i := 5) qX1_insert_45 rfl ?_
            refine J_pushI qX1_insert_47 ?_
            first | with_reducible refine J_isub_n qX1_insert_48 (by omega) ?_ | refine J_isub qX1_insert_48 ?_
            refine J_ialde qX1_insert_49 (by assumption) rfl (by omega) (by (repeat first | with_reducible exact wI_e _ _ _ _ | (with_reducible apply rd_s; focus omega) | (with_reducible apply rd_k; focus omega) | with_reducible exact rd_e (by omega)); first | done | assumption | rfl) ?_
            refine J_iast qX1_insert_50 (by assumption) rfl (by omega) ?_
            refine J_aload_n (i := 0) qX1_insert_51 rfl rfl ?_
            refine J_getR qX1_insert_52 fX1_15 (by assumption) (by assumption) ?_
            refine J_iload (i := 5) qX1_insert_55 rfl ?_
            refine J_aload_n (i := 0) qX1_insert_57 rfl rfl ?_
            refine J_getR qX1_insert_58 fX1_15 (by assumption) (by assumption) ?_
            refine J_iload (i := 5) qX1_insert_61 rfl ?_
            refine J_pushI qX1_insert_63 ?_
            first | with_reducible refine J_isub_n qX1_insert_64 (by omega) ?_ | refine J_isub qX1_insert_64 ?_
            refine J_ialde qX1_insert_65 (by assumption) rfl (by omega) (by (repeat first | with_reducible exact wI_e _ _ _ _ | (with_reducible apply rd_s; focus omega) | (with_reducible apply rd_k; focus omega) | with_reducible exact rd_e (by omega)); first | done | assumption | rfl) ?_
            refine J_iast qX1_insert_66 (by assumption) rfl (by omega) ?_
            refine J_aload_n (i := 0) qX1_insert_67 rfl rfl ?_
            refine J_getR qX1_insert_68 fX1_18 (by assumption) (by assumption) ?_
            refine J_iload (i := 5) qX1_insert_71 rfl ?_
            refine J_aload_n (i := 0) qX1_insert_73 rfl rfl ?_
            refine J_getR qX1_insert_74 fX1_18 (by assumption) (by assumption) ?_
            refine J_iload (i := 5) qX1_insert_77 rfl ?_
            refine J_pushI qX1_insert_79 ?_
            first | with_reducible refine J_isub_n qX1_insert_80 (by omega) ?_ | refine J_isub qX1_insert_80 ?_
            refine J_ialde qX1_insert_81 (by assumption) rfl (by omega) (by (repeat first | with_reducible exact wI_e _ _ _ _ | (with_reducible apply rd_s; focus omega) | (with_reducible apply rd_k; focus omega) | with_reducible exact rd_e (by omega)); first | done | assumption | rfl) ?_
            refine J_iast qX1_insert_82 (by assumption) rfl (by omega) ?_
            refine J_aload_n (i := 0) qX1_insert_83 rfl rfl ?_
            refine J_getR qX1_insert_84 fX1_21 (by assumption) (by assumption) ?_
            refine J_iload (i := 5) qX1_insert_87 rfl ?_
            refine J_aload_n (i := 0) qX1_insert_89 rfl rfl ?_
            refine J_getR qX1_insert_90 fX1_21 (by assumption) (by assumption) ?_
            refine J_iload (i := 5) qX1_insert_93 rfl ?_
            refine J_pushI qX1_insert_95 ?_
            first | with_reducible refine J_isub_n qX1_insert_96 (by omega) ?_ | refine J_isub qX1_insert_96 ?_
            refine J_ialde qX1_insert_97 (by assumption) rfl (by omega) (by (repeat first | with_reducible exact wI_e _ _ _ _ | (with_reducible apply rd_s; focus omega) | (with_reducible apply rd_k; focus omega) | with_reducible exact rd_e (by omega)); first | done | assumption | rfl) ?_
            refine J_iast qX1_insert_98 (by assumption) rfl (by omega) ?_
            refine J_inc5 qX1_insert_99 (Nat.le_of_ble_eq_true rfl) (by first | exact nI_dec _ | rfl) rfl ?_
            refine J_goto qX1_insert_102 ?_
            refine ih (by omega) (w4 ν b (i + 1) (fun j => valF cs i j)) ?_ hpos (fun j hj4 => ⟨fun k hk1 => ?_, fun k hk1 hk2 => ?_⟩)
            · exact ⟨fun c k q => (w4_n (fun z => q ⟨z.1, z.2.1⟩)).trans (hF.1 c k q), hF.2⟩
            · rw [w4_n (by omega)]
              exact (hinv j hj4).1 k (by omega)
            · by_cases e : k = i + 1
              · subst e
                rw [w4_e hj4]
                rfl
              · rw [w4_n (by omega)]
                exact (hinv j hj4).2 k (by omega) hk2
    refine J_aload_n (i := 0) qX1_insert_11 rfl rfl ?_
    refine J_getIe qX1_insert_12 fX1_24 (by assumption) (by (repeat first | with_reducible exact wI_e _ _ _ _ | (with_reducible apply rd_s; focus omega) | (with_reducible apply rd_k; focus omega) | with_reducible exact rd_e (by omega)); first | done | assumption | rfl) ?_
    refine J_ist5 qX1_insert_15 (Nat.le_of_ble_eq_true rfl) rfl ?_
    exact H cs.length (Nat.le_refl _) μ Fr.rf rfl (fun j hj4 => ⟨fun k hk1 => hj j hj4 k hk1, fun k h1 h2 => absurd h1 (by omega)⟩)
  · omega
theorem p_remove (hP : IsP G b) (hc : AbC μ b cs) {i : Nat} (hi : i < cs.length) : Sv mX1_remove (d+1) [.ref b, .int (nI i)] G μ (fun μ' => AbC μ' b (cs.eraseIdx i) ∧ Fr μ μ' (Pcs b)) := by
  have hP0 := hP
  have hc0 := hc
  obtain ⟨hO, ⟨r0, r1, r2, r3⟩, -, ⟨a1, a2, a3, a4⟩, -⟩ := hP
  have hj := hc.j
  obtain ⟨hn, h12, hk⟩ := hc
  have hel : (cs.eraseIdx i).length = cs.length - 1 := List.length_eraseIdx_of_lt hi
  refine Sv_of (ls := [.ref b, .int (nI i), .null]) (by decide +kernel) (Nat.le_of_ble_eq_true rfl) rfl ?_
  refine J_aload_n (i := 0) qX1_remove_0 rfl rfl ?_
  refine J_iload_n (i := 1) qX1_remove_1 rfl rfl ?_
  refine J_vi1 qX1_remove_2 kX1_80 (by assumption) (p_has hP0 hc0 (nI i)) (Nat.le_of_ble_eq_true rfl) (fun r μ' hr => ?_)
  obtain ⟨rfl, rfl⟩ := hr
  rw [show hasB cs.length (nI i) = true from decide_eq_true ⟨nI_pos' (by omega), nI_lt hi (by omega)⟩]
  refine J_if_ne_n (a := 1) qX1_remove_5 (by omega) (fun c => ?_) (fun c => absurd c (by omega))
  refine J_aload_n (i := 0) qX1_remove_9 rfl rfl ?_
  refine J_dup qX1_remove_10 rfl ?_
  refine J_getIe qX1_remove_11 fX1_24 (by assumption) (by (repeat first | with_reducible exact wI_e _ _ _ _ | (with_reducible apply rd_s; focus omega) | (with_reducible apply rd_k; focus omega) | with_reducible exact rd_e (by omega)); first | done | assumption | rfl) ?_
  refine J_pushI qX1_remove_14 ?_
  first | with_reducible refine J_isub_n qX1_remove_15 (by omega) ?_ | refine J_isub qX1_remove_15 ?_
  refine J_putI qX1_remove_16 fX1_24p (by assumption) rfl rfl ?_
  refine J_iload_n (i := 1) qX1_remove_19 rfl rfl ?_
  refine J_ist2 qX1_remove_20 (Nat.le_of_ble_eq_true rfl) rfl ?_
  have H : ∀ m, m ≤ cs.length - 1 - i → ∀ ν : Mm, Fr μ ν (Pcs b) → ν.1 b 4 = nI (cs.length - 1) → (∀ j, j < 4 → (∀ k, k < i + m → ν.1 (b + 1 + j) k = valF (cs.eraseIdx i) k j) ∧ ∀ k, i + m ≤ k → k < cs.length → ν.1 (b + 1 + j) k = valF cs k j) → J mX1_remove (d+1) (0, 0) s0 (Kv G (fun μ' => AbC μ' b (cs.eraseIdx i) ∧ Fr μ μ' (Pcs b))) (0, 0) 21 [.ref b, .int (nI i), .int (nI (i + m))] [] (G, ν) := by
    refine ind_up (fun m hm ih ν hF hν hinv => ?_)
    refine J_iload_n (i := 2) qX1_remove_21 rfl rfl ?_
    refine J_aload_n (i := 0) qX1_remove_22 rfl rfl ?_
    refine J_getIe qX1_remove_23 fX1_24 (by assumption) (by (repeat first | with_reducible exact wI_e _ _ _ _ | (with_reducible apply rd_s; focus omega) | (with_reducible apply rd_k; focus omega) | with_reducible exact rd_e (by omega)); first | done | assumption | rfl) ?_
    first | with_reducible refine J_icmp_ge_n qX1_remove_26 (by omega) (by omega) (fun c1 => ?_) (fun c1 => ?_) | refine J_icmp_ge qX1_remove_26 (fun c1 => ?_) (fun c1 => ?_)
    · refine Jv_ret qX1_remove_91 ?_
      refine ⟨AbC.of ?_ ?_ (fun j hj4 k hk1 => ?_), hF⟩
      · rw [hel]; exact hν
      · rw [hel]; omega
      · rw [hel] at hk1
        exact (hinv j hj4).1 k (by omega)
    · have e0 : ν.1 (b + 1) (i + m + 1) = (cg cs (i + m + 1)).1 := (hinv 0 (by omega)).2 _ (by omega) (by omega)
      have e1 : ν.1 (b + 2) (i + m + 1) = (cg cs (i + m + 1)).2.1 := (hinv 1 (by omega)).2 _ (by omega) (by omega)
      have e2 : ν.1 (b + 3) (i + m + 1) = nI (cg cs (i + m + 1)).2.2.1 := (hinv 2 (by omega)).2 _ (by omega) (by omega)
      have e3 : ν.1 (b + 4) (i + m + 1) = nI (cg cs (i + m + 1)).2.2.2 := (hinv 3 (by omega)).2 _ (by omega) (by omega)
      refine J_aload_n (i := 0) qX1_remove_29 rfl rfl ?_
      refine J_getR qX1_remove_30 fX1_9 (by assumption) (by assumption) ?_
      refine J_iload_n (i := 2) qX1_remove_33 rfl rfl ?_
      refine J_aload_n (i := 0) qX1_remove_34 rfl rfl ?_
      refine J_getR qX1_remove_35 fX1_9 (by assumption) (by assumption) ?_
      refine J_iload_n (i := 2) qX1_remove_38 rfl rfl ?_
      refine J_pushI qX1_remove_39 ?_
      first | with_reducible refine J_iadd_n qX1_remove_40 ?_ | refine J_iadd qX1_remove_40 ?_
      refine J_ialde qX1_remove_41 (by assumption) rfl (by omega) (by (repeat first | with_reducible exact wI_e _ _ _ _ | (with_reducible apply rd_s; focus omega) | (with_reducible apply rd_k; focus omega) | with_reducible exact rd_e (by omega)); first | done | assumption | rfl) ?_
      refine J_iast qX1_remove_42 (by assumption) rfl (by omega) ?_
      refine J_aload_n (i := 0) qX1_remove_43 rfl rfl ?_
      refine J_getR qX1_remove_44 fX1_15 (by assumption) (by assumption) ?_
      refine J_iload_n (i := 2) qX1_remove_47 rfl rfl ?_
      refine J_aload_n (i := 0) qX1_remove_48 rfl rfl ?_
      refine J_getR qX1_remove_49 fX1_15 (by assumption) (by assumption) ?_
      refine J_iload_n (i := 2) qX1_remove_52 rfl rfl ?_
      refine J_pushI qX1_remove_53 ?_
      first | with_reducible refine J_iadd_n qX1_remove_54 ?_ | refine J_iadd qX1_remove_54 ?_
      refine J_ialde qX1_remove_55 (by assumption) rfl (by omega) (by (repeat first | with_reducible exact wI_e _ _ _ _ | (with_reducible apply rd_s; focus omega) | (with_reducible apply rd_k; focus omega) | with_reducible exact rd_e (by omega)); first | done | assumption | rfl) ?_
      refine J_iast qX1_remove_56 (by assumption) rfl (by omega) ?_
      refine J_aload_n (i := 0) qX1_remove_57 rfl rfl ?_
      refine J_getR qX1_remove_58 fX1_18 (by assumption) (by assumption) ?_
      refine J_iload_n (i := 2) qX1_remove_61 rfl rfl ?_
      refine J_aload_n (i := 0) qX1_remove_62 rfl rfl ?_
      refine J_getR qX1_remove_63 fX1_18 (by assumption) (by assumption) ?_
      refine J_iload_n (i := 2) qX1_remove_66 rfl rfl ?_
      refine J_pushI qX1_remove_67 ?_
      first | with_reducible refine J_iadd_n qX1_remove_68 ?_ | refine J_iadd qX1_remove_68 ?_
      refine J_ialde qX1_remove_69 (by assumption) rfl (by omega) (by (repeat first | with_reducible exact wI_e _ _ _ _ | (with_reducible apply rd_s; focus omega) | (with_reducible apply rd_k; focus omega) | with_reducible exact rd_e (by omega)); first | done | assumption | rfl) ?_
      refine J_iast qX1_remove_70 (by assumption) rfl (by omega) ?_
      refine J_aload_n (i := 0) qX1_remove_71 rfl rfl ?_
      refine J_getR qX1_remove_72 fX1_21 (by assumption) (by assumption) ?_
      refine J_iload_n (i := 2) qX1_remove_75 rfl rfl ?_
      refine J_aload_n (i := 0) qX1_remove_76 rfl rfl ?_
      refine J_getR qX1_remove_77 fX1_21 (by assumption) (by assumption) ?_
      refine J_iload_n (i := 2) qX1_remove_80 rfl rfl ?_
      refine J_pushI qX1_remove_81 ?_
      first | with_reducible refine J_iadd_n qX1_remove_82 ?_ | refine J_iadd qX1_remove_82 ?_
      refine J_ialde qX1_remove_83 (by assumption) rfl (by omega) (by (repeat first | with_reducible exact wI_e _ _ _ _ | (with_reducible apply rd_s; focus omega) | (with_reducible apply rd_k; focus omega) | with_reducible exact rd_e (by omega)); first | done | assumption | rfl) ?_
      refine J_iast qX1_remove_84 (by assumption) rfl (by omega) ?_
      refine J_inc2 qX1_remove_85 (Nat.le_of_ble_eq_true rfl) (by first | exact nI_inc _ | rfl) rfl ?_
      refine J_goto qX1_remove_88 ?_
      refine ih (by omega) (w4 ν b (i + m) (fun j => valF cs (i + m + 1) j)) (hF.tr w4_fr) ?_ (fun j hj4 => ⟨fun k hk1 => ?_, fun k hk1 hk2 => ?_⟩)
      · rw [w4_n (by omega)]; exact hν
      · by_cases e : k = i + m
        · subst e
          rw [w4_e hj4]
          have hcg := cg_era cs i (i + m)
          rw [if_neg (by omega)] at hcg
          exact valF_c hcg.symm j
        · rw [w4_n (by omega)]
          exact (hinv j hj4).1 k (by omega)
      · rw [w4_n (by omega)]
        exact (hinv j hj4).2 k (by omega) hk2
  refine H 0 (Nat.zero_le _) _ (Fr.w Fr.rf (Or.inr ⟨rfl, rfl⟩)) (wI_e _ _ _ _) (fun j hj4 => ⟨fun k hk1 => ?_, fun k hk1 hk2 => ?_⟩)
  · rw [wI_n (by omega), hj j hj4 k (by omega)]
    have hcg := cg_era cs i k
    rw [if_pos (by omega)] at hcg
    exact valF_c hcg.symm j
  · rw [wI_n (by omega)]
    exact hj j hj4 k hk2
end PR
