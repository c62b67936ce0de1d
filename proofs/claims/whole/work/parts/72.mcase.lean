/-! THE MODEL: cases, deeds -/
theorem MC.n0 {μ : Mm} {a : Nat} {cs : List Cs} (h : MC μ a 0 cs) : μ.1 a 0 = nI cs.length := h.1
theorem MC.j {μ : Mm} {a : Nat} {cs : List Cs} (h : MC μ a 0 cs) {j k : Nat} (hj : j < 4) (hk : k < cs.length) : μ.1 a (1 + 12 * j + k) = valF cs k j := by
  have q := h.2.2 j hj k hk
  rw [Nat.zero_add] at q
  exact q
theorem MC.of {μ : Mm} {a : Nat} {cs : List Cs} (h1 : μ.1 a 0 = nI cs.length) (h2 : cs.length ≤ 12) (h : ∀ j, j < 4 → ∀ k, k < cs.length → μ.1 a (1 + 12 * j + k) = valF cs k j) : MC μ a 0 cs := ⟨h1, h2, fun j hj k hk => by rw [Nat.zero_add]; exact h j hj k hk⟩
theorem MC.lo {μ : Mm} {a : Nat} {cs : List Cs} (h : MC μ a 0 cs) {k : Nat} (hk : k < cs.length) : μ.1 a (1 + k) = (cg cs k).1 := h.j (j := 0) (by omega) hk
theorem MC.hi {μ : Mm} {a : Nat} {cs : List Cs} (h : MC μ a 0 cs) {k : Nat} (hk : k < cs.length) : μ.1 a (13 + k) = (cg cs k).2.1 := h.j (j := 1) (by omega) hk
theorem MC.am {μ : Mm} {a : Nat} {cs : List Cs} (h : MC μ a 0 cs) {k : Nat} (hk : k < cs.length) : μ.1 a (25 + k) = nI (cg cs k).2.2.1 := h.j (j := 2) (by omega) hk
theorem MC.wt {μ : Mm} {a : Nat} {cs : List Cs} (h : MC μ a 0 cs) {k : Nat} (hk : k < cs.length) : μ.1 a (37 + k) = nI (cg cs k).2.2.2 := h.j (j := 3) (by omega) hk
def ownM (cs : List Cs) (x : Int32) : Int32 := if ownF cs x = -1 then -9 else ownF cs x
def u4 (ν : Mm) (a i : Nat) (v : Nat → Int32) : Mm := wI (wI (wI (wI ν a (1 + i) (v 0)) a (13 + i) (v 1)) a (25 + i) (v 2)) a (37 + i) (v 3)
theorem u4_e {ν : Mm} {a i j : Nat} {v : Nat → Int32} (hj : j < 4) : (u4 ν a i v).1 a (1 + 12 * j + i) = v j := by
  unfold u4
  match j, hj with
  | 0, _ => rw [wI_n (by omega), wI_n (by omega), wI_n (by omega)]; exact wI_e _ _ _ _
  | 1, _ => rw [wI_n (by omega), wI_n (by omega)]; exact wI_e _ _ _ _
  | 2, _ => rw [wI_n (by omega)]; exact wI_e _ _ _ _
  | 3, _ => exact wI_e _ _ _ _
theorem u4_n {ν : Mm} {a i c k : Nat} {v : Nat → Int32} (h : ¬ (c = a ∧ (k = 1 + i ∨ k = 13 + i ∨ k = 25 + i ∨ k = 37 + i))) : (u4 ν a i v).1 c k = ν.1 c k := by
  unfold u4
  rw [wI_n (by omega), wI_n (by omega), wI_n (by omega), wI_n (by omega)]
theorem inc12 (k : Nat) : nI k + Int32.ofInt 12 = nI (k + 12) := nI_add k 12
section MM
variable {G : Gm} {μ : Mm} {d a : Nat} {s : St} {cs : List Cs}
theorem m_caseOf (hA : IsA G a 10 49) (hc : MC μ a 0 cs) (x : Int32) : Si mX6_caseOf (d) [.ref a, .int x] G μ (fun r μ' => μ = μ' ∧ r = ownM cs x) := by
  have e0 := hc.n0
  have h12 := hc.2.1
  refine Si_of (ls := [.ref a, .int x, .null]) (by decide +kernel) (Nat.le_of_ble_eq_true rfl) rfl ?_
  refine J_pushI qX6_caseOf_0 ?_
  refine J_ist2 qX6_caseOf_1 (Nat.le_of_ble_eq_true rfl) rfl ?_
  refine ind_up (n := cs.length) (P := fun k => ownF cs x = ownA cs x (cs.length - k) k → J mX6_caseOf (d) (0, 0) s0 (Ki G (fun r μ' => μ = μ' ∧ r = ownM cs x)) (0, 0) 2 [.ref a, .int x, .int (nI k)] [] (G, μ)) (fun k hkn ih hinv => ?_) 0 (by omega) rfl
  refine J_iload_n (i := 2) qX6_caseOf_2 rfl rfl ?_
  refine J_aload_n (i := 0) qX6_caseOf_3 rfl rfl ?_
  refine J_pushI qX6_caseOf_4 ?_
  refine J_ialde qX6_caseOf_5 (by assumption) rfl (by omega) (by (repeat first | with_reducible exact wI_e _ _ _ _ | (with_reducible apply rd_s; focus omega) | (with_reducible apply rd_c; focus omega) | (with_reducible apply rd_k; focus omega) | with_reducible exact rd_e (by omega)); first | done | assumption | rfl) ?_
  first | with_reducible refine J_icmp_ge_n qX6_caseOf_6 (by omega) (by omega) (fun c => ?_) (fun c => ?_) | refine J_icmp_ge qX6_caseOf_6 (fun c => ?_) (fun c => ?_)
  · refine J_pushI qX6_caseOf_36 ?_
    refine Ji_ret qX6_caseOf_38 ?_
    refine ⟨rfl, ?_⟩
    unfold ownM
    rw [if_pos (by rw [hinv, show cs.length - k = 0 by omega]; rfl)]
  · have e1 := hc.lo c
    have e2 := hc.hi c
    rw [show cs.length - k = (cs.length - (k + 1)) + 1 by omega] at hinv
    unfold ownA at hinv
    have next : ¬ ((cg cs k).1 ≤ x ∧ x ≤ (cg cs k).2.1) → J mX6_caseOf (d) (0, 0) s0 (Ki G (fun r μ' => μ = μ' ∧ r = ownM cs x)) (0, 0) 30 [.ref a, .int x, .int (nI k)] [] (G, μ) := by
      intro hno
      refine J_inc2 qX6_caseOf_30 (Nat.le_of_ble_eq_true rfl) (by first | with_reducible exact nI_inc _ | rfl) rfl ?_
      refine J_goto qX6_caseOf_33 ?_
      exact ih c (by rw [hinv, if_neg hno])
    refine J_aload_n (i := 0) qX6_caseOf_9 rfl rfl ?_
    refine J_pushI qX6_caseOf_10 ?_
    refine J_iload_n (i := 2) qX6_caseOf_11 rfl rfl ?_
    first | with_reducible refine J_iadd_n qX6_caseOf_12 ?_ | refine J_iadd qX6_caseOf_12 ?_
    refine J_ialde qX6_caseOf_13 (by assumption) rfl (by omega) (by (repeat first | with_reducible exact wI_e _ _ _ _ | (with_reducible apply rd_s; focus omega) | (with_reducible apply rd_c; focus omega) | (with_reducible apply rd_k; focus omega) | with_reducible exact rd_e (by omega)); first | done | assumption | rfl) ?_
    refine J_iload_n (i := 1) qX6_caseOf_14 rfl rfl ?_
    refine J_icmp_gt qX6_caseOf_15 (fun c1 => next (fun q => absurd q.1 (Int32.not_le.mpr c1))) (fun c1 => ?_)
    refine J_iload_n (i := 1) qX6_caseOf_18 rfl rfl ?_
    refine J_aload_n (i := 0) qX6_caseOf_19 rfl rfl ?_
    refine J_pushI qX6_caseOf_20 ?_
    refine J_iload_n (i := 2) qX6_caseOf_22 rfl rfl ?_
    first | with_reducible refine J_iadd_n qX6_caseOf_23 ?_ | refine J_iadd qX6_caseOf_23 ?_
    refine J_ialde qX6_caseOf_24 (by assumption) rfl (by omega) (by (repeat first | with_reducible exact wI_e _ _ _ _ | (with_reducible apply rd_s; focus omega) | (with_reducible apply rd_c; focus omega) | (with_reducible apply rd_k; focus omega) | with_reducible exact rd_e (by omega)); first | done | assumption | rfl) ?_
    refine J_icmp_gt qX6_caseOf_25 (fun c2 => next (fun q => absurd q.2 (Int32.not_le.mpr c2))) (fun c2 => ?_)
    refine J_iload_n (i := 2) qX6_caseOf_28 rfl rfl ?_
    refine Ji_ret qX6_caseOf_29 ?_
    refine ⟨rfl, ?_⟩
    rw [if_pos ⟨i32_nlt c1, i32_nlt c2⟩] at hinv
    unfold ownM
    rw [hinv, if_neg (nI_m1 (by omega))]
def frB (cs : List Cs) (lo hi : Int32) : Nat → Bool
  | 0 => true
  | k + 1 => frB cs lo hi k && decide (¬ ((cg cs k).1 ≤ hi ∧ lo ≤ (cg cs k).2.1))
theorem frB_succ (cs : List Cs) (lo hi : Int32) (k : Nat) : frB cs lo hi (k + 1) = (frB cs lo hi k && decide (¬ ((cg cs k).1 ≤ hi ∧ lo ≤ (cg cs k).2.1))) := rfl
theorem frB_all (cs : List Cs) (lo hi : Int32) : ∀ m, frB cs lo hi m = true ↔ ∀ k, k < m → ¬ ((cg cs k).1 ≤ hi ∧ lo ≤ (cg cs k).2.1)
  | 0 => ⟨fun _ k hk => absurd hk (Nat.not_lt_zero k), fun _ => rfl⟩
  | m + 1 => by
    rw [frB_succ, Bool.and_eq_true, frB_all cs lo hi m, decide_eq_true_eq]
    constructor
    · rintro ⟨h1, h2⟩ k hk
      by_cases e : k = m
      · rw [e]; exact h2
      · exact h1 k (by omega)
    · intro h1
      exact ⟨fun k hk => h1 k (by omega), h1 m (by omega)⟩
theorem frB_is (cs : List Cs) (lo hi : Int32) : frB cs lo hi cs.length = freeB cs lo hi := by
  unfold freeB
  cases h : frB cs lo hi cs.length with
  | true => exact (decide_eq_true ((frB_all cs lo hi _).mp h)).symm
  | false => exact (decide_eq_false (fun q => by rw [(frB_all cs lo hi _).mpr q] at h; cases h)).symm
theorem m_isFree (hA : IsA G a 10 49) (hc : MC μ a 0 cs) (lo hi : Int32) : Si mX6_isFree (d) [.ref a, .int lo, .int hi] G μ (fun r μ' => μ = μ' ∧ r = b2i (freeB cs lo hi)) := by
  have e0 := hc.n0
  have h12 := hc.2.1
  refine Si_of (ls := [.ref a, .int lo, .int hi, .null, .null]) (by decide +kernel) (Nat.le_of_ble_eq_true rfl) rfl ?_
  refine J_pushI qX6_isFree_0 ?_
  refine J_ist3 qX6_isFree_1 (Nat.le_of_ble_eq_true rfl) rfl ?_
  refine J_pushI qX6_isFree_2 ?_
  refine J_ist4 qX6_isFree_3 (Nat.le_of_ble_eq_true rfl) rfl ?_
  refine ind_up (n := cs.length) (P := fun k => J mX6_isFree (d) (0, 0) s0 (Ki G (fun r μ' => μ = μ' ∧ r = b2i (freeB cs lo hi))) (0, 0) 5 [.ref a, .int lo, .int hi, .int (b2i (frB cs lo hi k)), .int (nI k)] [] (G, μ)) (fun k hkn ih => ?_) 0 (by omega)
  refine J_iload (i := 4) qX6_isFree_5 rfl ?_
  refine J_aload_n (i := 0) qX6_isFree_7 rfl rfl ?_
  refine J_pushI qX6_isFree_8 ?_
  refine J_ialde qX6_isFree_9 (by assumption) rfl (by omega) (by (repeat first | with_reducible exact wI_e _ _ _ _ | (with_reducible apply rd_s; focus omega) | (with_reducible apply rd_c; focus omega) | (with_reducible apply rd_k; focus omega) | with_reducible exact rd_e (by omega)); first | done | assumption | rfl) ?_
  first | with_reducible refine J_icmp_ge_n qX6_isFree_10 (by omega) (by omega) (fun c => ?_) (fun c => ?_) | refine J_icmp_ge qX6_isFree_10 (fun c => ?_) (fun c => ?_)
  · refine J_iload_n (i := 3) qX6_isFree_50 rfl rfl ?_
    refine Jz_ret qX6_isFree_51 (b2i_01 _) ?_
    refine ⟨rfl, ?_⟩
    rw [show k = cs.length by omega, frB_is]
  · have e1 := hc.lo c
    have e2 := hc.hi c
    have h3 := ih c
    rw [frB_succ] at h3
    have yes : ∀ b : Bool, b = (frB cs lo hi k && decide (¬ ((cg cs k).1 ≤ hi ∧ lo ≤ (cg cs k).2.1))) → J mX6_isFree (d) (0, 0) s0 (Ki G (fun r μ' => μ = μ' ∧ r = b2i (freeB cs lo hi))) (0, 0) 43 [.ref a, .int lo, .int hi, .int (b2i (frB cs lo hi k)), .int (nI k)] [.int (b2i b)] (G, μ) := fun b eb => by
      subst eb
      refine J_ist3 qX6_isFree_43 (Nat.le_of_ble_eq_true rfl) rfl ?_
      refine J_inc4 qX6_isFree_44 (Nat.le_of_ble_eq_true rfl) (by first | with_reducible exact nI_inc _ | rfl) rfl ?_
      refine J_goto qX6_isFree_47 ?_
      exact h3
    refine J_iload_n (i := 3) qX6_isFree_13 rfl rfl ?_
    cases hf : frB cs lo hi k with
    | false =>
      rw [hf] at yes
      first | refine J_if_eq qX6_isFree_14 (fun _ => ?_) (fun c => absurd b2i_f0 c) | refine J_if_eq qX6_isFree_14 (fun c => absurd c b2i_t0) (fun _ => ?_)
      refine J_pushI qX6_isFree_42 ?_
      exact yes false rfl
    | true =>
      rw [hf] at yes
      first | refine J_if_eq qX6_isFree_14 (fun _ => ?_) (fun c => absurd b2i_f0 c) | refine J_if_eq qX6_isFree_14 (fun c => absurd c b2i_t0) (fun _ => ?_)
      refine J_aload_n (i := 0) qX6_isFree_17 rfl rfl ?_
      refine J_pushI qX6_isFree_18 ?_
      refine J_iload (i := 4) qX6_isFree_20 rfl ?_
      first | with_reducible refine J_iadd_n qX6_isFree_22 ?_ | refine J_iadd qX6_isFree_22 ?_
      refine J_ialde qX6_isFree_23 (by assumption) rfl (by omega) (by (repeat first | with_reducible exact wI_e _ _ _ _ | (with_reducible apply rd_s; focus omega) | (with_reducible apply rd_c; focus omega) | (with_reducible apply rd_k; focus omega) | with_reducible exact rd_e (by omega)); first | done | assumption | rfl) ?_
      refine J_iload_n (i := 1) qX6_isFree_24 rfl rfl ?_
      refine J_icmp_lt qX6_isFree_25 (fun c1 => ?_) (fun c1 => ?_)
      · refine J_pushI qX6_isFree_38 ?_
        refine J_goto qX6_isFree_39 ?_
        exact yes true (by rw [show decide (¬ ((cg cs k).1 ≤ hi ∧ lo ≤ (cg cs k).2.1)) = true from decide_eq_true (fun q => absurd q.2 (Int32.not_le.mpr c1))]; rfl)
      · refine J_aload_n (i := 0) qX6_isFree_28 rfl rfl ?_
        refine J_pushI qX6_isFree_29 ?_
        refine J_iload (i := 4) qX6_isFree_30 rfl ?_
        first | with_reducible refine J_iadd_n qX6_isFree_32 ?_ | refine J_iadd qX6_isFree_32 ?_
        refine J_ialde qX6_isFree_33 (by assumption) rfl (by omega) (by (repeat first | with_reducible exact wI_e _ _ _ _ | (with_reducible apply rd_s; focus omega) | (with_reducible apply rd_c; focus omega) | (with_reducible apply rd_k; focus omega) | with_reducible exact rd_e (by omega)); first | done | assumption | rfl) ?_
        refine J_iload_n (i := 2) qX6_isFree_34 rfl rfl ?_
        refine J_icmp_le qX6_isFree_35 (fun c2 => ?_) (fun c2 => ?_)
        · refine J_pushI qX6_isFree_42 ?_
          exact yes false (by rw [show decide (¬ ((cg cs k).1 ≤ hi ∧ lo ≤ (cg cs k).2.1)) = false from decide_eq_false (fun q => q ⟨c2, i32_nlt c1⟩)]; rfl)
        · refine J_pushI qX6_isFree_38 ?_
          refine J_goto qX6_isFree_39 ?_
          exact yes true (by rw [show decide (¬ ((cg cs k).1 ≤ hi ∧ lo ≤ (cg cs k).2.1)) = true from decide_eq_true (fun q => c2 q.1)]; rfl)
theorem m_comes (hA : IsA G a 10 49) (hc : MC μ a 0 cs) (lo hi : Int32) (am w : Nat) (hlt : cs.length < 12) : Si mX6_comes (d) [.ref a, .int lo, .int hi, .int (nI am), .int (nI w)] G μ (fun r μ' => r = nI (posF cs lo cs.length) ∧ MC μ' a 0 (insF cs (lo, hi, am, w)) ∧ Fr μ μ' (fun c _ => c = a)) := by
  have e0 := hc.n0
  have fin : ∀ (i : Nat) (ν : Mm) (v6 : Value), i ≤ cs.length → Fr μ ν (fun c _ => c = a) → ν.1 a 0 = nI cs.length → posF cs lo cs.length = i → (∀ j, j < 4 → (∀ k, k < i → ν.1 a (1 + 12 * j + k) = valF cs k j) ∧ ∀ k, i < k → k ≤ cs.length → ν.1 a (1 + 12 * j + k) = valF cs (k - 1) j) → J mX6_comes (d) (0, 0) s0 (Ki G (fun r μ' => r = nI (posF cs lo cs.length) ∧ MC μ' a 0 (insF cs (lo, hi, am, w)) ∧ Fr μ μ' (fun c _ => c = a))) (0, 0) 60 [.ref a, .int lo, .int hi, .int (nI am), .int (nI w), .int (nI i), v6] [] (G, ν) := by
    intro i ν v6 hi0 hF hν hpos hinv
    refine J_aload_n (i := 0) qX6_comes_60 rfl rfl ?_
    refine J_pushI qX6_comes_61 ?_
    refine J_iload (i := 5) qX6_comes_62 rfl ?_
    first | with_reducible refine J_iadd_n qX6_comes_64 ?_ | refine J_iadd qX6_comes_64 ?_
    refine J_iload_n (i := 1) qX6_comes_65 rfl rfl ?_
    refine J_iast qX6_comes_66 (by assumption) rfl (by omega) ?_
    refine J_aload_n (i := 0) qX6_comes_67 rfl rfl ?_
    refine J_pushI qX6_comes_68 ?_
    refine J_iload (i := 5) qX6_comes_70 rfl ?_
    first | with_reducible refine J_iadd_n qX6_comes_72 ?_ | refine J_iadd qX6_comes_72 ?_
    refine J_iload_n (i := 2) qX6_comes_73 rfl rfl ?_
    refine J_iast qX6_comes_74 (by assumption) rfl (by omega) ?_
    refine J_aload_n (i := 0) qX6_comes_75 rfl rfl ?_
    refine J_pushI qX6_comes_76 ?_
    refine J_iload (i := 5) qX6_comes_78 rfl ?_
    first | with_reducible refine J_iadd_n qX6_comes_80 ?_ | refine J_iadd qX6_comes_80 ?_
    refine J_iload_n (i := 3) qX6_comes_81 rfl rfl ?_
    refine J_iast qX6_comes_82 (by assumption) rfl (by omega) ?_
    refine J_aload_n (i := 0) qX6_comes_83 rfl rfl ?_
    refine J_pushI qX6_comes_84 ?_
    refine J_iload (i := 5) qX6_comes_86 rfl ?_
    first | with_reducible refine J_iadd_n qX6_comes_88 ?_ | refine J_iadd qX6_comes_88 ?_
    refine J_iload (i := 4) qX6_comes_89 rfl ?_
    refine J_iast qX6_comes_91 (by assumption) rfl (by omega) ?_
    refine J_aload_n (i := 0) qX6_comes_92 rfl rfl ?_
    refine J_pushI qX6_comes_93 ?_
    refine J_dup2 qX6_comes_94 rfl rfl ?_
    refine J_ialde qX6_comes_95 (by assumption) rfl (by omega) (by (repeat first | with_reducible exact wI_e _ _ _ _ | (with_reducible apply rd_s; focus omega) | (with_reducible apply rd_c; focus omega) | (with_reducible apply rd_k; focus omega) | with_reducible exact rd_e (by omega)); first | done | assumption | rfl) ?_
    refine J_pushI qX6_comes_96 ?_
    first | with_reducible refine J_iadd_n qX6_comes_97 ?_ | refine J_iadd qX6_comes_97 ?_
    refine J_iast qX6_comes_98 (by assumption) rfl (by omega) ?_
    refine J_iload (i := 5) qX6_comes_99 rfl ?_
    refine Ji_ret qX6_comes_101 ?_
    refine ⟨by rw [hpos], MC.of ?_ ?_ (fun j hj4 k hk1 => ?_), ?_⟩
    · rw [insF_len]; exact wI_e _ _ _ _
    · rw [insF_len]; omega
    · rw [insF_len] at hk1
      show (wI (u4 ν a i (fun j => valF [(lo, hi, am, w)] 0 j)) a 0 (nI (cs.length + 1))).1 a (1 + 12 * j + k) = _
      have hcg := cg_insA (cs := cs) (p := i) (c := (lo, hi, am, w)) hi0 k
      have hins : insF cs (lo, hi, am, w) = insA cs i (lo, hi, am, w) := by unfold insF; rw [hpos]
      rw [hins, wI_n (by omega)]
      by_cases e : k = i
      · subst e
        rw [u4_e hj4]
        rw [if_neg (by omega), if_pos rfl] at hcg
        exact valF_c (cs := [(lo, hi, am, w)]) (k := 0) hcg.symm j
      · rw [u4_n (by omega)]
        by_cases e2 : k < i
        · rw [if_pos e2] at hcg
          rw [(hinv j hj4).1 k e2]
          exact valF_c hcg.symm j
        · rw [if_neg e2, if_neg e] at hcg
          rw [(hinv j hj4).2 k (by omega) (by omega)]
          exact valF_c hcg.symm j
    · exact Fr.w (Fr.w (Fr.w (Fr.w (Fr.w hF rfl) rfl) rfl) rfl) rfl
  have H : ∀ i, i ≤ cs.length → ∀ (ν : Mm) (v6 : Value), Fr μ ν (fun c _ => c = a) → ν.1 a 0 = nI cs.length → posF cs lo cs.length = posF cs lo i → (∀ j, j < 4 → (∀ k, k < i → ν.1 a (1 + 12 * j + k) = valF cs k j) ∧ ∀ k, i < k → k ≤ cs.length → ν.1 a (1 + 12 * j + k) = valF cs (k - 1) j) → J mX6_comes (d) (0, 0) s0 (Ki G (fun r μ' => r = nI (posF cs lo cs.length) ∧ MC μ' a 0 (insF cs (lo, hi, am, w)) ∧ Fr μ μ' (fun c _ => c = a))) (0, 0) 5 [.ref a, .int lo, .int hi, .int (nI am), .int (nI w), .int (nI i), v6] [] (G, ν) := by
    intro i
    induction i with
    | zero =>
      intro hi0 ν v6 hF hν hpos hinv
      refine J_iload (i := 5) qX6_comes_5 rfl ?_
      refine J_if_le_n qX6_comes_7 (by omega) (fun _ => ?_) (fun c => absurd c (Nat.lt_irrefl 0))
      exact fin 0 ν v6 hi0 hF hν hpos hinv
    | succ i ih =>
      intro hi0 ν v6 hF hν hpos hinv
      have e1 : ν.1 a (1 + (i + 1) - 1) = (cg cs i).1 := (hinv 0 (by omega)).1 i (by omega)
      have e2 : ν.1 a (13 + (i + 1) - 1) = (cg cs i).2.1 := (hinv 1 (by omega)).1 i (by omega)
      have e3 : ν.1 a (25 + (i + 1) - 1) = nI (cg cs i).2.2.1 := (hinv 2 (by omega)).1 i (by omega)
      have e4 : ν.1 a (37 + (i + 1) - 1) = nI (cg cs i).2.2.2 := (hinv 3 (by omega)).1 i (by omega)
      rw [posF_succ] at hpos
      refine J_iload (i := 5) qX6_comes_5 rfl ?_
      refine J_if_le_n qX6_comes_7 (by omega) (fun c => absurd c (by omega)) (fun _ => ?_)
      refine J_aload_n (i := 0) qX6_comes_10 rfl rfl ?_
      refine J_pushI qX6_comes_11 ?_
      refine J_iload (i := 5) qX6_comes_12 rfl ?_
      first | with_reducible refine J_iadd_n qX6_comes_14 ?_ | refine J_iadd qX6_comes_14 ?_
      refine J_pushI qX6_comes_15 ?_
      first | with_reducible refine J_isub_n qX6_comes_16 (by omega) ?_ | refine J_isub qX6_comes_16 ?_
      refine J_ialde qX6_comes_17 (by assumption) rfl (by omega) (by (repeat first | with_reducible exact wI_e _ _ _ _ | (with_reducible apply rd_s; focus omega) | (with_reducible apply rd_c; focus omega) | (with_reducible apply rd_k; focus omega) | with_reducible exact rd_e (by omega)); first | done | assumption | rfl) ?_
      refine J_iload_n (i := 1) qX6_comes_18 rfl rfl ?_
      refine J_icmp_le qX6_comes_19 (fun c2 => ?_) (fun c2 => ?_)
      · rw [if_neg (fun q => absurd c2 (Int32.not_le.mpr q))] at hpos
        exact fin (i + 1) ν v6 hi0 hF hν hpos hinv
      · rw [if_pos (i32_nle c2)] at hpos
        refine J_pushI qX6_comes_22 ?_
        refine J_ist6 qX6_comes_23 (Nat.le_of_ble_eq_true rfl) rfl ?_
        refine J_iload (i := 6) qX6_comes_25 rfl ?_
        refine J_pushI qX6_comes_27 ?_
        refine J_icmp_ge_n qX6_comes_29 (by omega) (by omega) (fun z => absurd z (by omega)) (fun _ => ?_)
        refine J_aload_n (i := 0) qX6_comes_32 rfl rfl ?_
        refine J_iload (i := 6) qX6_comes_33 rfl ?_
        refine J_iload (i := 5) qX6_comes_35 rfl ?_
        first | with_reducible refine J_iadd_n qX6_comes_37 ?_ | refine J_iadd qX6_comes_37 ?_
        refine J_aload_n (i := 0) qX6_comes_38 rfl rfl ?_
        refine J_iload (i := 6) qX6_comes_39 rfl ?_
        refine J_iload (i := 5) qX6_comes_41 rfl ?_
        first | with_reducible refine J_iadd_n qX6_comes_43 ?_ | refine J_iadd qX6_comes_43 ?_
        refine J_pushI qX6_comes_44 ?_
        first | with_reducible refine J_isub_n qX6_comes_45 (by omega) ?_ | refine J_isub qX6_comes_45 ?_
        refine J_ialde qX6_comes_46 (by assumption) rfl (by omega) (by (repeat first | with_reducible exact wI_e _ _ _ _ | (with_reducible apply rd_s; focus omega) | (with_reducible apply rd_c; focus omega) | (with_reducible apply rd_k; focus omega) | with_reducible exact rd_e (by omega)); first | done | assumption | rfl) ?_
        refine J_iast qX6_comes_47 (by assumption) rfl (by omega) ?_
        refine J_inc6 (v := nI 13) qX6_comes_48 (Nat.le_of_ble_eq_true rfl) (inc12 1) rfl ?_
        refine J_goto qX6_comes_51 ?_
        refine J_iload (i := 6) qX6_comes_25 rfl ?_
        refine J_pushI qX6_comes_27 ?_
        refine J_icmp_ge_n qX6_comes_29 (by omega) (by omega) (fun z => absurd z (by omega)) (fun _ => ?_)
        refine J_aload_n (i := 0) qX6_comes_32 rfl rfl ?_
        refine J_iload (i := 6) qX6_comes_33 rfl ?_
        refine J_iload (i := 5) qX6_comes_35 rfl ?_
        first | with_reducible refine J_iadd_n qX6_comes_37 ?_ | refine J_iadd qX6_comes_37 ?_
        refine J_aload_n (i := 0) qX6_comes_38 rfl rfl ?_
        refine J_iload (i := 6) qX6_comes_39 rfl ?_
        refine J_iload (i := 5) qX6_comes_41 rfl ?_
        first | with_reducible refine J_iadd_n qX6_comes_43 ?_ | refine J_iadd qX6_comes_43 ?_
        refine J_pushI qX6_comes_44 ?_
        first | with_reducible refine J_isub_n qX6_comes_45 (by omega) ?_ | refine J_isub qX6_comes_45 ?_
        refine J_ialde qX6_comes_46 (by assumption) rfl (by omega) (by (repeat first | with_reducible exact wI_e _ _ _ _ | (with_reducible apply rd_s; focus omega) | (with_reducible apply rd_c; focus omega) | (with_reducible apply rd_k; focus omega) | with_reducible exact rd_e (by omega)); first | done | assumption | rfl) ?_
        refine J_iast qX6_comes_47 (by assumption) rfl (by omega) ?_
        refine J_inc6 (v := nI 25) qX6_comes_48 (Nat.le_of_ble_eq_true rfl) (inc12 13) rfl ?_
        refine J_goto qX6_comes_51 ?_
        refine J_iload (i := 6) qX6_comes_25 rfl ?_
        refine J_pushI qX6_comes_27 ?_
        refine J_icmp_ge_n qX6_comes_29 (by omega) (by omega) (fun z => absurd z (by omega)) (fun _ => ?_)
        refine J_aload_n (i := 0) qX6_comes_32 rfl rfl ?_
        refine J_iload (i := 6) qX6_comes_33 rfl ?_
        refine J_iload (i := 5) qX6_comes_35 rfl ?_
        first | with_reducible refine J_iadd_n qX6_comes_37 ?_ | refine J_iadd qX6_comes_37 ?_
        refine J_aload_n (i := 0) qX6_comes_38 rfl rfl ?_
        refine J_iload (i := 6) qX6_comes_39 rfl ?_
        refine J_iload (i := 5) qX6_comes_41 rfl ?_
        first | with_reducible refine J_iadd_n qX6_comes_43 ?_ | refine J_iadd qX6_comes_43 ?_
        refine J_pushI qX6_comes_44 ?_
        first | with_reducible refine J_isub_n qX6_comes_45 (by omega) ?_ | refine J_isub qX6_comes_45 ?_
        refine J_ialde qX6_comes_46 (by assumption) rfl (by omega) (by (repeat first | with_reducible exact wI_e _ _ _ _ | (with_reducible apply rd_s; focus omega) | (with_reducible apply rd_c; focus omega) | (with_reducible apply rd_k; focus omega) | with_reducible exact rd_e (by omega)); first | done | assumption | rfl) ?_
        refine J_iast qX6_comes_47 (by assumption) rfl (by omega) ?_
        refine J_inc6 (v := nI 37) qX6_comes_48 (Nat.le_of_ble_eq_true rfl) (inc12 25) rfl ?_
        refine J_goto qX6_comes_51 ?_
        refine J_iload (i := 6) qX6_comes_25 rfl ?_
        refine J_pushI qX6_comes_27 ?_
        refine J_icmp_ge_n qX6_comes_29 (by omega) (by omega) (fun z => absurd z (by omega)) (fun _ => ?_)
        refine J_aload_n (i := 0) qX6_comes_32 rfl rfl ?_
        refine J_iload (i := 6) qX6_comes_33 rfl ?_
        refine J_iload (i := 5) qX6_comes_35 rfl ?_
        first | with_reducible refine J_iadd_n qX6_comes_37 ?_ | refine J_iadd qX6_comes_37 ?_
        refine J_aload_n (i := 0) qX6_comes_38 rfl rfl ?_
        refine J_iload (i := 6) qX6_comes_39 rfl ?_
        refine J_iload (i := 5) qX6_comes_41 rfl ?_
        first | with_reducible refine J_iadd_n qX6_comes_43 ?_ | refine J_iadd qX6_comes_43 ?_
        refine J_pushI qX6_comes_44 ?_
        first | with_reducible refine J_isub_n qX6_comes_45 (by omega) ?_ | refine J_isub qX6_comes_45 ?_
        refine J_ialde qX6_comes_46 (by assumption) rfl (by omega) (by (repeat first | with_reducible exact wI_e _ _ _ _ | (with_reducible apply rd_s; focus omega) | (with_reducible apply rd_c; focus omega) | (with_reducible apply rd_k; focus omega) | with_reducible exact rd_e (by omega)); first | done | assumption | rfl) ?_
        refine J_iast qX6_comes_47 (by assumption) rfl (by omega) ?_
        refine J_inc6 (v := nI 49) qX6_comes_48 (Nat.le_of_ble_eq_true rfl) (inc12 37) rfl ?_
        refine J_goto qX6_comes_51 ?_
        refine J_iload (i := 6) qX6_comes_25 rfl ?_
        refine J_pushI qX6_comes_27 ?_
        refine J_icmp_ge_n qX6_comes_29 (by omega) (by omega) (fun _ => ?_) (fun z => absurd z (by omega))
        refine J_inc5 qX6_comes_54 (Nat.le_of_ble_eq_true rfl) (by first | with_reducible exact nI_dec _ | rfl) rfl ?_
        refine J_goto qX6_comes_57 ?_
        refine ih (by omega) (u4 ν a (i + 1) (fun j => valF cs i j)) _ ?_ ?_ hpos (fun j hj4 => ⟨fun k hk1 => ?_, fun k hk1 hk2 => ?_⟩)
        · exact Fr.w (Fr.w (Fr.w (Fr.w hF rfl) rfl) rfl) rfl
        · rw [u4_n (by omega)]; exact hν
        · rw [u4_n (by omega)]
          exact (hinv j hj4).1 k (by omega)
        · by_cases e : k = i + 1
          · subst e
            rw [u4_e hj4]
            rfl
          · rw [u4_n (by omega)]
            exact (hinv j hj4).2 k (by omega) hk2
  refine Si_of (ls := [.ref a, .int lo, .int hi, .int (nI am), .int (nI w), .null, .null]) (by decide +kernel) (Nat.le_of_ble_eq_true rfl) rfl ?_
  refine J_aload_n (i := 0) qX6_comes_0 rfl rfl ?_
  refine J_pushI qX6_comes_1 ?_
  refine J_ialde qX6_comes_2 (by assumption) rfl (by omega) (by (repeat first | with_reducible exact wI_e _ _ _ _ | (with_reducible apply rd_s; focus omega) | (with_reducible apply rd_c; focus omega) | (with_reducible apply rd_k; focus omega) | with_reducible exact rd_e (by omega)); first | done | assumption | rfl) ?_
  refine J_ist5 qX6_comes_3 (Nat.le_of_ble_eq_true rfl) rfl ?_
  exact H cs.length (Nat.le_refl _) μ .null Fr.rf e0 rfl (fun j hj4 => ⟨fun k hk1 => hc.j hj4 hk1, fun k h1 h2 => absurd h1 (by omega)⟩)
theorem m_goes (hA : IsA G a 10 49) (hc : MC μ a 0 cs) {i : Nat} (hi : i < cs.length) : Sv mX6_goes (d) [.ref a, .int (nI i)] G μ (fun μ' => MC μ' a 0 (cs.eraseIdx i) ∧ Fr μ μ' (fun c _ => c = a)) := by
  have e0 := hc.n0
  have h12 := hc.2.1
  have hel : (cs.eraseIdx i).length = cs.length - 1 := List.length_eraseIdx_of_lt hi
  refine Sv_of (ls := [.ref a, .int (nI i), .null, .null]) (by decide +kernel) (Nat.le_of_ble_eq_true rfl) rfl ?_
  refine J_aload_n (i := 0) qX6_goes_0 rfl rfl ?_
  refine J_pushI qX6_goes_1 ?_
  refine J_dup2 qX6_goes_2 rfl rfl ?_
  refine J_ialde qX6_goes_3 (by assumption) rfl (by omega) (by (repeat first | with_reducible exact wI_e _ _ _ _ | (with_reducible apply rd_s; focus omega) | (with_reducible apply rd_c; focus omega) | (with_reducible apply rd_k; focus omega) | with_reducible exact rd_e (by omega)); first | done | assumption | rfl) ?_
  refine J_pushI qX6_goes_4 ?_
  first | with_reducible refine J_isub_n qX6_goes_5 (by omega) ?_ | refine J_isub qX6_goes_5 ?_
  refine J_iast qX6_goes_6 (by assumption) rfl (by omega) ?_
  refine J_iload_n (i := 1) qX6_goes_7 rfl rfl ?_
  refine J_ist2 qX6_goes_8 (Nat.le_of_ble_eq_true rfl) rfl ?_
  have H : ∀ m, m ≤ cs.length - 1 - i → ∀ (ν : Mm) (v3 : Value), Fr μ ν (fun c _ => c = a) → ν.1 a 0 = nI (cs.length - 1) → (∀ j, j < 4 → (∀ k, k < i + m → ν.1 a (1 + 12 * j + k) = valF (cs.eraseIdx i) k j) ∧ ∀ k, i + m ≤ k → k < cs.length → ν.1 a (1 + 12 * j + k) = valF cs k j) → J mX6_goes (d) (0, 0) s0 (Kv G (fun μ' => MC μ' a 0 (cs.eraseIdx i) ∧ Fr μ μ' (fun c _ => c = a))) (0, 0) 9 [.ref a, .int (nI i), .int (nI (i + m)), v3] [] (G, ν) := by
    refine ind_up (fun m hm ih ν v3 hF hν hinv => ?_)
    refine J_iload_n (i := 2) qX6_goes_9 rfl rfl ?_
    refine J_aload_n (i := 0) qX6_goes_10 rfl rfl ?_
    refine J_pushI qX6_goes_11 ?_
    refine J_ialde qX6_goes_12 (by assumption) rfl (by omega) (by (repeat first | with_reducible exact wI_e _ _ _ _ | (with_reducible apply rd_s; focus omega) | (with_reducible apply rd_c; focus omega) | (with_reducible apply rd_k; focus omega) | with_reducible exact rd_e (by omega)); first | done | assumption | rfl) ?_
    first | with_reducible refine J_icmp_ge_n qX6_goes_13 (by omega) (by omega) (fun c1 => ?_) (fun c1 => ?_) | refine J_icmp_ge qX6_goes_13 (fun c1 => ?_) (fun c1 => ?_)
    · refine Jv_ret qX6_goes_48 ?_
      refine ⟨MC.of ?_ ?_ (fun j hj4 k hk1 => ?_), hF⟩
      · rw [hel]; exact hν
      · rw [hel]; omega
      · rw [hel] at hk1
        exact (hinv j hj4).1 k (by omega)
    · have e1 : ν.1 a (1 + (i + m) + 1) = (cg cs (i + m + 1)).1 := by
        have q := (hinv 0 (by omega)).2 (i + m + 1) (by omega) (by omega)
        exact q
      have e2 : ν.1 a (13 + (i + m) + 1) = (cg cs (i + m + 1)).2.1 := by
        have q := (hinv 1 (by omega)).2 (i + m + 1) (by omega) (by omega)
        exact q
      have e3 : ν.1 a (25 + (i + m) + 1) = nI (cg cs (i + m + 1)).2.2.1 := by
        have q := (hinv 2 (by omega)).2 (i + m + 1) (by omega) (by omega)
        exact q
      have e4 : ν.1 a (37 + (i + m) + 1) = nI (cg cs (i + m + 1)).2.2.2 := by
        have q := (hinv 3 (by omega)).2 (i + m + 1) (by omega) (by omega)
        exact q
      refine J_pushI qX6_goes_16 ?_
      refine J_ist3 qX6_goes_17 (Nat.le_of_ble_eq_true rfl) rfl ?_
      refine J_iload_n (i := 3) qX6_goes_18 rfl rfl ?_
      refine J_pushI qX6_goes_19 ?_
      refine J_icmp_ge_n qX6_goes_21 (by omega) (by omega) (fun z => absurd z (by omega)) (fun _ => ?_)
      refine J_aload_n (i := 0) qX6_goes_24 rfl rfl ?_
      refine J_iload_n (i := 3) qX6_goes_25 rfl rfl ?_
      refine J_iload_n (i := 2) qX6_goes_26 rfl rfl ?_
      first | with_reducible refine J_iadd_n qX6_goes_27 ?_ | refine J_iadd qX6_goes_27 ?_
      refine J_aload_n (i := 0) qX6_goes_28 rfl rfl ?_
      refine J_iload_n (i := 3) qX6_goes_29 rfl rfl ?_
      refine J_iload_n (i := 2) qX6_goes_30 rfl rfl ?_
      first | with_reducible refine J_iadd_n qX6_goes_31 ?_ | refine J_iadd qX6_goes_31 ?_
      refine J_pushI qX6_goes_32 ?_
      first | with_reducible refine J_iadd_n qX6_goes_33 ?_ | refine J_iadd qX6_goes_33 ?_
      refine J_ialde qX6_goes_34 (by assumption) rfl (by omega) (by (repeat first | with_reducible exact wI_e _ _ _ _ | (with_reducible apply rd_s; focus omega) | (with_reducible apply rd_c; focus omega) | (with_reducible apply rd_k; focus omega) | with_reducible exact rd_e (by omega)); first | done | assumption | rfl) ?_
      refine J_iast qX6_goes_35 (by assumption) rfl (by omega) ?_
      refine J_inc3 (v := nI 13) qX6_goes_36 (Nat.le_of_ble_eq_true rfl) (inc12 1) rfl ?_
      refine J_goto qX6_goes_39 ?_
      refine J_iload_n (i := 3) qX6_goes_18 rfl rfl ?_
      refine J_pushI qX6_goes_19 ?_
      refine J_icmp_ge_n qX6_goes_21 (by omega) (by omega) (fun z => absurd z (by omega)) (fun _ => ?_)
      refine J_aload_n (i := 0) qX6_goes_24 rfl rfl ?_
      refine J_iload_n (i := 3) qX6_goes_25 rfl rfl ?_
      refine J_iload_n (i := 2) qX6_goes_26 rfl rfl ?_
      first | with_reducible refine J_iadd_n qX6_goes_27 ?_ | refine J_iadd qX6_goes_27 ?_
      refine J_aload_n (i := 0) qX6_goes_28 rfl rfl ?_
      refine J_iload_n (i := 3) qX6_goes_29 rfl rfl ?_
      refine J_iload_n (i := 2) qX6_goes_30 rfl rfl ?_
      first | with_reducible refine J_iadd_n qX6_goes_31 ?_ | refine J_iadd qX6_goes_31 ?_
      refine J_pushI qX6_goes_32 ?_
      first | with_reducible refine J_iadd_n qX6_goes_33 ?_ | refine J_iadd qX6_goes_33 ?_
      refine J_ialde qX6_goes_34 (by assumption) rfl (by omega) (by (repeat first | with_reducible exact wI_e _ _ _ _ | (with_reducible apply rd_s; focus omega) | (with_reducible apply rd_c; focus omega) | (with_reducible apply rd_k; focus omega) | with_reducible exact rd_e (by omega)); first | done | assumption | rfl) ?_
      refine J_iast qX6_goes_35 (by assumption) rfl (by omega) ?_
      refine J_inc3 (v := nI 25) qX6_goes_36 (Nat.le_of_ble_eq_true rfl) (inc12 13) rfl ?_
      refine J_goto qX6_goes_39 ?_
      refine J_iload_n (i := 3) qX6_goes_18 rfl rfl ?_
      refine J_pushI qX6_goes_19 ?_
      refine J_icmp_ge_n qX6_goes_21 (by omega) (by omega) (fun z => absurd z (by omega)) (fun _ => ?_)
      refine J_aload_n (i := 0) qX6_goes_24 rfl rfl ?_
      refine J_iload_n (i := 3) qX6_goes_25 rfl rfl ?_
      refine J_iload_n (i := 2) qX6_goes_26 rfl rfl ?_
      first | with_reducible refine J_iadd_n qX6_goes_27 ?_ | refine J_iadd qX6_goes_27 ?_
      refine J_aload_n (i := 0) qX6_goes_28 rfl rfl ?_
      refine J_iload_n (i := 3) qX6_goes_29 rfl rfl ?_
      refine J_iload_n (i := 2) qX6_goes_30 rfl rfl ?_
      first | with_reducible refine J_iadd_n qX6_goes_31 ?_ | refine J_iadd qX6_goes_31 ?_
      refine J_pushI qX6_goes_32 ?_
      first | with_reducible refine J_iadd_n qX6_goes_33 ?_ | refine J_iadd qX6_goes_33 ?_
      refine J_ialde qX6_goes_34 (by assumption) rfl (by omega) (by (repeat first | with_reducible exact wI_e _ _ _ _ | (with_reducible apply rd_s; focus omega) | (with_reducible apply rd_c; focus omega) | (with_reducible apply rd_k; focus omega) | with_reducible exact rd_e (by omega)); first | done | assumption | rfl) ?_
      refine J_iast qX6_goes_35 (by assumption) rfl (by omega) ?_
      refine J_inc3 (v := nI 37) qX6_goes_36 (Nat.le_of_ble_eq_true rfl) (inc12 25) rfl ?_
      refine J_goto qX6_goes_39 ?_
      refine J_iload_n (i := 3) qX6_goes_18 rfl rfl ?_
      refine J_pushI qX6_goes_19 ?_
      refine J_icmp_ge_n qX6_goes_21 (by omega) (by omega) (fun z => absurd z (by omega)) (fun _ => ?_)
      refine J_aload_n (i := 0) qX6_goes_24 rfl rfl ?_
      refine J_iload_n (i := 3) qX6_goes_25 rfl rfl ?_
      refine J_iload_n (i := 2) qX6_goes_26 rfl rfl ?_
      first | with_reducible refine J_iadd_n qX6_goes_27 ?_ | refine J_iadd qX6_goes_27 ?_
      refine J_aload_n (i := 0) qX6_goes_28 rfl rfl ?_
      refine J_iload_n (i := 3) qX6_goes_29 rfl rfl ?_
      refine J_iload_n (i := 2) qX6_goes_30 rfl rfl ?_
      first | with_reducible refine J_iadd_n qX6_goes_31 ?_ | refine J_iadd qX6_goes_31 ?_
      refine J_pushI qX6_goes_32 ?_
      first | with_reducible refine J_iadd_n qX6_goes_33 ?_ | refine J_iadd qX6_goes_33 ?_
      refine J_ialde qX6_goes_34 (by assumption) rfl (by omega) (by (repeat first | with_reducible exact wI_e _ _ _ _ | (with_reducible apply rd_s; focus omega) | (with_reducible apply rd_c; focus omega) | (with_reducible apply rd_k; focus omega) | with_reducible exact rd_e (by omega)); first | done | assumption | rfl) ?_
      refine J_iast qX6_goes_35 (by assumption) rfl (by omega) ?_
      refine J_inc3 (v := nI 49) qX6_goes_36 (Nat.le_of_ble_eq_true rfl) (inc12 37) rfl ?_
      refine J_goto qX6_goes_39 ?_
      refine J_iload_n (i := 3) qX6_goes_18 rfl rfl ?_
      refine J_pushI qX6_goes_19 ?_
      refine J_icmp_ge_n qX6_goes_21 (by omega) (by omega) (fun _ => ?_) (fun z => absurd z (by omega))
      refine J_inc2 qX6_goes_42 (Nat.le_of_ble_eq_true rfl) (by first | with_reducible exact nI_inc _ | rfl) rfl ?_
      refine J_goto qX6_goes_45 ?_
      refine ih (by omega) (u4 ν a (i + m) (fun j => valF cs (i + m + 1) j)) _ ?_ ?_ (fun j hj4 => ⟨fun k hk1 => ?_, fun k hk1 hk2 => ?_⟩)
      · exact Fr.w (Fr.w (Fr.w (Fr.w hF rfl) rfl) rfl) rfl
      · rw [u4_n (by omega)]; exact hν
      · by_cases e : k = i + m
        · subst e
          rw [u4_e hj4]
          have hcg := cg_era cs i (i + m)
          rw [if_neg (by omega)] at hcg
          exact valF_c hcg.symm j
        · rw [u4_n (by omega)]
          exact (hinv j hj4).1 k (by omega)
      · rw [u4_n (by omega)]
        exact (hinv j hj4).2 k (by omega) hk2
  refine H 0 (Nat.zero_le _) _ .null (Fr.w Fr.rf rfl) (wI_e _ _ _ _) (fun j hj4 => ⟨fun k hk1 => ?_, fun k hk1 hk2 => ?_⟩)
  · rw [wI_n (by omega), hc.j hj4 (by omega)]
    have hcg := cg_era cs i k
    rw [if_pos (by omega)] at hcg
    exact valF_c hcg.symm j
  · rw [wI_n (by omega)]
    exact hc.j hj4 hk2
theorem m_isCase (hM : LayM G) (hc : MC μ 206 0 cs) (i : Int32) : Si mX6_isCase (d+1) [.ref 198, .int i] G μ (fun r μ' => μ = μ' ∧ r = b2i (hasB cs.length i)) := by
  obtain ⟨mO, ⟨-, -, -, -, -, -, -, f17, -⟩, ⟨-, -, -, -, -, -, -, b206, -⟩⟩ := hM
  have e0 := hc.n0
  have h12 := hc.2.1
  refine Si_of (ls := [.ref 198, .int i]) (by decide +kernel) (Nat.le_of_ble_eq_true rfl) rfl ?_
  refine J_iload_n (i := 1) qX6_isCase_0 rfl rfl ?_
  refine J_pushI qX6_isCase_1 ?_
  refine J_aload_n (i := 0) qX6_isCase_2 rfl rfl ?_
  refine J_getR qX6_isCase_3 fX6_32 (by assumption) (by assumption) ?_
  refine J_pushI qX6_isCase_6 ?_
  refine J_ialde qX6_isCase_7 (by assumption) rfl (by omega) (by (repeat first | with_reducible exact wI_e _ _ _ _ | (with_reducible apply rd_s; focus omega) | (with_reducible apply rd_c; focus omega) | (with_reducible apply rd_k; focus omega) | with_reducible exact rd_e (by omega)); first | done | assumption | rfl) ?_
  refine J_pushI qX6_isCase_8 ?_
  refine J_isub qX6_isCase_9 ?_
  rw [subl]
  refine J_si3 qX6_isCase_10 kX6_75 (m_in (d := d) i (nI 0) (lv cs.length)) (Nat.le_of_ble_eq_true rfl) (fun v1 μ' hr => ?_)
  rw [inB_lv (by omega)] at hr
  obtain ⟨rfl, rfl⟩ := hr
  refine Jz_ret qX6_isCase_13 (b2i_01 _) ?_
  exact ⟨rfl, rfl⟩
theorem m_told (hM : LayM G) (h : RelM μ s) (i w : Int32) : Si mX6_told (d+2) [.ref 198, .int i, .int w] G μ (fun q μ' => q = (toldS s i w).1 ∧ RelM μ' (toldS s i w).2 ∧ FrM μ μ') := by
  have hM0 := hM
  obtain ⟨mO, ⟨-, -, -, -, -, -, -, f17, -⟩, ⟨-, -, -, -, -, -, -, b206, -⟩⟩ := hM
  have hc := h.2.2.1.1
  have h12 := hc.2.1
  have bad : (hasB (sP s).1.length i && hasB 4 w) = false → J mX6_told (d+2) (0, 0) s0 (Ki G (fun q μ' => q = (toldS s i w).1 ∧ RelM μ' (toldS s i w).2 ∧ FrM μ μ')) (0, 0) 38 [.ref 198, .int i, .int w] [] (G, μ) := fun hz => by
    rw [show toldS s i w = (-1, s) from if_neg (by rw [hz]; decide)]
    refine J_pushI qX6_told_38 ?_
    refine Ji_ret qX6_told_39 ?_
    exact ⟨rfl, h, FrM.rf⟩
  refine Si_of (ls := [.ref 198, .int i, .int w]) (by decide +kernel) (Nat.le_of_ble_eq_true rfl) rfl ?_
  refine J_aload_n (i := 0) qX6_told_0 rfl rfl ?_
  refine J_iload_n (i := 1) qX6_told_1 rfl rfl ?_
  refine J_vi1 qX6_told_2 kX6_221 (by assumption) (m_isCase (d := d) hM0 hc i) (Nat.le_of_ble_eq_true rfl) (fun v1 μ' hr => ?_)
  obtain ⟨rfl, rfl⟩ := hr
  cases hb : hasB (sP s).1.length i with
  | false =>
    first | refine J_if_eq qX6_told_5 (fun _ => ?_) (fun c => absurd b2i_f0 c) | refine J_if_eq qX6_told_5 (fun c => absurd c b2i_t0) (fun _ => ?_)
    exact bad (by rw [hb]; rfl)
  | true =>
    first | refine J_if_eq qX6_told_5 (fun _ => ?_) (fun c => absurd b2i_f0 c) | refine J_if_eq qX6_told_5 (fun c => absurd c b2i_t0) (fun _ => ?_)
    refine J_iload_n (i := 2) qX6_told_8 rfl rfl ?_
    refine J_pushI qX6_told_9 ?_
    refine J_pushI qX6_told_10 ?_
    refine J_si3 qX6_told_11 kX6_75 (m_in (d := d + 1) w (nI 0) (lv 4)) (Nat.le_of_ble_eq_true rfl) (fun v1 μ' hr => ?_)
    rw [inB_lv (by omega)] at hr
    obtain ⟨rfl, rfl⟩ := hr
    cases hb2 : hasB 4 w with
    | false =>
      first | refine J_if_eq qX6_told_14 (fun _ => ?_) (fun c => absurd b2i_f0 c) | refine J_if_eq qX6_told_14 (fun c => absurd c b2i_t0) (fun _ => ?_)
      exact bad (by rw [hb2, Bool.and_false])
    | true =>
      first | refine J_if_eq qX6_told_14 (fun _ => ?_) (fun c => absurd b2i_f0 c) | refine J_if_eq qX6_told_14 (fun c => absurd c b2i_t0) (fun _ => ?_)
      rw [show toldS s i w = (nI 1, uAsk s (valF (sP s).1 (ix i) (ix w))) from if_pos (by rw [hb, hb2]; rfl)]
      obtain ⟨k, hk, rfl⟩ := hasB_of (by omega) hb
      obtain ⟨e, he, rfl⟩ := hasB_of (by omega) hb2
      have e1 := hc.j he hk
      rw [ix_n (by omega), ix_n (by omega)]
      refine J_aload_n (i := 0) qX6_told_17 rfl rfl ?_
      refine J_aload_n (i := 0) qX6_told_18 rfl rfl ?_
      refine J_getR qX6_told_19 fX6_32 (by assumption) (by assumption) ?_
      refine J_pushI qX6_told_22 ?_
      refine J_pushI qX6_told_23 ?_
      refine J_iload_n (i := 2) qX6_told_25 rfl rfl ?_
      first | with_reducible refine J_imul_n qX6_told_26 ?_ | refine J_imul qX6_told_26 ?_
      first | with_reducible refine J_iadd_n qX6_told_27 ?_ | refine J_iadd qX6_told_27 ?_
      refine J_iload_n (i := 1) qX6_told_28 rfl rfl ?_
      first | with_reducible refine J_iadd_n qX6_told_29 ?_ | refine J_iadd qX6_told_29 ?_
      refine J_ialde qX6_told_30 (by assumption) rfl (by omega) (by (repeat first | with_reducible exact wI_e _ _ _ _ | (with_reducible apply rd_s; focus omega) | (with_reducible apply rd_c; focus omega) | (with_reducible apply rd_k; focus omega) | with_reducible exact rd_e (by omega)); first | done | assumption | rfl) ?_
      refine J_pushI qX6_told_31 ?_
      refine J_vi2 qX6_told_32 kX6_91 (by assumption) (m_tells (d := d + 1) hM0 h (valF (sP s).1 k e) (nI 1)) (Nat.le_of_ble_eq_true rfl) (fun v1 ν hr => ?_)
      refine J_goto qX6_told_35 ?_
      refine Ji_ret qX6_told_39 ?_
      exact hr
theorem m_reach (hM : LayM G) (h : RelM μ s) (x : Int32) : Si mX6_reach (d+2) [.ref 198, .int x] G μ (fun q μ' => q = (reachS s x).1 ∧ RelM μ' (reachS s x).2 ∧ FrM μ μ') := by
  have hM0 := hM
  obtain ⟨mO, ⟨-, -, -, -, -, -, -, f17, -⟩, ⟨-, -, -, -, -, -, -, b206, -⟩⟩ := hM
  have hc := h.2.2.1.1
  have h12 := hc.2.1
  refine Si_of (ls := [.ref 198, .int x, .null]) (by decide +kernel) (Nat.le_of_ble_eq_true rfl) rfl ?_
  refine J_aload_n (i := 0) qX6_reach_0 rfl rfl ?_
  refine J_getR qX6_reach_1 fX6_32 (by assumption) (by assumption) ?_
  refine J_iload_n (i := 1) qX6_reach_4 rfl rfl ?_
  refine J_si2 qX6_reach_5 kX6_159 (m_caseOf (d := d + 1) b206 hc x) (Nat.le_of_ble_eq_true rfl) (fun v1 μ' hr => ?_)
  obtain ⟨rfl, rfl⟩ := hr
  rcases own_is (sP s).1 x with e | ⟨i, hi, e⟩
  · rw [show reachS s x = (-9, s) from if_pos (by rw [e]; decide), show ownM (sP s).1 x = -9 from if_pos e]
    refine J_ist2 qX6_reach_8 (Nat.le_of_ble_eq_true rfl) rfl ?_
    refine J_iload_n (i := 2) qX6_reach_9 rfl rfl ?_
    refine J_pushI qX6_reach_10 ?_
    refine J_icmp_ne qX6_reach_12 (fun c => absurd rfl c) (fun _ => ?_)
    refine J_pushI qX6_reach_15 ?_
    refine J_goto qX6_reach_17 ?_
    refine Ji_ret qX6_reach_34 ?_
    exact ⟨rfl, h, FrM.rf⟩
  · have e1 := hc.am hi
    rw [show reachS s x = (nI (cg (sP s).1 (ix (ownF (sP s).1 x))).2.2.1, uAsk s (ownF (sP s).1 x)) from if_neg (by rw [e]; exact nI_pos (by omega)), show ownM (sP s).1 x = nI i by unfold ownM; rw [e, if_neg (nI_m1 (by omega))], e, ix_n (by omega)]
    refine J_ist2 qX6_reach_8 (Nat.le_of_ble_eq_true rfl) rfl ?_
    refine J_iload_n (i := 2) qX6_reach_9 rfl rfl ?_
    refine J_pushI qX6_reach_10 ?_
    refine J_icmp_ne qX6_reach_12 (fun _ => ?_) (fun c => absurd c (nI_m9 (by omega)))
    refine J_aload_n (i := 0) qX6_reach_20 rfl rfl ?_
    refine J_iload_n (i := 2) qX6_reach_21 rfl rfl ?_
    refine J_aload_n (i := 0) qX6_reach_22 rfl rfl ?_
    refine J_getR qX6_reach_23 fX6_32 (by assumption) (by assumption) ?_
    refine J_pushI qX6_reach_26 ?_
    refine J_iload_n (i := 2) qX6_reach_28 rfl rfl ?_
    first | with_reducible refine J_iadd_n qX6_reach_29 ?_ | refine J_iadd qX6_reach_29 ?_
    refine J_ialde qX6_reach_30 (by assumption) rfl (by omega) (by (repeat first | with_reducible exact wI_e _ _ _ _ | (with_reducible apply rd_s; focus omega) | (with_reducible apply rd_c; focus omega) | (with_reducible apply rd_k; focus omega) | with_reducible exact rd_e (by omega)); first | done | assumption | rfl) ?_
    refine J_vi2 qX6_reach_31 kX6_91 (by assumption) (m_tells (d := d + 1) hM0 h (nI i) (nI (cg (sP s).1 i).2.2.1)) (Nat.le_of_ble_eq_true rfl) (fun v1 ν hr => ?_)
    refine Ji_ret qX6_reach_34 ?_
    exact hr
end MM
