/-! PROGRAM: its cells, and what they say -/
/-- a CASE: LOW, HIGH, AIM, WEIGHT -/
abbrev Cs : Type := Int32 × Int32 × Nat × Nat
def cg (cs : List Cs) (k : Nat) : Cs := cs.getD k (0, 0, 0, 0)
/-- a Program's cells, from b on -/
def IsP (G : Gm) (b : Nat) : Prop := IsO G b 1 ∧ (RF G b 0 (b + 1) ∧ RF G b 1 (b + 2) ∧ RF G b 2 (b + 3) ∧ RF G b 3 (b + 4)) ∧ (RF G b 6 (b + 5) ∧ RF G b 7 (b + 6) ∧ RF G b 8 (b + 7) ∧ RF G b 9 (b + 8) ∧ RF G b 10 (b + 9) ∧ RF G b 11 (b + 10)) ∧
  (IsA G (b + 1) 10 12 ∧ IsA G (b + 2) 10 12 ∧ IsA G (b + 3) 10 12 ∧ IsA G (b + 4) 10 12) ∧ (IsA G (b + 5) 10 40 ∧ IsA G (b + 6) 10 40 ∧ IsA G (b + 7) 10 40 ∧ IsA G (b + 8) 10 40 ∧ IsA G (b + 9) 10 40 ∧ IsA G (b + 10) 10 40)
/-- the CASES that a Program holds -/
def AbC (μ : Mm) (b : Nat) (cs : List Cs) : Prop := μ.1 b 4 = nI cs.length ∧ cs.length ≤ 12 ∧ ∀ k, k < cs.length → μ.1 (b + 1) k = (cg cs k).1 ∧ μ.1 (b + 2) k = (cg cs k).2.1 ∧ μ.1 (b + 3) k = nI (cg cs k).2.2.1 ∧ μ.1 (b + 4) k = nI (cg cs k).2.2.2
/-- CASES as they may be: by LOW, apart -/
def OkC (cs : List Cs) : Prop := (∀ k, k < cs.length → (cg cs k).1 ≤ (cg cs k).2.1 ∧ (cg cs k).2.2.1 < 8 ∧ (cg cs k).2.2.2 < 10) ∧ ∀ k, k + 1 < cs.length → (cg cs k).2.1 < (cg cs (k + 1)).1
def b2i : Bool → Int32
  | true => nI 1
  | false => nI 0
theorem b2i_t {b : Bool} (h : b = true) : nI 1 = b2i b := by rw [h]; rfl
theorem b2i_f {b : Bool} (h : b = false) : nI 0 = b2i b := by rw [h]; rfl
theorem b2i_01 (b : Bool) : b2i b = 0 ∨ b2i b = 1 := by cases b; exact Or.inl rfl; exact Or.inr rfl
def hasB (n : Nat) (i : Int32) : Bool := decide (0 ≤ i ∧ i < nI n)
def inC (c : Cs) (x : Int32) : Prop := c.1 ≤ x ∧ x ≤ c.2.1
def freeB (cs : List Cs) (lo hi : Int32) : Bool := decide (∀ k, k < cs.length → ¬ ((cg cs k).1 ≤ hi ∧ lo ≤ (cg cs k).2.1))
/-- the first CASE from k on whose x is -/
def ownA (cs : List Cs) (x : Int32) : Nat → Nat → Int32
  | 0, _ => -1
  | f + 1, k => if (cg cs k).1 ≤ x ∧ x ≤ (cg cs k).2.1 then nI k else ownA cs x f (k + 1)
def ownF (cs : List Cs) (x : Int32) : Int32 := ownA cs x cs.length 0
def spanF (cs : List Cs) (i j : Nat) : Int64 := (cg cs j).2.1.toInt64 - (cg cs i).1.toInt64 + 1
def numF (cs : List Cs) (i : Nat) : Nat → Int64
  | 0 => 0
  | m + 1 => numF cs i m + spanF cs (i + m) (i + m)
def wgF (cs : List Cs) (i : Nat) : Nat → Nat
  | 0 => 0
  | m + 1 => wgF cs i m + (cg cs (i + m)).2.2.2
def loneF (cs : List Cs) (i : Nat) : Nat := if (cg cs i).1 = (cg cs i).2.1 then 1 else 2
/-- a loop that goes up -/
theorem ind_up {n : Nat} {P : Nat → Prop} (h : ∀ k, k ≤ n → (k < n → P (k + 1)) → P k) : ∀ k, k ≤ n → P k := by
  have : ∀ f k, n - k < f → k ≤ n → P k := by
    intro f
    induction f with
    | zero => intro k h1; omega
    | succ f ih => intro k h1 h2; exact h k h2 (fun h3 => ih (k + 1) (by omega) (by omega))
  exact fun k hk => this (n - k + 1) k (by omega) hk
theorem i32_nlt {x y : Int32} (h : ¬ x < y) : y ≤ x := Int32.not_lt.mp h
theorem i32_nle {x y : Int32} (h : ¬ x ≤ y) : y < x := Int32.not_le.mp h
section PR
variable {G : Gm} {μ : Mm} {b d : Nat} {cs : List Cs}
theorem p_has (hP : IsP G b) (hc : AbC μ b cs) (i : Int32) : Si mX1_has (d) [.ref b, .int i] G μ (fun r μ' => μ = μ' ∧ r = b2i (hasB cs.length i)) := by
  obtain ⟨hO, -⟩ := hP
  obtain ⟨hn, h12, hk⟩ := hc
  refine Si_of (ls := [.ref b, .int i]) (by decide +kernel) (Nat.le_of_ble_eq_true rfl) rfl ?_
  refine J_iload_n (i := 1) qX1_has_0 rfl rfl ?_
  first | with_reducible refine J_if_lt_n qX1_has_1 (by omega) ?_ | refine J_if_lt qX1_has_1 (fun c => ?_) (fun c => ?_)
  · refine J_pushI qX1_has_16 ?_
    refine Jz_ret qX1_has_17 (by first | exact Or.inl rfl | exact Or.inr rfl | assumption) ?_
    exact ⟨rfl, b2i_f (decide_eq_false (fun q => absurd q.1 (Int32.not_le.mpr c)))⟩
  · refine J_iload_n (i := 1) qX1_has_4 rfl rfl ?_
    refine J_aload_n (i := 0) qX1_has_5 rfl rfl ?_
    first | refine J_getIe qX1_has_6 fX1_24 (by assumption) (by assumption) ?_ | refine J_getI qX1_has_6 fX1_24 (by assumption) ?_
    first | with_reducible refine J_icmp_ge_n qX1_has_9 (by omega) (by omega) (fun c2 => ?_) (fun c2 => ?_) | refine J_icmp_ge qX1_has_9 (fun c2 => ?_) (fun c2 => ?_)
    · refine J_pushI qX1_has_16 ?_
      refine Jz_ret qX1_has_17 (by first | exact Or.inl rfl | exact Or.inr rfl | assumption) ?_
      exact ⟨rfl, b2i_f (decide_eq_false (fun q => absurd q.2 (Int32.not_lt.mpr c2)))⟩
    · refine J_pushI qX1_has_12 ?_
      refine J_goto qX1_has_13 ?_
      refine Jz_ret qX1_has_17 (by first | exact Or.inl rfl | exact Or.inr rfl | assumption) ?_
      exact ⟨rfl, b2i_t (decide_eq_true ⟨i32_nlt c, i32_nle c2⟩)⟩
theorem p_isFree (hP : IsP G b) (hc : AbC μ b cs) (lo hi : Int32) : Si mX1_isFree (d) [.ref b, .int lo, .int hi] G μ (fun r μ' => μ = μ' ∧ r = b2i (freeB cs lo hi)) := by
  obtain ⟨hO, ⟨r0, r1, r2, r3⟩, -, ⟨a1, a2, a3, a4⟩, -⟩ := hP
  obtain ⟨hn, h12, hk⟩ := hc
  refine Si_of (ls := [.ref b, .int lo, .int hi, .null]) (by decide +kernel) (Nat.le_of_ble_eq_true rfl) rfl ?_
  refine J_pushI qX1_isFree_0 ?_
  refine J_ist3 qX1_isFree_1 (Nat.le_of_ble_eq_true rfl) rfl ?_
  refine ind_up (n := cs.length) (P := fun k => (∀ j, j < k → ¬ ((cg cs j).1 ≤ hi ∧ lo ≤ (cg cs j).2.1)) → J mX1_isFree (d) (0, 0) s0 (Ki G (fun r μ' => μ = μ' ∧ r = b2i (freeB cs lo hi))) (0, 0) 2 [.ref b, .int lo, .int hi, .int (nI k)] [] (G, μ)) (fun k hkn ih hinv => ?_) 0 (by omega) (fun j hj => absurd hj (Nat.not_lt_zero j))
  refine J_iload_n (i := 3) qX1_isFree_2 rfl rfl ?_
  refine J_aload_n (i := 0) qX1_isFree_3 rfl rfl ?_
  first | refine J_getIe qX1_isFree_4 fX1_24 (by assumption) (by assumption) ?_ | refine J_getI qX1_isFree_4 fX1_24 (by assumption) ?_
  first | with_reducible refine J_icmp_ge_n qX1_isFree_7 (by omega) (by omega) (fun c => ?_) (fun c => ?_) | refine J_icmp_ge qX1_isFree_7 (fun c => ?_) (fun c => ?_)
  · refine J_pushI qX1_isFree_38 ?_
    refine Jz_ret qX1_isFree_39 (by first | exact Or.inl rfl | exact Or.inr rfl | assumption) ?_
    have e : k = cs.length := by omega
    subst e
    exact ⟨rfl, b2i_t (decide_eq_true hinv)⟩
  · obtain ⟨e1, e2, -⟩ := hk k c
    refine J_aload_n (i := 0) qX1_isFree_10 rfl rfl ?_
    refine J_getR qX1_isFree_11 fX1_9 (by assumption) (by assumption) ?_
    refine J_iload_n (i := 3) qX1_isFree_14 rfl rfl ?_
    refine J_iald qX1_isFree_15 (by assumption) rfl (by omega) ?_
    refine J_iload_n (i := 2) qX1_isFree_16 rfl rfl ?_
    rw [e1]
    have next : ¬ ((cg cs k).1 ≤ hi ∧ lo ≤ (cg cs k).2.1) → J mX1_isFree (d) (0, 0) s0 (Ki G (fun r μ' => μ = μ' ∧ r = b2i (freeB cs lo hi))) (0, 0) 32 [.ref b, .int lo, .int hi, .int (nI k)] [] (G, μ) := by
      intro hno
      refine J_inc3 qX1_isFree_32 (Nat.le_of_ble_eq_true rfl) (by first | exact nI_inc _ | exact nI_dec _ | rfl) rfl ?_
      refine J_goto qX1_isFree_35 ?_
      exact ih c (fun j hj => by
        rcases Nat.lt_succ_iff_lt_or_eq.mp hj with h | h
        · exact hinv j h
        · rw [h]; exact hno)
    first | with_reducible refine J_icmp_gt_n qX1_isFree_17 (by omega) (by omega) (fun c1 => ?_) (fun c1 => ?_) | refine J_icmp_gt qX1_isFree_17 (fun c1 => ?_) (fun c1 => ?_)
    · exact next (fun q => absurd q.1 (Int32.not_le.mpr c1))
    · refine J_iload_n (i := 1) qX1_isFree_20 rfl rfl ?_
      refine J_aload_n (i := 0) qX1_isFree_21 rfl rfl ?_
      refine J_getR qX1_isFree_22 fX1_15 (by assumption) (by assumption) ?_
      refine J_iload_n (i := 3) qX1_isFree_25 rfl rfl ?_
      refine J_iald qX1_isFree_26 (by assumption) rfl (by omega) ?_
      rw [e2]
      first | with_reducible refine J_icmp_gt_n qX1_isFree_27 (by omega) (by omega) (fun c2 => ?_) (fun c2 => ?_) | refine J_icmp_gt qX1_isFree_27 (fun c2 => ?_) (fun c2 => ?_)
      · exact next (fun q => absurd q.2 (Int32.not_le.mpr c2))
      · refine J_pushI qX1_isFree_30 ?_
        refine Jz_ret qX1_isFree_31 (by first | exact Or.inl rfl | exact Or.inr rfl | assumption) ?_
        exact ⟨rfl, b2i_f (decide_eq_false (fun q => q k c ⟨i32_nlt c1, i32_nlt c2⟩))⟩
theorem p_ownerOf (hP : IsP G b) (hc : AbC μ b cs) (x : Int32) : Si mX1_ownerOf (d) [.ref b, .int x] G μ (fun r μ' => μ = μ' ∧ r = ownF cs x) := by
  obtain ⟨hO, ⟨r0, r1, r2, r3⟩, -, ⟨a1, a2, a3, a4⟩, -⟩ := hP
  obtain ⟨hn, h12, hk⟩ := hc
  refine Si_of (ls := [.ref b, .int x, .null]) (by decide +kernel) (Nat.le_of_ble_eq_true rfl) rfl ?_
  refine J_pushI qX1_ownerOf_0 ?_
  refine J_ist2 qX1_ownerOf_1 (Nat.le_of_ble_eq_true rfl) rfl ?_
  refine ind_up (n := cs.length) (P := fun k => ownF cs x = ownA cs x (cs.length - k) k → J mX1_ownerOf (d) (0, 0) s0 (Ki G (fun r μ' => μ = μ' ∧ r = ownF cs x)) (0, 0) 2 [.ref b, .int x, .int (nI k)] [] (G, μ)) (fun k hkn ih hinv => ?_) 0 (by omega) rfl
  refine J_iload_n (i := 2) qX1_ownerOf_2 rfl rfl ?_
  refine J_aload_n (i := 0) qX1_ownerOf_3 rfl rfl ?_
  first | refine J_getIe qX1_ownerOf_4 fX1_24 (by assumption) (by assumption) ?_ | refine J_getI qX1_ownerOf_4 fX1_24 (by assumption) ?_
  first | with_reducible refine J_icmp_ge_n qX1_ownerOf_7 (by omega) (by omega) (fun c => ?_) (fun c => ?_) | refine J_icmp_ge qX1_ownerOf_7 (fun c => ?_) (fun c => ?_)
  · refine J_pushI qX1_ownerOf_38 ?_
    refine Ji_ret qX1_ownerOf_39 ?_
    refine ⟨rfl, ?_⟩
    rw [hinv, show cs.length - k = 0 by omega]
    rfl
  · obtain ⟨e1, e2, -⟩ := hk k c
    rw [show cs.length - k = (cs.length - (k + 1)) + 1 by omega] at hinv
    unfold ownA at hinv
    refine J_aload_n (i := 0) qX1_ownerOf_10 rfl rfl ?_
    refine J_getR qX1_ownerOf_11 fX1_9 (by assumption) (by assumption) ?_
    refine J_iload_n (i := 2) qX1_ownerOf_14 rfl rfl ?_
    refine J_iald qX1_ownerOf_15 (by assumption) rfl (by omega) ?_
    refine J_iload_n (i := 1) qX1_ownerOf_16 rfl rfl ?_
    rw [e1]
    have next : ¬ ((cg cs k).1 ≤ x ∧ x ≤ (cg cs k).2.1) → J mX1_ownerOf (d) (0, 0) s0 (Ki G (fun r μ' => μ = μ' ∧ r = ownF cs x)) (0, 0) 32 [.ref b, .int x, .int (nI k)] [] (G, μ) := by
      intro hno
      refine J_inc2 qX1_ownerOf_32 (Nat.le_of_ble_eq_true rfl) (by first | exact nI_inc _ | exact nI_dec _ | rfl) rfl ?_
      refine J_goto qX1_ownerOf_35 ?_
      exact ih c (by rw [hinv, if_neg hno])
    first | with_reducible refine J_icmp_gt_n qX1_ownerOf_17 (by omega) (by omega) (fun c1 => ?_) (fun c1 => ?_) | refine J_icmp_gt qX1_ownerOf_17 (fun c1 => ?_) (fun c1 => ?_)
    · exact next (fun q => absurd q.1 (Int32.not_le.mpr c1))
    · refine J_iload_n (i := 1) qX1_ownerOf_20 rfl rfl ?_
      refine J_aload_n (i := 0) qX1_ownerOf_21 rfl rfl ?_
      refine J_getR qX1_ownerOf_22 fX1_15 (by assumption) (by assumption) ?_
      refine J_iload_n (i := 2) qX1_ownerOf_25 rfl rfl ?_
      refine J_iald qX1_ownerOf_26 (by assumption) rfl (by omega) ?_
      rw [e2]
      first | with_reducible refine J_icmp_gt_n qX1_ownerOf_27 (by omega) (by omega) (fun c2 => ?_) (fun c2 => ?_) | refine J_icmp_gt qX1_ownerOf_27 (fun c2 => ?_) (fun c2 => ?_)
      · exact next (fun q => absurd q.2 (Int32.not_le.mpr c2))
      · refine J_iload_n (i := 2) qX1_ownerOf_30 rfl rfl ?_
        refine Ji_ret qX1_ownerOf_31 ?_
        exact ⟨rfl, by rw [hinv, if_pos ⟨i32_nlt c1, i32_nlt c2⟩]⟩
end PR
