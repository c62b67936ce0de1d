/-! READER: a text as a list; its tokens -/
def bt (T : List Int32) (k : Nat) : Int32 := T.getD k 0
def isLet (T : List Int32) (p : Nat) : Bool := decide (p < T.length ∧ nI 97 ≤ bt T p ∧ bt T p ≤ nI 122)
def isFig (T : List Int32) (p : Nat) : Bool := decide (p < T.length ∧ nI 48 ≤ bt T p ∧ bt T p ≤ nI 57)
def isBlk (T : List Int32) (p : Nat) : Bool := decide (p < T.length ∧ bt T p = nI 32)
/-- from p on as long as f holds -/
def runF (f : Nat → Bool) : Nat → Nat → Nat
  | 0, p => p
  | m + 1, p => if f p then runF f m (p + 1) else p
theorem runF_succ (f : Nat → Bool) (m p : Nat) : runF f (m + 1) p = if f p then runF f m (p + 1) else p := rfl
def overF (T : List Int32) (f : List Int32 → Nat → Bool) (p : Nat) : Nat := runF (f T) (T.length + 1 - p) p
theorem over_no {T : List Int32} {f : List Int32 → Nat → Bool} {p : Nat} (h : f T p = false) : overF T f p = p := by
  unfold overF
  cases T.length + 1 - p with
  | zero => rfl
  | succ m => rw [runF_succ, h]; rfl
theorem over_yes {T : List Int32} {f : List Int32 → Nat → Bool} {p : Nat} (hp : p ≤ T.length) (h : f T p = true) : overF T f p = overF T f (p + 1) := by
  unfold overF
  rw [show T.length + 1 - p = (T.length + 1 - (p + 1)) + 1 by omega, runF_succ, h]
  rfl
theorem runF_ge (f : Nat → Bool) : ∀ m p, p ≤ runF f m p
  | 0, p => Nat.le_refl p
  | m + 1, p => by
    rw [runF_succ]
    split
    · exact Nat.le_trans (Nat.le_succ p) (runF_ge f m (p + 1))
    · exact Nat.le_refl p
theorem over_ge (T : List Int32) (f : List Int32 → Nat → Bool) (p : Nat) : p ≤ overF T f p := runF_ge _ _ _
theorem runF_le {f : Nat → Bool} {n : Nat} (hf : ∀ p, f p = true → p < n) : ∀ m p, p ≤ n → runF f m p ≤ n
  | 0, p, h => h
  | m + 1, p, h => by
    rw [runF_succ]
    by_cases c : f p = true
    · rw [if_pos c]; exact runF_le hf m (p + 1) (hf p c)
    · rw [if_neg c]; exact h
theorem let_lt {T : List Int32} (p : Nat) (h : isLet T p = true) : p < T.length := (of_decide_eq_true h).1
theorem fig_lt {T : List Int32} (p : Nat) (h : isFig T p = true) : p < T.length := (of_decide_eq_true h).1
theorem blk_lt {T : List Int32} (p : Nat) (h : isBlk T p = true) : p < T.length := (of_decide_eq_true h).1
/-- the next token from p on: where it begins -/
def tkS (T : List Int32) (p : Nat) : Nat := overF T isBlk p
def negB (T : List Int32) (s : Nat) : Bool := decide (bt T s = nI 45)
def figA (T : List Int32) (s : Nat) : Nat := if negB T s then s + 1 else s
def figE (T : List Int32) (s : Nat) : Nat := overF T isFig (figA T s)
/-- what it is: 0 end, 1 word, 2 number, 3 ; 4 none -/
def kdA (T : List Int32) (s : Nat) : Nat :=
  if T.length ≤ s then 0 else if isLet T s then 1 else if negB T s || isFig T s then (if figA T s < figE T s then 2 else 4) else if bt T s = nI 59 then 3 else 4
def enA2 (T : List Int32) (s : Nat) : Nat :=
  if T.length ≤ s then s else if isLet T s then overF T isLet s else if negB T s || isFig T s then figE T s else s + 1
def tkK (T : List Int32) (p : Nat) : Nat := kdA T (tkS T p)
def tkE (T : List Int32) (p : Nat) : Nat := enA2 T (tkS T p)
def dgt (T : List Int32) (k : Nat) : Nat := (bt T k).toInt.toNat - 48
/-- the number that m figures from a on tell -/
def vN (T : List Int32) (a : Nat) : Nat → Nat
  | 0 => 0
  | m + 1 => 10 * vN T a m + dgt T (a + m)
theorem vN_succ (T : List Int32) (a m : Nat) : vN T a (m + 1) = 10 * vN T a m + dgt T (a + m) := rfl
def magF (T : List Int32) (s : Nat) : Nat := vN T (figA T s) (figE T s - figA T s)
def tkV (T : List Int32) (p : Nat) : Int := if negB T (tkS T p) then -(magF T (tkS T p) : Int) else (magF T (tkS T p) : Int)
theorem en_le {T : List Int32} {s : Nat} (h : s ≤ T.length) : s ≤ enA2 T s ∧ enA2 T s ≤ T.length := by
  unfold enA2
  by_cases c0 : T.length ≤ s
  · rw [if_pos c0]; omega
  · rw [if_neg c0]
    by_cases c1 : isLet T s = true
    · rw [if_pos c1]; exact ⟨over_ge _ _ _, runF_le let_lt _ _ h⟩
    · rw [if_neg c1]
      by_cases c2 : (negB T s || isFig T s) = true
      · rw [if_pos c2]
        unfold figE figA
        by_cases c3 : negB T s = true
        · rw [if_pos c3]
          exact ⟨Nat.le_trans (Nat.le_succ s) (over_ge _ _ _), runF_le fig_lt _ _ (by omega)⟩
        · rw [if_neg c3]
          exact ⟨over_ge _ _ _, runF_le fig_lt _ _ h⟩
      · rw [if_neg c2]; omega
theorem tkS_le {T : List Int32} {p : Nat} (h : p ≤ T.length) : p ≤ tkS T p ∧ tkS T p ≤ T.length := ⟨over_ge _ _ _, runF_le blk_lt _ _ h⟩
theorem tkE_le {T : List Int32} {p : Nat} (h : p ≤ T.length) : tkS T p ≤ tkE T p ∧ tkE T p ≤ T.length := en_le (tkS_le h).2
/-! the Reader's cells -/
def IsRd (G : Gm) (q : Nat) : Prop := IsO G q 2 ∧ RF G q 0 (q + 1) ∧ IsA G (q + 1) 10 120
def AbR (μ : Mm) (q : Nat) (T : List Int32) (p : Nat) : Prop := μ.1 q 1 = nI T.length ∧ T.length ≤ 120 ∧ μ.1 q 2 = nI p ∧ p ≤ T.length ∧ ∀ k, k < T.length → μ.1 (q + 1) k = bt T k
/-- nothing but the Reader's own slots has changed -/
def FrR (q : Nat) (μ μ' : Mm) : Prop := (∀ c k, ¬ (c = q ∧ 2 ≤ k ∧ k ≤ 4) → μ'.1 c k = μ.1 c k) ∧ ∀ c k, ¬ (c = q ∧ k = 5) → μ'.2 c k = μ.2 c k
theorem FrR.rf {q : Nat} {μ : Mm} : FrR q μ μ := ⟨fun _ _ _ => rfl, fun _ _ _ => rfl⟩
theorem FrR.tr {q : Nat} {μ μ1 μ2 : Mm} (h1 : FrR q μ μ1) (h2 : FrR q μ1 μ2) : FrR q μ μ2 := ⟨fun c k h => (h2.1 c k h).trans (h1.1 c k h), fun c k h => (h2.2 c k h).trans (h1.2 c k h)⟩
theorem FrR.w {q k : Nat} {μ μ1 : Mm} {v : Int32} (h1 : FrR q μ μ1) (h : 2 ≤ k ∧ k ≤ 4) : FrR q μ (wI μ1 q k v) := ⟨fun c j z => (wI_n (fun y => z ⟨y.1, by rw [y.2]; exact h⟩)).trans (h1.1 c j z), h1.2⟩
theorem FrR.l {q : Nat} {μ μ1 : Mm} {v : Int64} (h1 : FrR q μ μ1) : FrR q μ (wL μ1 q 5 v) := ⟨h1.1, fun c j z => (wL_n z).trans (h1.2 c j z)⟩
theorem AbR.place {μ ν : Mm} {q p p' : Nat} {T : List Int32} (h : AbR μ q T p) (hF : FrR q μ ν) (h2 : ν.1 q 2 = nI p') (hp : p' ≤ T.length) : AbR ν q T p' :=
  ⟨(hF.1 _ _ (by omega)).trans h.1, h.2.1, h2, hp, fun k hk => (hF.1 _ _ (by omega)).trans (h.2.2.2.2 k hk)⟩
section RD
variable {G : Gm} {μ : Mm} {q d p : Nat} {T : List Int32}
theorem r_word (hR : IsRd G q) (h : AbR μ q T p) : Sv mX2_stepOverWord (d) [.ref q] G μ (fun μ' => AbR μ' q T (overF T isLet p) ∧ μ'.1 q 3 = nI 1 ∧ μ'.1 q 4 = μ.1 q 4 ∧ FrR q μ μ') := by
  obtain ⟨hO, r0, a1⟩ := hR
  refine Sv_of (ls := [.ref q]) (by decide +kernel) (Nat.le_of_ble_eq_true rfl) rfl ?_
  refine J_aload_n (i := 0) qX2_stepOverWord_0 rfl rfl ?_
  refine J_pushI qX2_stepOverWord_1 ?_
  refine J_putI qX2_stepOverWord_2 fX2_22p (by assumption) rfl rfl ?_
  have H : ∀ k, k ≤ T.length → ∀ ν : Mm, FrR q μ ν → AbR ν q T k → ν.1 q 3 = nI 1 → ν.1 q 4 = μ.1 q 4 → overF T isLet p = overF T isLet k → J mX2_stepOverWord (d) (0, 0) s0 (Kv G (fun μ' => AbR μ' q T (overF T isLet p) ∧ μ'.1 q 3 = nI 1 ∧ μ'.1 q 4 = μ.1 q 4 ∧ FrR q μ μ')) (0, 0) 5 [.ref q] [] (G, ν) := by
    refine ind_up (fun k hk ih ν hF hA h3 h4 hE => ?_)
    obtain ⟨s1, s2, s3, s4, s5⟩ := id hA
    have stop : isLet T k = false → J mX2_stepOverWord (d) (0, 0) s0 (Kv G (fun μ' => AbR μ' q T (overF T isLet p) ∧ μ'.1 q 3 = nI 1 ∧ μ'.1 q 4 = μ.1 q 4 ∧ FrR q μ μ')) (0, 0) 57 [.ref q] [] (G, ν) := fun hno => by
      refine Jv_ret qX2_stepOverWord_57 ?_
      rw [hE, over_no hno]
      exact ⟨hA, h3, h4, hF⟩
    refine J_aload_n (i := 0) qX2_stepOverWord_5 rfl rfl ?_
    refine J_getIe qX2_stepOverWord_6 fX2_19 (by assumption) (by (repeat first | with_reducible exact wI_e _ _ _ _ | (with_reducible apply rd_s; focus omega) | (with_reducible apply rd_c; focus omega) | (with_reducible apply rd_k; focus omega) | with_reducible exact rd_e (by omega)); first | done | assumption | rfl) ?_
    refine J_aload_n (i := 0) qX2_stepOverWord_9 rfl rfl ?_
    refine J_getIe qX2_stepOverWord_10 fX2_15 (by assumption) (by (repeat first | with_reducible exact wI_e _ _ _ _ | (with_reducible apply rd_s; focus omega) | (with_reducible apply rd_c; focus omega) | (with_reducible apply rd_k; focus omega) | with_reducible exact rd_e (by omega)); first | done | assumption | rfl) ?_
    first | with_reducible refine J_icmp_ge_n qX2_stepOverWord_13 (by omega) (by omega) (fun c1 => ?_) (fun c1 => ?_) | refine J_icmp_ge qX2_stepOverWord_13 (fun c1 => ?_) (fun c1 => ?_)
    · exact stop (decide_eq_false (fun z => by omega))
    · have e := s5 k c1
      refine J_aload_n (i := 0) qX2_stepOverWord_16 rfl rfl ?_
      refine J_getR qX2_stepOverWord_17 fX2_9 (by assumption) (by assumption) ?_
      refine J_aload_n (i := 0) qX2_stepOverWord_20 rfl rfl ?_
      refine J_getIe qX2_stepOverWord_21 fX2_19 (by assumption) (by (repeat first | with_reducible exact wI_e _ _ _ _ | (with_reducible apply rd_s; focus omega) | (with_reducible apply rd_c; focus omega) | (with_reducible apply rd_k; focus omega) | with_reducible exact rd_e (by omega)); first | done | assumption | rfl) ?_
      refine J_ialde qX2_stepOverWord_24 (by assumption) rfl (by omega) (by (repeat first | with_reducible exact wI_e _ _ _ _ | (with_reducible apply rd_s; focus omega) | (with_reducible apply rd_c; focus omega) | (with_reducible apply rd_k; focus omega) | with_reducible exact rd_e (by omega)); first | done | assumption | rfl) ?_
      refine J_pushI qX2_stepOverWord_25 ?_
      first | with_reducible refine J_icmp_lt_n qX2_stepOverWord_27 (by omega) (by omega) (fun c2 => ?_) (fun c2 => ?_) | refine J_icmp_lt qX2_stepOverWord_27 (fun c2 => ?_) (fun c2 => ?_)
      · exact stop (decide_eq_false (fun z => absurd z.2.1 (Int32.not_le.mpr c2)))
      · refine J_aload_n (i := 0) qX2_stepOverWord_30 rfl rfl ?_
        refine J_getR qX2_stepOverWord_31 fX2_9 (by assumption) (by assumption) ?_
        refine J_aload_n (i := 0) qX2_stepOverWord_34 rfl rfl ?_
        refine J_getIe qX2_stepOverWord_35 fX2_19 (by assumption) (by (repeat first | with_reducible exact wI_e _ _ _ _ | (with_reducible apply rd_s; focus omega) | (with_reducible apply rd_c; focus omega) | (with_reducible apply rd_k; focus omega) | with_reducible exact rd_e (by omega)); first | done | assumption | rfl) ?_
        refine J_ialde qX2_stepOverWord_38 (by assumption) rfl (by omega) (by (repeat first | with_reducible exact wI_e _ _ _ _ | (with_reducible apply rd_s; focus omega) | (with_reducible apply rd_c; focus omega) | (with_reducible apply rd_k; focus omega) | with_reducible exact rd_e (by omega)); first | done | assumption | rfl) ?_
        refine J_pushI qX2_stepOverWord_39 ?_
        first | with_reducible refine J_icmp_gt_n qX2_stepOverWord_41 (by omega) (by omega) (fun c3 => ?_) (fun c3 => ?_) | refine J_icmp_gt qX2_stepOverWord_41 (fun c3 => ?_) (fun c3 => ?_)
        · exact stop (decide_eq_false (fun z => absurd z.2.2 (Int32.not_le.mpr c3)))
        · refine J_aload_n (i := 0) qX2_stepOverWord_44 rfl rfl ?_
          refine J_dup qX2_stepOverWord_45 rfl ?_
          refine J_getIe qX2_stepOverWord_46 fX2_19 (by assumption) (by (repeat first | with_reducible exact wI_e _ _ _ _ | (with_reducible apply rd_s; focus omega) | (with_reducible apply rd_c; focus omega) | (with_reducible apply rd_k; focus omega) | with_reducible exact rd_e (by omega)); first | done | assumption | rfl) ?_
          refine J_pushI qX2_stepOverWord_49 ?_
          first | with_reducible refine J_iadd_n qX2_stepOverWord_50 ?_ | refine J_iadd qX2_stepOverWord_50 ?_
          refine J_putI qX2_stepOverWord_51 fX2_19p (by assumption) rfl rfl ?_
          refine J_goto qX2_stepOverWord_54 ?_
          have hy : isLet T k = true := decide_eq_true ⟨c1, i32_nlt c2, i32_nlt c3⟩
          exact ih c1 _ (hF.w (by omega)) (hA.place (FrR.rf.w (by omega)) (wI_e _ _ _ _) c1) (by rw [wI_n (by omega)]; exact h3) (by rw [wI_n (by omega)]; exact h4) (by rw [hE, over_yes hk hy])
  refine H p h.2.2.2.1 _ (FrR.rf.w (by omega)) (h.place (FrR.rf.w (by omega)) ?_ h.2.2.2.1) (wI_e _ _ _ _) (wI_n (by omega)) rfl
  rw [wI_n (by omega)]
  exact h.2.2.1
end RD
