/-! PLAN: what it tells -/
/-- PARTS one behind the other, from CASE i to CASE j, none of them cut -/
def Seg (cs : List Cs) (rw mk : Bool) (l : List (Nat × Nat × Nat)) (i j dp : Nat) : Prop := 1 ≤ l.length ∧ (pg l 0).1 = i ∧ (pg l (l.length - 1)).2.1 = j ∧ (∀ e, e + 1 < l.length → (pg l (e + 1)).1 = (pg l e).2.1 + 1) ∧ ∀ e, e < l.length → i ≤ (pg l e).1 ∧ (pg l e).1 ≤ (pg l e).2.1 ∧ (pg l e).2.1 ≤ j ∧ (pcF cs rw mk (pg l e).1 (pg l e).2.1).2 = none ∧ (pg l e).2.2 ≤ dp + (j - i)
theorem LF_seg (cs : List Cs) (rw mk : Bool) : ∀ f i j dp, i ≤ j → j < 12 → j - i < f → Seg cs rw mk (LF cs rw mk f i j dp) i j dp
  | 0, _, _, _, _, _, h => absurd h (Nat.not_lt_zero _)
  | f + 1, i, j, dp, hij, hj, h1 => by
    cases h : (pcF cs rw mk i j).2 with
    | none =>
      rw [LF_none h]
      refine ⟨Nat.le_refl _, rfl, rfl, fun e he => absurd he (by simp), fun e he => ?_⟩
      have e1 : e = 0 := by simp at he; omega
      subst e1
      exact ⟨Nat.le_refl _, hij, Nat.le_refl _, h, Nat.le_add_right _ _⟩
    | some m =>
      have hm := cut_at hj h
      obtain ⟨a1, a2, a3, a4, a5⟩ := LF_seg cs rw mk f i m (dp + 1) (by omega) (by omega) (by omega)
      obtain ⟨b1, b2, b3, b4, b5⟩ := LF_seg cs rw mk f (m + 1) j (dp + 1) (by omega) hj (by omega)
      rw [LF_some h]
      generalize LF cs rw mk f i m (dp + 1) = l1 at *
      generalize LF cs rw mk f (m + 1) j (dp + 1) = l2 at *
      refine ⟨by rw [List.length_append]; omega, ?_, ?_, fun e he => ?_, fun e he => ?_⟩
      · rw [pg_l (by omega)]; exact a2
      · rw [List.length_append, pg_r (by omega), show l1.length + l2.length - 1 - l1.length = l2.length - 1 by omega]; exact b3
      · rw [List.length_append] at he
        by_cases q : e + 1 < l1.length
        · rw [pg_l q, pg_l (by omega)]; exact a4 e q
        · by_cases q2 : e < l1.length
          · rw [pg_l q2, pg_r (by omega), show e + 1 - l1.length = 0 by omega, b2, show e = l1.length - 1 by omega, a3]
          · rw [pg_r (by omega), pg_r (by omega), show e + 1 - l1.length = (e - l1.length) + 1 by omega]
            exact b4 _ (by omega)
      · rw [List.length_append] at he
        by_cases q : e < l1.length
        · rw [pg_l q]
          obtain ⟨c1, c2, c3, c4, c5⟩ := a5 e q
          exact ⟨c1, c2, by omega, c4, by omega⟩
        · rw [pg_r (by omega)]
          obtain ⟨c1, c2, c3, c4, c5⟩ := b5 (e - l1.length) (by omega)
          exact ⟨by omega, c2, c3, c4, by omega⟩
theorem prt_seg {cs : List Cs} (rw mk : Bool) (h12 : cs.length ≤ 12) (h0 : 0 < cs.length) : Seg cs rw mk (prtF cs rw mk) 0 (cs.length - 1) 0 := by
  unfold prtF
  rw [if_neg (by omega)]
  exact LF_seg cs rw mk 12 0 (cs.length - 1) 0 (by omega) (by omega) (by omega)
theorem prt_len {cs : List Cs} (rw mk : Bool) (h12 : cs.length ≤ 12) : (prtF cs rw mk).length ≤ cs.length := by
  unfold prtF
  by_cases h : cs.length = 0
  · rw [if_pos h]; exact Nat.zero_le _
  · rw [if_neg h]
    have := (LF_len cs rw mk 12 0 (cs.length - 1) 0 (by omega) (by omega) (by omega)).2
    omega
/-- what is known of PART k -/
theorem prt_at {cs : List Cs} {rw mk : Bool} (h12 : cs.length ≤ 12) {k : Nat} (hk : k < (prtF cs rw mk).length) : (pg (prtF cs rw mk) k).1 ≤ (pg (prtF cs rw mk) k).2.1 ∧ (pg (prtF cs rw mk) k).2.1 < cs.length ∧ (pcF cs rw mk (pg (prtF cs rw mk) k).1 (pg (prtF cs rw mk) k).2.1).2 = none ∧ (pg (prtF cs rw mk) k).2.2 ≤ 11 := by
  have hl := prt_len (cs := cs) rw mk h12
  obtain ⟨-, -, -, -, h⟩ := prt_seg (cs := cs) rw mk h12 (by omega)
  obtain ⟨c1, c2, c3, c4, c5⟩ := h k hk
  exact ⟨c2, by omega, c4, by omega⟩
def psF (cs : List Cs) (rw mk : Bool) (k : Nat) : Nat := sortF cs rw mk (pg (prtF cs rw mk) k).1 (pg (prtF cs rw mk) k).2.1
def ptF (cs : List Cs) (rw mk : Bool) (k : Nat) : Nat := stepF cs rw mk (pg (prtF cs rw mk) k).1 (pg (prtF cs rw mk) k).2.1
def cntF (cs : List Cs) (rw mk : Bool) (s : Nat) : Nat → Nat
  | 0 => 0
  | n + 1 => cntF cs rw mk s n + (if psF cs rw mk n = s then 1 else 0)
theorem cntF_succ (cs : List Cs) (rw mk : Bool) (s n : Nat) : cntF cs rw mk s (n + 1) = cntF cs rw mk s n + (if psF cs rw mk n = s then 1 else 0) := rfl
def bigF (x : Int64) : Int32 := if lN 2147483647 < x then -1 else x.toInt32
def vpF (cs : List Cs) (rw mk : Bool) (k what : Nat) : Int32 := match what with
  | 0 => nI (psF cs rw mk k)
  | 1 => nI (pg (prtF cs rw mk) k).1
  | 2 => nI (pg (prtF cs rw mk) k).2.1
  | 3 => nI (pg (prtF cs rw mk) k).2.2
  | 4 => nI (ptF cs rw mk k)
  | _ => bigF (spanF cs (pg (prtF cs rw mk) k).1 (pg (prtF cs rw mk) k).2.1)
/-- the PART that looks at x, from PART k on -/
def lookF (cs : List Cs) (rw mk : Bool) (x : Int32) : Nat → Nat → Nat
  | 0, k => k
  | f + 1, k => if x < (cg cs (pg (prtF cs rw mk) (k + 1)).1).1 then k else lookF cs rw mk x f (k + 1)
theorem lookF_succ (cs : List Cs) (rw mk : Bool) (x : Int32) (f k : Nat) : lookF cs rw mk x (f + 1) k = if x < (cg cs (pg (prtF cs rw mk) (k + 1)).1).1 then k else lookF cs rw mk x f (k + 1) := rfl
def sameB (c1 c2 : List Cs) (rw mk : Bool) : Bool := decide ((prtF c1 rw mk).length = (prtF c2 rw mk).length ∧ ∀ k, k < (prtF c1 rw mk).length → (pg (prtF c1 rw mk) k).1 = (pg (prtF c2 rw mk) k).1 ∧ (pg (prtF c1 rw mk) k).2.1 = (pg (prtF c2 rw mk) k).2.1 ∧ psF c1 rw mk k = psF c2 rw mk k)
theorem sort_le (cs : List Cs) (rw mk : Bool) (i j : Nat) : sortF cs rw mk i j ≤ 4 := by
  unfold sortF
  split
  · split <;> omega
  · split
    · split <;> omega
    · split <;> omega
section PL
variable {G : Gm} {μ : Mm} {p b d : Nat} {cs : List Cs} {rw mk : Bool}
theorem l_has (hL : IsPl G p) (ha : AbPl μ p cs rw mk) (h12 : cs.length ≤ 12) (i : Int32) : Si mX0_has (d) [.ref p, .int i] G μ (fun r μ' => μ = μ' ∧ r = b2i (hasB (prtF cs rw mk).length i)) := by
  obtain ⟨hO, -⟩ := hL
  obtain ⟨-, h7, -, -⟩ := ha
  refine Si_of (ls := [.ref p, .int i]) (by decide +kernel) (Nat.le_of_ble_eq_true rfl) rfl ?_
  refine J_iload_n (i := 1) qX0_has_0 rfl rfl ?_
  first | with_reducible refine J_if_lt_n qX0_has_1 (by omega) ?_ | refine J_if_lt qX0_has_1 (fun c => ?_) (fun c => ?_)
  · refine J_pushI qX0_has_16 ?_
    refine Jz_ret qX0_has_17 (by first | exact Or.inl rfl | exact Or.inr rfl | assumption) ?_
    exact ⟨rfl, b2i_f (decide_eq_false (fun q => absurd q.1 (Int32.not_le.mpr c)))⟩
  · refine J_iload_n (i := 1) qX0_has_4 rfl rfl ?_
    refine J_aload_n (i := 0) qX0_has_5 rfl rfl ?_
    refine J_getIe qX0_has_6 fX0_35 (by assumption) (by (repeat first | with_reducible exact wI_e _ _ _ _ | (with_reducible apply rd_s; focus omega) | (with_reducible apply rd_c; focus omega) | (with_reducible apply rd_k; focus omega) | with_reducible exact rd_e (by omega)); first | done | assumption | rfl) ?_
    first | with_reducible refine J_icmp_ge_n qX0_has_9 (by omega) (by omega) (fun c2 => ?_) (fun c2 => ?_) | refine J_icmp_ge qX0_has_9 (fun c2 => ?_) (fun c2 => ?_)
    · refine J_pushI qX0_has_16 ?_
      refine Jz_ret qX0_has_17 (by first | exact Or.inl rfl | exact Or.inr rfl | assumption) ?_
      exact ⟨rfl, b2i_f (decide_eq_false (fun q => absurd q.2 (Int32.not_lt.mpr c2)))⟩
    · refine J_pushI qX0_has_12 ?_
      refine J_goto qX0_has_13 ?_
      refine Jz_ret qX0_has_17 (by first | exact Or.inl rfl | exact Or.inr rfl | assumption) ?_
      exact ⟨rfl, b2i_t (decide_eq_true ⟨i32_nlt c, i32_nle c2⟩)⟩
theorem l_sortOf (hL : IsPl G p) (ha : AbPl μ p cs rw mk) (h12 : cs.length ≤ 12) {k : Nat} (hk : k < (prtF cs rw mk).length) : Si mX0_sortOf (d) [.ref p, .int (nI k)] G μ (fun r μ' => μ = μ' ∧ r = nI (psF cs rw mk k)) := by
  obtain ⟨hO, ⟨r0, r1, r2, r3, r4, r5, r6⟩, ⟨a1, a2, a3, a4, a5, a6, a7⟩, hg⟩ := hL
  obtain ⟨hT, h7, h8, hA⟩ := ha
  obtain ⟨f1, f2, f3, f4⟩ := prt_at h12 hk
  have hl := prt_len (cs := cs) rw mk h12
  have e := hA k hk
  rw [Nat.zero_add] at e
  obtain ⟨e1, e2, e3⟩ := e
  obtain ⟨⟨s1, s2⟩, -, -, -⟩ := hg (pg (prtF cs rw mk) k).1 (by omega)
  have e4 := (hT _ _ f1 f2).1
  refine Si_of (ls := [.ref p, .int (nI k)]) (by decide +kernel) (Nat.le_of_ble_eq_true rfl) rfl ?_
  refine J_aload_n (i := 0) qX0_sortOf_0 rfl rfl ?_
  refine J_getR qX0_sortOf_1 fX0_11 (by assumption) (by assumption) ?_
  refine J_aload_n (i := 0) qX0_sortOf_4 rfl rfl ?_
  refine J_getR qX0_sortOf_5 fX0_25 (by assumption) (by assumption) ?_
  refine J_iload_n (i := 1) qX0_sortOf_8 rfl rfl ?_
  refine J_ialde qX0_sortOf_9 (by assumption) rfl (by omega) (by (repeat first | with_reducible exact wI_e _ _ _ _ | (with_reducible apply rd_s; focus omega) | (with_reducible apply rd_c; focus omega) | (with_reducible apply rd_k; focus omega) | with_reducible exact rd_e (by omega)); first | done | assumption | rfl) ?_
  refine J_aald qX0_sortOf_10 (by assumption) (by decide) (by decide) rfl (by omega) (by first | assumption | exact (by assumption : ∀ _, _) _ (by omega)) ?_
  refine J_aload_n (i := 0) qX0_sortOf_11 rfl rfl ?_
  refine J_getR qX0_sortOf_12 fX0_29 (by assumption) (by assumption) ?_
  refine J_iload_n (i := 1) qX0_sortOf_15 rfl rfl ?_
  refine J_ialde qX0_sortOf_16 (by assumption) rfl (by omega) (by (repeat first | with_reducible exact wI_e _ _ _ _ | (with_reducible apply rd_s; focus omega) | (with_reducible apply rd_c; focus omega) | (with_reducible apply rd_k; focus omega) | with_reducible exact rd_e (by omega)); first | done | assumption | rfl) ?_
  refine J_ialde qX0_sortOf_17 (by assumption) rfl (by omega) (by (repeat first | with_reducible exact wI_e _ _ _ _ | (with_reducible apply rd_s; focus omega) | (with_reducible apply rd_c; focus omega) | (with_reducible apply rd_k; focus omega) | with_reducible exact rd_e (by omega)); first | done | assumption | rfl) ?_
  refine Ji_ret qX0_sortOf_18 ?_
  exact ⟨rfl, rfl⟩
theorem l_stepsOf (hL : IsPl G p) (ha : AbPl μ p cs rw mk) (h12 : cs.length ≤ 12) {k : Nat} (hk : k < (prtF cs rw mk).length) : Si mX0_stepsOf (d) [.ref p, .int (nI k)] G μ (fun r μ' => μ = μ' ∧ r = nI (ptF cs rw mk k)) := by
  obtain ⟨hO, ⟨r0, r1, r2, r3, r4, r5, r6⟩, ⟨a1, a2, a3, a4, a5, a6, a7⟩, hg⟩ := hL
  obtain ⟨hT, h7, h8, hA⟩ := ha
  obtain ⟨f1, f2, f3, f4⟩ := prt_at h12 hk
  have hl := prt_len (cs := cs) rw mk h12
  have e := hA k hk
  rw [Nat.zero_add] at e
  obtain ⟨e1, e2, e3⟩ := e
  obtain ⟨-, ⟨s1, s2⟩, -, -⟩ := hg (pg (prtF cs rw mk) k).1 (by omega)
  have e4 := (hT _ _ f1 f2).2.1
  refine Si_of (ls := [.ref p, .int (nI k)]) (by decide +kernel) (Nat.le_of_ble_eq_true rfl) rfl ?_
  refine J_aload_n (i := 0) qX0_stepsOf_0 rfl rfl ?_
  refine J_getR qX0_stepsOf_1 fX0_16 (by assumption) (by assumption) ?_
  refine J_aload_n (i := 0) qX0_stepsOf_4 rfl rfl ?_
  refine J_getR qX0_stepsOf_5 fX0_25 (by assumption) (by assumption) ?_
  refine J_iload_n (i := 1) qX0_stepsOf_8 rfl rfl ?_
  refine J_ialde qX0_stepsOf_9 (by assumption) rfl (by omega) (by (repeat first | with_reducible exact wI_e _ _ _ _ | (with_reducible apply rd_s; focus omega) | (with_reducible apply rd_c; focus omega) | (with_reducible apply rd_k; focus omega) | with_reducible exact rd_e (by omega)); first | done | assumption | rfl) ?_
  refine J_aald qX0_stepsOf_10 (by assumption) (by decide) (by decide) rfl (by omega) (by first | assumption | exact (by assumption : ∀ _, _) _ (by omega)) ?_
  refine J_aload_n (i := 0) qX0_stepsOf_11 rfl rfl ?_
  refine J_getR qX0_stepsOf_12 fX0_29 (by assumption) (by assumption) ?_
  refine J_iload_n (i := 1) qX0_stepsOf_15 rfl rfl ?_
  refine J_ialde qX0_stepsOf_16 (by assumption) rfl (by omega) (by (repeat first | with_reducible exact wI_e _ _ _ _ | (with_reducible apply rd_s; focus omega) | (with_reducible apply rd_c; focus omega) | (with_reducible apply rd_k; focus omega) | with_reducible exact rd_e (by omega)); first | done | assumption | rfl) ?_
  refine J_ialde qX0_stepsOf_17 (by assumption) rfl (by omega) (by (repeat first | with_reducible exact wI_e _ _ _ _ | (with_reducible apply rd_s; focus omega) | (with_reducible apply rd_c; focus omega) | (with_reducible apply rd_k; focus omega) | with_reducible exact rd_e (by omega)); first | done | assumption | rfl) ?_
  refine Ji_ret qX0_stepsOf_18 ?_
  exact ⟨rfl, rfl⟩
theorem l_stepsThrough (hL : IsPl G p) (ha : AbPl μ p cs rw mk) (h12 : cs.length ≤ 12) {k : Nat} (hk : k < (prtF cs rw mk).length) : Si mX0_stepsThrough (d+1) [.ref p, .int (nI k)] G μ (fun r μ' => μ = μ' ∧ r = nI ((pg (prtF cs rw mk) k).2.2 + ptF cs rw mk k)) := by
  have hL0 := hL
  have ha0 := ha
  obtain ⟨hO, ⟨r0, r1, r2, r3, r4, r5, r6⟩, ⟨a1, a2, a3, a4, a5, a6, a7⟩, hg⟩ := hL
  obtain ⟨hT, h7, h8, hA⟩ := ha
  have hl := prt_len (cs := cs) rw mk h12
  have e := hA k hk
  rw [Nat.zero_add] at e
  obtain ⟨e1, e2, e3⟩ := e
  refine Si_of (ls := [.ref p, .int (nI k)]) (by decide +kernel) (Nat.le_of_ble_eq_true rfl) rfl ?_
  refine J_aload_n (i := 0) qX0_stepsThrough_0 rfl rfl ?_
  refine J_getR qX0_stepsThrough_1 fX0_32 (by assumption) (by assumption) ?_
  refine J_iload_n (i := 1) qX0_stepsThrough_4 rfl rfl ?_
  refine J_ialde qX0_stepsThrough_5 (by assumption) rfl (by omega) (by (repeat first | with_reducible exact wI_e _ _ _ _ | (with_reducible apply rd_s; focus omega) | (with_reducible apply rd_c; focus omega) | (with_reducible apply rd_k; focus omega) | with_reducible exact rd_e (by omega)); first | done | assumption | rfl) ?_
  refine J_aload_n (i := 0) qX0_stepsThrough_6 rfl rfl ?_
  refine J_iload_n (i := 1) qX0_stepsThrough_7 rfl rfl ?_
  refine J_vi1 qX0_stepsThrough_8 kX0_83 (by assumption) (l_stepsOf hL0 ha0 h12 hk) (Nat.le_of_ble_eq_true rfl) (fun r μ' hr => ?_)
  obtain ⟨rfl, rfl⟩ := hr
  first | with_reducible refine J_iadd_n qX0_stepsThrough_11 ?_ | refine J_iadd qX0_stepsThrough_11 ?_
  refine Ji_ret qX0_stepsThrough_12 ?_
  exact ⟨rfl, rfl⟩
theorem l_partsOf (hL : IsPl G p) (ha : AbPl μ p cs rw mk) (h12 : cs.length ≤ 12) (s : Nat) (hs : s ≤ 4) : Si mX0_partsOf (d+1) [.ref p, .int (nI s)] G μ (fun r μ' => μ = μ' ∧ r = nI (cntF cs rw mk s (prtF cs rw mk).length)) := by
  have hL0 := hL
  have ha0 := ha
  obtain ⟨hO, -⟩ := hL
  obtain ⟨hT, h7, h8, hA⟩ := ha
  have hl := prt_len (cs := cs) rw mk h12
  refine Si_of (ls := [.ref p, .int (nI s), .null, .null]) (by decide +kernel) (Nat.le_of_ble_eq_true rfl) rfl ?_
  refine J_pushI qX0_partsOf_0 ?_
  refine J_ist2 qX0_partsOf_1 (Nat.le_of_ble_eq_true rfl) rfl ?_
  refine J_pushI qX0_partsOf_2 ?_
  refine J_ist3 qX0_partsOf_3 (Nat.le_of_ble_eq_true rfl) rfl ?_
  refine ind_up (n := (prtF cs rw mk).length) (P := fun k => J mX0_partsOf (d+1) (0, 0) s0 (Ki G (fun r μ' => μ = μ' ∧ r = nI (cntF cs rw mk s (prtF cs rw mk).length))) (0, 0) 4 [.ref p, .int (nI s), .int (nI (cntF cs rw mk s k)), .int (nI k)] [] (G, μ)) (fun k hk ih => ?_) 0 (Nat.zero_le _)
  refine J_iload_n (i := 3) qX0_partsOf_4 rfl rfl ?_
  refine J_aload_n (i := 0) qX0_partsOf_5 rfl rfl ?_
  refine J_getIe qX0_partsOf_6 fX0_35 (by assumption) (by (repeat first | with_reducible exact wI_e _ _ _ _ | (with_reducible apply rd_s; focus omega) | (with_reducible apply rd_c; focus omega) | (with_reducible apply rd_k; focus omega) | with_reducible exact rd_e (by omega)); first | done | assumption | rfl) ?_
  first | with_reducible refine J_icmp_ge_n qX0_partsOf_9 (by omega) (by omega) (fun c1 => ?_) (fun c1 => ?_) | refine J_icmp_ge qX0_partsOf_9 (fun c1 => ?_) (fun c1 => ?_)
  · refine J_iload_n (i := 2) qX0_partsOf_30 rfl rfl ?_
    refine Ji_ret qX0_partsOf_31 ?_
    exact ⟨rfl, by rw [show k = (prtF cs rw mk).length by omega]⟩
  · have ih := ih c1
    rw [cntF_succ] at ih
    have s4 : psF cs rw mk k ≤ 4 := sort_le _ _ _ _ _
    refine J_aload_n (i := 0) qX0_partsOf_12 rfl rfl ?_
    refine J_iload_n (i := 3) qX0_partsOf_13 rfl rfl ?_
    refine J_vi1 qX0_partsOf_14 kX0_86 (by assumption) (l_sortOf hL0 ha0 h12 c1) (Nat.le_of_ble_eq_true rfl) (fun r μ' hr => ?_)
    obtain ⟨rfl, rfl⟩ := hr
    refine J_iload_n (i := 1) qX0_partsOf_17 rfl rfl ?_
    first | with_reducible refine J_icmp_ne_n qX0_partsOf_18 (by omega) (by omega) (fun c2 => ?_) (fun c2 => ?_) | refine J_icmp_ne qX0_partsOf_18 (fun c2 => ?_) (fun c2 => ?_)
    · rw [if_neg c2] at ih
      refine J_inc3 qX0_partsOf_24 (Nat.le_of_ble_eq_true rfl) (by first | exact nI_inc _ | rfl) rfl ?_
      refine J_goto qX0_partsOf_27 ?_
      exact ih
    · rw [if_pos c2] at ih
      refine J_inc2 qX0_partsOf_21 (Nat.le_of_ble_eq_true rfl) (by first | exact nI_inc _ | rfl) rfl ?_
      refine J_inc3 qX0_partsOf_24 (Nat.le_of_ble_eq_true rfl) (by first | exact nI_inc _ | rfl) rfl ?_
      refine J_goto qX0_partsOf_27 ?_
      exact ih
theorem l_valueOf (hL : IsPl G p) (hP : IsP G b) (ha : AbPl μ p cs rw mk) (hc : AbC μ b cs) {k w : Nat} (hk : k < (prtF cs rw mk).length) (hw : w < 6) : Si mX0_valueOf (d+1) [.ref p, .ref b, .int (nI k), .int (nI w)] G μ (fun r μ' => μ = μ' ∧ r = vpF cs rw mk k w) := by
  have h12 := hc.2.1
  have hL0 := hL
  have ha0 := ha
  have hPO := hP.1
  obtain ⟨hO, ⟨r0, r1, r2, r3, r4, r5, r6⟩, ⟨a1, a2, a3, a4, a5, a6, a7⟩, hg⟩ := hL
  obtain ⟨hT, h7, h8, hA⟩ := ha
  have hl := prt_len (cs := cs) rw mk h12
  obtain ⟨f1, f2, f3, f4⟩ := prt_at h12 hk
  have e := hA k hk
  rw [Nat.zero_add] at e
  obtain ⟨e1, e2, e3⟩ := e
  refine Si_of (ls := [.ref p, .ref b, .int (nI k), .int (nI w), .null, .null]) (by decide +kernel) (Nat.le_of_ble_eq_true rfl) rfl ?_
  refine J_iload_n (i := 3) qX0_valueOf_0 rfl rfl ?_
  match w, hw with
  | 0, _ =>
    refine J_tabIn (tgt := 36) qX0_valueOf_1 (by decide) (by decide) rfl (by decide) ?_
    refine J_aload_n (i := 0) qX0_valueOf_36 rfl rfl ?_
    refine J_iload_n (i := 2) qX0_valueOf_37 rfl rfl ?_
    refine J_vi1 qX0_valueOf_38 kX0_86 (by assumption) (l_sortOf hL0 ha0 h12 hk) (Nat.le_of_ble_eq_true rfl) (fun r μ' hr => ?_)
    obtain ⟨rfl, rfl⟩ := hr
    refine Ji_ret qX0_valueOf_41 ?_
    exact ⟨rfl, rfl⟩
  | 1, _ =>
    refine J_tabIn (tgt := 42) qX0_valueOf_1 (by decide) (by decide) rfl (by decide) ?_
    refine J_aload_n (i := 0) qX0_valueOf_42 rfl rfl ?_
    refine J_getR qX0_valueOf_43 fX0_25 (by assumption) (by assumption) ?_
    refine J_iload_n (i := 2) qX0_valueOf_46 rfl rfl ?_
    refine J_ialde qX0_valueOf_47 (by assumption) rfl (by omega) (by (repeat first | with_reducible exact wI_e _ _ _ _ | (with_reducible apply rd_s; focus omega) | (with_reducible apply rd_c; focus omega) | (with_reducible apply rd_k; focus omega) | with_reducible exact rd_e (by omega)); first | done | assumption | rfl) ?_
    refine Ji_ret qX0_valueOf_48 ?_
    exact ⟨rfl, rfl⟩
  | 2, _ =>
    refine J_tabIn (tgt := 49) qX0_valueOf_1 (by decide) (by decide) rfl (by decide) ?_
    refine J_aload_n (i := 0) qX0_valueOf_49 rfl rfl ?_
    refine J_getR qX0_valueOf_50 fX0_29 (by assumption) (by assumption) ?_
    refine J_iload_n (i := 2) qX0_valueOf_53 rfl rfl ?_
    refine J_ialde qX0_valueOf_54 (by assumption) rfl (by omega) (by (repeat first | with_reducible exact wI_e _ _ _ _ | (with_reducible apply rd_s; focus omega) | (with_reducible apply rd_c; focus omega) | (with_reducible apply rd_k; focus omega) | with_reducible exact rd_e (by omega)); first | done | assumption | rfl) ?_
    refine Ji_ret qX0_valueOf_55 ?_
    exact ⟨rfl, rfl⟩
  | 3, _ =>
    refine J_tabIn (tgt := 56) qX0_valueOf_1 (by decide) (by decide) rfl (by decide) ?_
    refine J_aload_n (i := 0) qX0_valueOf_56 rfl rfl ?_
    refine J_getR qX0_valueOf_57 fX0_32 (by assumption) (by assumption) ?_
    refine J_iload_n (i := 2) qX0_valueOf_60 rfl rfl ?_
    refine J_ialde qX0_valueOf_61 (by assumption) rfl (by omega) (by (repeat first | with_reducible exact wI_e _ _ _ _ | (with_reducible apply rd_s; focus omega) | (with_reducible apply rd_c; focus omega) | (with_reducible apply rd_k; focus omega) | with_reducible exact rd_e (by omega)); first | done | assumption | rfl) ?_
    refine Ji_ret qX0_valueOf_62 ?_
    exact ⟨rfl, rfl⟩
  | 4, _ =>
    refine J_tabIn (tgt := 63) qX0_valueOf_1 (by decide) (by decide) rfl (by decide) ?_
    refine J_aload_n (i := 0) qX0_valueOf_63 rfl rfl ?_
    refine J_iload_n (i := 2) qX0_valueOf_64 rfl rfl ?_
    refine J_vi1 qX0_valueOf_65 kX0_83 (by assumption) (l_stepsOf hL0 ha0 h12 hk) (Nat.le_of_ble_eq_true rfl) (fun r μ' hr => ?_)
    obtain ⟨rfl, rfl⟩ := hr
    refine Ji_ret qX0_valueOf_68 ?_
    exact ⟨rfl, rfl⟩
  | 5, _ =>
    refine J_tabOut (tgt := 69) qX0_valueOf_1 (by decide) (by decide) ?_
    refine J_aload_n (i := 1) qX0_valueOf_69 rfl rfl ?_
    refine J_aload_n (i := 0) qX0_valueOf_70 rfl rfl ?_
    refine J_getR qX0_valueOf_71 fX0_25 (by assumption) (by assumption) ?_
    refine J_iload_n (i := 2) qX0_valueOf_74 rfl rfl ?_
    refine J_ialde qX0_valueOf_75 (by assumption) rfl (by omega) (by (repeat first | with_reducible exact wI_e _ _ _ _ | (with_reducible apply rd_s; focus omega) | (with_reducible apply rd_c; focus omega) | (with_reducible apply rd_k; focus omega) | with_reducible exact rd_e (by omega)); first | done | assumption | rfl) ?_
    refine J_aload_n (i := 0) qX0_valueOf_76 rfl rfl ?_
    refine J_getR qX0_valueOf_77 fX0_29 (by assumption) (by assumption) ?_
    refine J_iload_n (i := 2) qX0_valueOf_80 rfl rfl ?_
    refine J_ialde qX0_valueOf_81 (by assumption) rfl (by omega) (by (repeat first | with_reducible exact wI_e _ _ _ _ | (with_reducible apply rd_s; focus omega) | (with_reducible apply rd_c; focus omega) | (with_reducible apply rd_k; focus omega) | with_reducible exact rd_e (by omega)); first | done | assumption | rfl) ?_
    refine J_vl2 qX0_valueOf_82 kX0_62 (by assumption) (p_span hP hc (i := (pg (prtF cs rw mk) k).1) (j := (pg (prtF cs rw mk) k).2.1) (by omega) (by omega)) (Nat.le_of_ble_eq_true rfl) (fun r μ' hr => ?_)
    obtain ⟨rfl, rfl⟩ := hr
    refine J_lst4 qX0_valueOf_85 (Nat.le_of_ble_eq_true rfl) rfl ?_
    refine J_lload (i := 4) qX0_valueOf_87 rfl ?_
    refine J_pushL qX0_valueOf_89 ?_
    refine J_lif_le qX0_valueOf_92 qX0_valueOf_93 (fun c1 => ?_) (fun c1 => ?_)
    · refine J_lload (i := 4) qX0_valueOf_100 rfl ?_
      refine J_l2i qX0_valueOf_102 ?_
      refine Ji_ret qX0_valueOf_103 ?_
      refine ⟨rfl, (if_neg (fun q => ?_)).symm⟩
      exact absurd c1 (Int64.not_le.mpr q)
    · refine J_pushI qX0_valueOf_96 ?_
      refine J_goto qX0_valueOf_97 ?_
      refine Ji_ret qX0_valueOf_103 ?_
      exact ⟨rfl, (if_pos (Int64.not_le.mp c1)).symm⟩
theorem l_partLookingAt (hL : IsPl G p) (hP : IsP G b) (ha : AbPl μ p cs rw mk) (hc : AbC μ b cs) (x : Int32) : Si mX0_partLookingAt (d) [.ref p, .ref b, .int x] G μ (fun r μ' => μ = μ' ∧ r = if (prtF cs rw mk).length = 0 then -1 else nI (lookF cs rw mk x ((prtF cs rw mk).length - 1) 0)) := by
  have h12 := hc.2.1
  obtain ⟨hO, ⟨r0, r1, r2, r3, r4, r5, r6⟩, ⟨a1, a2, a3, a4, a5, a6, a7⟩, hg⟩ := hL
  obtain ⟨hPO, ⟨z0, z1, z2, z3⟩, -, ⟨y1, y2, y3, y4⟩, -⟩ := hP
  obtain ⟨hn, -, hkc⟩ := hc
  obtain ⟨hT, h7, h8, hA⟩ := ha
  have hl := prt_len (cs := cs) rw mk h12
  refine Si_of (ls := [.ref p, .ref b, .int x, .null]) (by decide +kernel) (Nat.le_of_ble_eq_true rfl) rfl ?_
  refine J_aload_n (i := 0) qX0_partLookingAt_0 rfl rfl ?_
  refine J_getIe qX0_partLookingAt_1 fX0_35 (by assumption) (by (repeat first | with_reducible exact wI_e _ _ _ _ | (with_reducible apply rd_s; focus omega) | (with_reducible apply rd_c; focus omega) | (with_reducible apply rd_k; focus omega) | with_reducible exact rd_e (by omega)); first | done | assumption | rfl) ?_
  first | with_reducible refine J_if_ne_n qX0_partLookingAt_4 (by omega) (fun c0 => ?_) (fun c0 => ?_) | refine J_if_ne qX0_partLookingAt_4 (fun c0 => ?_) (fun c0 => ?_)
  · rw [show (nI (lookF cs rw mk x ((prtF cs rw mk).length - 1) 0)) = nI (lookF cs rw mk x ((prtF cs rw mk).length - 1 - 0) 0) from rfl]
    refine J_pushI qX0_partLookingAt_9 ?_
    refine J_ist3 qX0_partLookingAt_10 (Nat.le_of_ble_eq_true rfl) rfl ?_
    have H : ∀ k, k ≤ (prtF cs rw mk).length - 1 → lookF cs rw mk x ((prtF cs rw mk).length - 1) 0 = lookF cs rw mk x ((prtF cs rw mk).length - 1 - k) k → J mX0_partLookingAt (d) (0, 0) s0 (Ki G (fun r μ' => μ = μ' ∧ r = if (prtF cs rw mk).length = 0 then -1 else nI (lookF cs rw mk x ((prtF cs rw mk).length - 1) 0))) (0, 0) 11 [.ref p, .ref b, .int x, .int (nI k)] [] (G, μ) := by
      refine ind_up (fun k hk ih hi => ?_)
      refine J_iload_n (i := 3) qX0_partLookingAt_11 rfl rfl ?_
      refine J_pushI qX0_partLookingAt_12 ?_
      first | with_reducible refine J_iadd_n qX0_partLookingAt_13 ?_ | refine J_iadd qX0_partLookingAt_13 ?_
      refine J_aload_n (i := 0) qX0_partLookingAt_14 rfl rfl ?_
      refine J_getIe qX0_partLookingAt_15 fX0_35 (by assumption) (by (repeat first | with_reducible exact wI_e _ _ _ _ | (with_reducible apply rd_s; focus omega) | (with_reducible apply rd_c; focus omega) | (with_reducible apply rd_k; focus omega) | with_reducible exact rd_e (by omega)); first | done | assumption | rfl) ?_
      first | with_reducible refine J_icmp_ge_n qX0_partLookingAt_18 (by omega) (by omega) (fun c1 => ?_) (fun c1 => ?_) | refine J_icmp_ge qX0_partLookingAt_18 (fun c1 => ?_) (fun c1 => ?_)
      · refine J_iload_n (i := 3) qX0_partLookingAt_44 rfl rfl ?_
        refine Ji_ret qX0_partLookingAt_45 ?_
        rw [show (prtF cs rw mk).length - 1 - k = 0 by omega] at hi
        exact ⟨rfl, by rw [if_neg c0, hi]; rfl⟩
      · obtain ⟨f1, f2, f3, f4⟩ := prt_at h12 c1
        have e := hA (k + 1) c1
        rw [Nat.zero_add] at e
        obtain ⟨e1, e2, e3⟩ := e
        have e4 := (hkc (pg (prtF cs rw mk) (k + 1)).1 (by omega)).1
        rw [show (prtF cs rw mk).length - 1 - k = ((prtF cs rw mk).length - 1 - (k + 1)) + 1 by omega] at hi
        rw [lookF_succ] at hi
        refine J_iload_n (i := 2) qX0_partLookingAt_21 rfl rfl ?_
        refine J_aload_n (i := 1) qX0_partLookingAt_22 rfl rfl ?_
        refine J_getR qX0_partLookingAt_23 fX0_91 (by assumption) (by assumption) ?_
        refine J_aload_n (i := 0) qX0_partLookingAt_26 rfl rfl ?_
        refine J_getR qX0_partLookingAt_27 fX0_25 (by assumption) (by assumption) ?_
        refine J_iload_n (i := 3) qX0_partLookingAt_30 rfl rfl ?_
        refine J_pushI qX0_partLookingAt_31 ?_
        first | with_reducible refine J_iadd_n qX0_partLookingAt_32 ?_ | refine J_iadd qX0_partLookingAt_32 ?_
        refine J_ialde qX0_partLookingAt_33 (by assumption) rfl (by omega) (by (repeat first | with_reducible exact wI_e _ _ _ _ | (with_reducible apply rd_s; focus omega) | (with_reducible apply rd_c; focus omega) | (with_reducible apply rd_k; focus omega) | with_reducible exact rd_e (by omega)); first | done | assumption | rfl) ?_
        refine J_ialde qX0_partLookingAt_34 (by assumption) rfl (by omega) (by (repeat first | with_reducible exact wI_e _ _ _ _ | (with_reducible apply rd_s; focus omega) | (with_reducible apply rd_c; focus omega) | (with_reducible apply rd_k; focus omega) | with_reducible exact rd_e (by omega)); first | done | assumption | rfl) ?_
        first | with_reducible refine J_icmp_lt_n qX0_partLookingAt_35 (by omega) (by omega) (fun c2 => ?_) (fun c2 => ?_) | refine J_icmp_lt qX0_partLookingAt_35 (fun c2 => ?_) (fun c2 => ?_)
        · rw [if_pos c2] at hi
          refine J_iload_n (i := 3) qX0_partLookingAt_44 rfl rfl ?_
          refine Ji_ret qX0_partLookingAt_45 ?_
          refine ⟨rfl, ?_⟩
          rw [if_neg c0]
          exact congrArg nI hi.symm
        · rw [if_neg c2] at hi
          refine J_inc3 qX0_partLookingAt_38 (Nat.le_of_ble_eq_true rfl) (by first | exact nI_inc _ | rfl) rfl ?_
          refine J_goto qX0_partLookingAt_41 ?_
          exact ih (by omega) hi
    exact H 0 (Nat.zero_le _) rfl
  · refine J_pushI qX0_partLookingAt_7 ?_
    refine Ji_ret qX0_partLookingAt_8 ?_
    exact ⟨rfl, (if_pos c0).symm⟩
theorem l_hasPartsOf (hL : IsPl G p) (ha : AbPl μ p cs rw mk) (h12 : cs.length ≤ 12) {p2 : Nat} {cs2 : List Cs} (hL2 : IsPl G p2) (ha2 : AbPl μ p2 cs2 rw mk) (h122 : cs2.length ≤ 12) : Si mX0_hasPartsOf (d+1) [.ref p, .ref p2] G μ (fun r μ' => μ = μ' ∧ r = b2i (sameB cs cs2 rw mk)) := by
  have hL0 := hL
  have ha0 := ha
  have hL20 := hL2
  have ha20 := ha2
  obtain ⟨hO, ⟨r0, r1, r2, r3, r4, r5, r6⟩, ⟨a1, a2, a3, a4, a5, a6, a7⟩, hg⟩ := hL
  obtain ⟨hT, h7, h8, hA⟩ := ha
  obtain ⟨zO, ⟨z0, z1, z2, z3, z4, z5, z6⟩, ⟨y1, y2, y3, y4, y5, y6, y7⟩, -⟩ := hL2
  obtain ⟨-, k7, k8, kA⟩ := ha2
  have hl := prt_len (cs := cs) rw mk h12
  have hl2 := prt_len (cs := cs2) rw mk h122
  refine Si_of (ls := [.ref p, .ref p2, .null]) (by decide +kernel) (Nat.le_of_ble_eq_true rfl) rfl ?_
  refine J_aload_n (i := 0) qX0_hasPartsOf_0 rfl rfl ?_
  refine J_getIe qX0_hasPartsOf_1 fX0_35 (by assumption) (by (repeat first | with_reducible exact wI_e _ _ _ _ | (with_reducible apply rd_s; focus omega) | (with_reducible apply rd_c; focus omega) | (with_reducible apply rd_k; focus omega) | with_reducible exact rd_e (by omega)); first | done | assumption | rfl) ?_
  refine J_aload_n (i := 1) qX0_hasPartsOf_4 rfl rfl ?_
  refine J_getIe qX0_hasPartsOf_5 fX0_35 (by assumption) (by (repeat first | with_reducible exact wI_e _ _ _ _ | (with_reducible apply rd_s; focus omega) | (with_reducible apply rd_c; focus omega) | (with_reducible apply rd_k; focus omega) | with_reducible exact rd_e (by omega)); first | done | assumption | rfl) ?_
  first | with_reducible refine J_icmp_eq_n qX0_hasPartsOf_8 (by omega) (by omega) (fun c0 => ?_) (fun c0 => ?_) | refine J_icmp_eq qX0_hasPartsOf_8 (fun c0 => ?_) (fun c0 => ?_)
  · refine J_pushI qX0_hasPartsOf_13 ?_
    refine J_ist2 qX0_hasPartsOf_14 (Nat.le_of_ble_eq_true rfl) rfl ?_
    have no : ∀ k, k < (prtF cs rw mk).length → ¬ ((pg (prtF cs rw mk) k).1 = (pg (prtF cs2 rw mk) k).1 ∧ (pg (prtF cs rw mk) k).2.1 = (pg (prtF cs2 rw mk) k).2.1 ∧ psF cs rw mk k = psF cs2 rw mk k) → J mX0_hasPartsOf (d+1) (0, 0) s0 (Ki G (fun r μ' => μ = μ' ∧ r = b2i (sameB cs cs2 rw mk))) (0, 0) 66 [.ref p, .ref p2, .int (nI k)] [] (G, μ) := fun k hk hno => by
      refine J_pushI qX0_hasPartsOf_66 ?_
      refine Jz_ret qX0_hasPartsOf_67 (by first | exact Or.inl rfl | exact Or.inr rfl | assumption) ?_
      exact ⟨rfl, b2i_f (decide_eq_false (fun q => hno (q.2 k hk)))⟩
    have H : ∀ k, k ≤ (prtF cs rw mk).length → (∀ e, e < k → (pg (prtF cs rw mk) e).1 = (pg (prtF cs2 rw mk) e).1 ∧ (pg (prtF cs rw mk) e).2.1 = (pg (prtF cs2 rw mk) e).2.1 ∧ psF cs rw mk e = psF cs2 rw mk e) → J mX0_hasPartsOf (d+1) (0, 0) s0 (Ki G (fun r μ' => μ = μ' ∧ r = b2i (sameB cs cs2 rw mk))) (0, 0) 15 [.ref p, .ref p2, .int (nI k)] [] (G, μ) := by
      refine ind_up (fun k hk ih hi => ?_)
      refine J_iload_n (i := 2) qX0_hasPartsOf_15 rfl rfl ?_
      refine J_aload_n (i := 0) qX0_hasPartsOf_16 rfl rfl ?_
      refine J_getIe qX0_hasPartsOf_17 fX0_35 (by assumption) (by (repeat first | with_reducible exact wI_e _ _ _ _ | (with_reducible apply rd_s; focus omega) | (with_reducible apply rd_c; focus omega) | (with_reducible apply rd_k; focus omega) | with_reducible exact rd_e (by omega)); first | done | assumption | rfl) ?_
      first | with_reducible refine J_icmp_ge_n qX0_hasPartsOf_20 (by omega) (by omega) (fun c1 => ?_) (fun c1 => ?_) | refine J_icmp_ge qX0_hasPartsOf_20 (fun c1 => ?_) (fun c1 => ?_)
      · refine J_pushI qX0_hasPartsOf_74 ?_
        refine Jz_ret qX0_hasPartsOf_75 (by first | exact Or.inl rfl | exact Or.inr rfl | assumption) ?_
        exact ⟨rfl, b2i_t (decide_eq_true ⟨c0, fun e he => hi e (by omega)⟩)⟩
      · obtain ⟨f1, f2, f3, f4⟩ := prt_at h12 c1
        obtain ⟨g1, g2, g3, g4⟩ := prt_at (cs := cs2) (rw := rw) (mk := mk) h122 (k := k) (by omega)
        have e := hA k c1
        rw [Nat.zero_add] at e
        obtain ⟨e1, e2, e3⟩ := e
        have w := kA k (by omega)
        rw [Nat.zero_add] at w
        obtain ⟨w1, w2, w3⟩ := w
        have s4 : psF cs rw mk k ≤ 4 := sort_le _ _ _ _ _
        have s42 : psF cs2 rw mk k ≤ 4 := sort_le _ _ _ _ _
        refine J_aload_n (i := 0) qX0_hasPartsOf_23 rfl rfl ?_
        refine J_getR qX0_hasPartsOf_24 fX0_25 (by assumption) (by assumption) ?_
        refine J_iload_n (i := 2) qX0_hasPartsOf_27 rfl rfl ?_
        refine J_ialde qX0_hasPartsOf_28 (by assumption) rfl (by omega) (by (repeat first | with_reducible exact wI_e _ _ _ _ | (with_reducible apply rd_s; focus omega) | (with_reducible apply rd_c; focus omega) | (with_reducible apply rd_k; focus omega) | with_reducible exact rd_e (by omega)); first | done | assumption | rfl) ?_
        refine J_aload_n (i := 1) qX0_hasPartsOf_29 rfl rfl ?_
        refine J_getR qX0_hasPartsOf_30 fX0_25 (by assumption) (by assumption) ?_
        refine J_iload_n (i := 2) qX0_hasPartsOf_33 rfl rfl ?_
        refine J_ialde qX0_hasPartsOf_34 (by assumption) rfl (by omega) (by (repeat first | with_reducible exact wI_e _ _ _ _ | (with_reducible apply rd_s; focus omega) | (with_reducible apply rd_c; focus omega) | (with_reducible apply rd_k; focus omega) | with_reducible exact rd_e (by omega)); first | done | assumption | rfl) ?_
        first | with_reducible refine J_icmp_ne_n qX0_hasPartsOf_35 (by omega) (by omega) (fun c2 => ?_) (fun c2 => ?_) | refine J_icmp_ne qX0_hasPartsOf_35 (fun c2 => ?_) (fun c2 => ?_)
        · exact no k c1 (fun q => c2 q.1)
        · refine J_aload_n (i := 0) qX0_hasPartsOf_38 rfl rfl ?_
          refine J_getR qX0_hasPartsOf_39 fX0_29 (by assumption) (by assumption) ?_
          refine J_iload_n (i := 2) qX0_hasPartsOf_42 rfl rfl ?_
          refine J_ialde qX0_hasPartsOf_43 (by assumption) rfl (by omega) (by (repeat first | with_reducible exact wI_e _ _ _ _ | (with_reducible apply rd_s; focus omega) | (with_reducible apply rd_c; focus omega) | (with_reducible apply rd_k; focus omega) | with_reducible exact rd_e (by omega)); first | done | assumption | rfl) ?_
          refine J_aload_n (i := 1) qX0_hasPartsOf_44 rfl rfl ?_
          refine J_getR qX0_hasPartsOf_45 fX0_29 (by assumption) (by assumption) ?_
          refine J_iload_n (i := 2) qX0_hasPartsOf_48 rfl rfl ?_
          refine J_ialde qX0_hasPartsOf_49 (by assumption) rfl (by omega) (by (repeat first | with_reducible exact wI_e _ _ _ _ | (with_reducible apply rd_s; focus omega) | (with_reducible apply rd_c; focus omega) | (with_reducible apply rd_k; focus omega) | with_reducible exact rd_e (by omega)); first | done | assumption | rfl) ?_
          first | with_reducible refine J_icmp_ne_n qX0_hasPartsOf_50 (by omega) (by omega) (fun c3 => ?_) (fun c3 => ?_) | refine J_icmp_ne qX0_hasPartsOf_50 (fun c3 => ?_) (fun c3 => ?_)
          · exact no k c1 (fun q => c3 q.2.1)
          · refine J_aload_n (i := 0) qX0_hasPartsOf_53 rfl rfl ?_
            refine J_iload_n (i := 2) qX0_hasPartsOf_54 rfl rfl ?_
            refine J_vi1 qX0_hasPartsOf_55 kX0_86 (by assumption) (l_sortOf hL0 ha0 h12 c1) (Nat.le_of_ble_eq_true rfl) (fun r μ' hr => ?_)
            obtain ⟨rfl, rfl⟩ := hr
            refine J_aload_n (i := 1) qX0_hasPartsOf_58 rfl rfl ?_
            refine J_iload_n (i := 2) qX0_hasPartsOf_59 rfl rfl ?_
            refine J_vi1 qX0_hasPartsOf_60 kX0_86 (by assumption) (l_sortOf hL20 ha20 h122 (k := k) (by omega)) (Nat.le_of_ble_eq_true rfl) (fun r μ' hr => ?_)
            obtain ⟨rfl, rfl⟩ := hr
            first | with_reducible refine J_icmp_eq_n qX0_hasPartsOf_63 (by omega) (by omega) (fun c4 => ?_) (fun c4 => ?_) | refine J_icmp_eq qX0_hasPartsOf_63 (fun c4 => ?_) (fun c4 => ?_)
            · refine J_inc2 qX0_hasPartsOf_68 (Nat.le_of_ble_eq_true rfl) (by first | exact nI_inc _ | rfl) rfl ?_
              refine J_goto qX0_hasPartsOf_71 ?_
              refine ih c1 (fun e he => ?_)
              by_cases q : e = k
              · subst q; exact ⟨c2, c3, c4⟩
              · exact hi e (by omega)
            · exact no k c1 (fun q => c4 q.2.2)
    exact H 0 (Nat.zero_le _) (fun e he => absurd he (Nat.not_lt_zero e))
  · refine J_pushI qX0_hasPartsOf_11 ?_
    refine Jz_ret qX0_hasPartsOf_12 (by first | exact Or.inl rfl | exact Or.inr rfl | assumption) ?_
    exact ⟨rfl, b2i_f (decide_eq_false (fun q => c0 q.1))⟩
end PL
