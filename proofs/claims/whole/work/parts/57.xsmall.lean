/-! COMPONENT: small tests, findings -/
section XX
variable {G : Gm} {μ : Mm} {d : Nat} {s : St}
theorem x_isRow (x : Int32) : Si mX5_isRow (d) [.int x] G μ (fun r μ' => μ = μ' ∧ r = b2i (hasB 6 x)) := by
  refine Si_of (ls := [.int x]) (by decide +kernel) (Nat.le_of_ble_eq_true rfl) rfl ?_
  refine J_iload_n (i := 0) qX5_isRow_0 rfl rfl ?_
  first | with_reducible refine J_if_lt_n qX5_isRow_1 (by omega) ?_ | refine J_if_lt qX5_isRow_1 (fun c => ?_) (fun c => ?_)
  · refine J_pushI qX5_isRow_14 ?_
    refine Jz_ret qX5_isRow_15 (by first | exact Or.inl rfl | exact Or.inr rfl | assumption) ?_
    exact ⟨rfl, b2i_f (decide_eq_false (fun q => absurd q.1 (Int32.not_le.mpr c)))⟩
  · refine J_iload_n (i := 0) qX5_isRow_4 rfl rfl ?_
    refine J_pushI qX5_isRow_5 ?_
    first | with_reducible refine J_icmp_ge_n qX5_isRow_7 (by omega) (by omega) (fun c2 => ?_) (fun c2 => ?_) | refine J_icmp_ge qX5_isRow_7 (fun c2 => ?_) (fun c2 => ?_)
    · refine J_pushI qX5_isRow_14 ?_
      refine Jz_ret qX5_isRow_15 (by first | exact Or.inl rfl | exact Or.inr rfl | assumption) ?_
      exact ⟨rfl, b2i_f (decide_eq_false (fun q => absurd q.2 (Int32.not_lt.mpr c2)))⟩
    · refine J_pushI qX5_isRow_10 ?_
      refine J_goto qX5_isRow_11 ?_
      refine Jz_ret qX5_isRow_15 (by first | exact Or.inl rfl | exact Or.inr rfl | assumption) ?_
      exact ⟨rfl, b2i_t (decide_eq_true ⟨i32_nlt c, i32_nle c2⟩)⟩
theorem x_isText (x : Int32) : Si mX5_isText (d) [.int x] G μ (fun r μ' => μ = μ' ∧ r = b2i (hasB 4 x)) := by
  refine Si_of (ls := [.int x]) (by decide +kernel) (Nat.le_of_ble_eq_true rfl) rfl ?_
  refine J_iload_n (i := 0) qX5_isText_0 rfl rfl ?_
  first | with_reducible refine J_if_lt_n qX5_isText_1 (by omega) ?_ | refine J_if_lt qX5_isText_1 (fun c => ?_) (fun c => ?_)
  · refine J_pushI qX5_isText_13 ?_
    refine Jz_ret qX5_isText_14 (by first | exact Or.inl rfl | exact Or.inr rfl | assumption) ?_
    exact ⟨rfl, b2i_f (decide_eq_false (fun q => absurd q.1 (Int32.not_le.mpr c)))⟩
  · refine J_iload_n (i := 0) qX5_isText_4 rfl rfl ?_
    refine J_pushI qX5_isText_5 ?_
    first | with_reducible refine J_icmp_ge_n qX5_isText_6 (by omega) (by omega) (fun c2 => ?_) (fun c2 => ?_) | refine J_icmp_ge qX5_isText_6 (fun c2 => ?_) (fun c2 => ?_)
    · refine J_pushI qX5_isText_13 ?_
      refine Jz_ret qX5_isText_14 (by first | exact Or.inl rfl | exact Or.inr rfl | assumption) ?_
      exact ⟨rfl, b2i_f (decide_eq_false (fun q => absurd q.2 (Int32.not_lt.mpr c2)))⟩
    · refine J_pushI qX5_isText_9 ?_
      refine J_goto qX5_isText_10 ?_
      refine Jz_ret qX5_isText_14 (by first | exact Or.inl rfl | exact Or.inr rfl | assumption) ?_
      exact ⟨rfl, b2i_t (decide_eq_true ⟨i32_nlt c, i32_nle c2⟩)⟩
theorem x_isKeptPlace (x : Int32) : Si mX5_isKeptPlace (d) [.int x] G μ (fun r μ' => μ = μ' ∧ r = b2i (hasB 3 x)) := by
  refine Si_of (ls := [.int x]) (by decide +kernel) (Nat.le_of_ble_eq_true rfl) rfl ?_
  refine J_iload_n (i := 0) qX5_isKeptPlace_0 rfl rfl ?_
  first | with_reducible refine J_if_lt_n qX5_isKeptPlace_1 (by omega) ?_ | refine J_if_lt qX5_isKeptPlace_1 (fun c => ?_) (fun c => ?_)
  · refine J_pushI qX5_isKeptPlace_13 ?_
    refine Jz_ret qX5_isKeptPlace_14 (by first | exact Or.inl rfl | exact Or.inr rfl | assumption) ?_
    exact ⟨rfl, b2i_f (decide_eq_false (fun q => absurd q.1 (Int32.not_le.mpr c)))⟩
  · refine J_iload_n (i := 0) qX5_isKeptPlace_4 rfl rfl ?_
    refine J_pushI qX5_isKeptPlace_5 ?_
    first | with_reducible refine J_icmp_ge_n qX5_isKeptPlace_6 (by omega) (by omega) (fun c2 => ?_) (fun c2 => ?_) | refine J_icmp_ge qX5_isKeptPlace_6 (fun c2 => ?_) (fun c2 => ?_)
    · refine J_pushI qX5_isKeptPlace_13 ?_
      refine Jz_ret qX5_isKeptPlace_14 (by first | exact Or.inl rfl | exact Or.inr rfl | assumption) ?_
      exact ⟨rfl, b2i_f (decide_eq_false (fun q => absurd q.2 (Int32.not_lt.mpr c2)))⟩
    · refine J_pushI qX5_isKeptPlace_9 ?_
      refine J_goto qX5_isKeptPlace_10 ?_
      refine Jz_ret qX5_isKeptPlace_14 (by first | exact Or.inl rfl | exact Or.inr rfl | assumption) ?_
      exact ⟨rfl, b2i_t (decide_eq_true ⟨i32_nlt c, i32_nle c2⟩)⟩
theorem x_isAim (x : Int32) : Si mX5_isAim (d) [.int x] G μ (fun r μ' => μ = μ' ∧ r = b2i (hasB 8 x)) := by
  refine Si_of (ls := [.int x]) (by decide +kernel) (Nat.le_of_ble_eq_true rfl) rfl ?_
  refine J_iload_n (i := 0) qX5_isAim_0 rfl rfl ?_
  first | with_reducible refine J_if_lt_n qX5_isAim_1 (by omega) ?_ | refine J_if_lt qX5_isAim_1 (fun c => ?_) (fun c => ?_)
  · refine J_pushI qX5_isAim_14 ?_
    refine Jz_ret qX5_isAim_15 (by first | exact Or.inl rfl | exact Or.inr rfl | assumption) ?_
    exact ⟨rfl, b2i_f (decide_eq_false (fun q => absurd q.1 (Int32.not_le.mpr c)))⟩
  · refine J_iload_n (i := 0) qX5_isAim_4 rfl rfl ?_
    refine J_pushI qX5_isAim_5 ?_
    first | with_reducible refine J_icmp_ge_n qX5_isAim_7 (by omega) (by omega) (fun c2 => ?_) (fun c2 => ?_) | refine J_icmp_ge qX5_isAim_7 (fun c2 => ?_) (fun c2 => ?_)
    · refine J_pushI qX5_isAim_14 ?_
      refine Jz_ret qX5_isAim_15 (by first | exact Or.inl rfl | exact Or.inr rfl | assumption) ?_
      exact ⟨rfl, b2i_f (decide_eq_false (fun q => absurd q.2 (Int32.not_lt.mpr c2)))⟩
    · refine J_pushI qX5_isAim_10 ?_
      refine J_goto qX5_isAim_11 ?_
      refine Jz_ret qX5_isAim_15 (by first | exact Or.inl rfl | exact Or.inr rfl | assumption) ?_
      exact ⟨rfl, b2i_t (decide_eq_true ⟨i32_nlt c, i32_nle c2⟩)⟩
theorem x_isWeight (x : Int32) : Si mX5_isWeight (d) [.int x] G μ (fun r μ' => μ = μ' ∧ r = b2i (hasB 10 x)) := by
  refine Si_of (ls := [.int x]) (by decide +kernel) (Nat.le_of_ble_eq_true rfl) rfl ?_
  refine J_iload_n (i := 0) qX5_isWeight_0 rfl rfl ?_
  first | with_reducible refine J_if_lt_n qX5_isWeight_1 (by omega) ?_ | refine J_if_lt qX5_isWeight_1 (fun c => ?_) (fun c => ?_)
  · refine J_pushI qX5_isWeight_14 ?_
    refine Jz_ret qX5_isWeight_15 (by first | exact Or.inl rfl | exact Or.inr rfl | assumption) ?_
    exact ⟨rfl, b2i_f (decide_eq_false (fun q => absurd q.1 (Int32.not_le.mpr c)))⟩
  · refine J_iload_n (i := 0) qX5_isWeight_4 rfl rfl ?_
    refine J_pushI qX5_isWeight_5 ?_
    first | with_reducible refine J_icmp_ge_n qX5_isWeight_7 (by omega) (by omega) (fun c2 => ?_) (fun c2 => ?_) | refine J_icmp_ge qX5_isWeight_7 (fun c2 => ?_) (fun c2 => ?_)
    · refine J_pushI qX5_isWeight_14 ?_
      refine Jz_ret qX5_isWeight_15 (by first | exact Or.inl rfl | exact Or.inr rfl | assumption) ?_
      exact ⟨rfl, b2i_f (decide_eq_false (fun q => absurd q.2 (Int32.not_lt.mpr c2)))⟩
    · refine J_pushI qX5_isWeight_10 ?_
      refine J_goto qX5_isWeight_11 ?_
      refine Jz_ret qX5_isWeight_15 (by first | exact Or.inl rfl | exact Or.inr rfl | assumption) ?_
      exact ⟨rfl, b2i_t (decide_eq_true ⟨i32_nlt c, i32_nle c2⟩)⟩
theorem hasB_of {n : Nat} {x : Int32} (hn : n < 2147483648) (h : hasB n x = true) : ∃ j, j < n ∧ x = nI j := by
  have h1 := of_decide_eq_true h
  rw [i32_0le, Int32.lt_iff_toInt_lt, nI_toInt hn] at h1
  refine ⟨x.toInt.toNat, by omega, i32_inj ?_⟩
  rw [nI_toInt (by omega)]
  omega
/-- cells that 'found' touches -/
theorem RelX.found {ν : Mm} {f : Nat} (h : RelX ν s) (hf : f < 6) : RelX (wI (wI ν 0 14 (nI f)) 144 f (sTm s f + nI 1)) (uFnd s f) := by
  obtain ⟨h1, h2, h3, h4, h5, h6, h7⟩ := (RelX_eq ν s).mp h
  have ag : ∀ lo hi, 0 < lo → (hi < 144 ∨ 144 < lo) → Ag ν (wI (wI ν 0 14 (nI f)) 144 f (sTm s f + nI 1)) lo hi := fun lo hi a b c k x y => by rw [wI_n (by omega), wI_n (by omega)]
  refine (RelX_eq _ _).mpr ⟨h1.ag (ag _ _ (by omega) (by omega)), h2.ag (ag _ _ (by omega) (by omega)), h3.ag (ag _ _ (by omega) (by omega)), h4.ag (ag _ _ (by omega) (by omega)) (ag _ _ (by omega) (by omega)), ⟨?_, h5.2.1, ?_, fun g hg => ?_⟩, h6.ag h3.2.2.1.2.1 ?_ (ag _ _ (by omega) (by omega)), h7⟩
  · rw [wI_n (by omega), wI_n (by omega)]; exact h5.1
  · rw [wI_n (by omega), wI_e]; rfl
  · show _ = fup (sTm s) f (sTm s f + nI 1) g
    by_cases e : g = f
    · subst e; rw [wI_e, fup_e]
    · rw [wI_n (by omega), wI_n (by omega), fup_n e]; exact h5.2.2.2 g hg
  · rw [wI_n (by omega), wI_n (by omega)]
theorem x_found (hL : LayX G) (h : RelX μ s) {f : Nat} (hf : f < 6) : Si mX5_found (d) [.ref 0, .int (nI f)] G μ (fun r μ' => r = -3 ∧ RelX μ' (uFnd s f) ∧ FrX μ μ') := by
  obtain ⟨hO, ⟨q0, q1, q2, q3, q4, q5, q6, q7, q8, q9, q10⟩, ⟨a1, a2, a3, a4, a5⟩, -⟩ := hL
  have e := h.2.2.2.2.1.2.2.2 f hf
  refine Si_of (ls := [.ref 0, .int (nI f)]) (by decide +kernel) (Nat.le_of_ble_eq_true rfl) rfl ?_
  refine J_aload_n (i := 0) qX5_found_0 rfl rfl ?_
  refine J_iload_n (i := 1) qX5_found_1 rfl rfl ?_
  refine J_putI qX5_found_2 fX5_76p (by assumption) rfl rfl ?_
  refine J_aload_n (i := 0) qX5_found_5 rfl rfl ?_
  refine J_getR qX5_found_6 fX5_60 (by assumption) (by assumption) ?_
  refine J_iload_n (i := 1) qX5_found_9 rfl rfl ?_
  refine J_dup2 qX5_found_10 rfl rfl ?_
  refine J_ialde qX5_found_11 (by assumption) rfl (by omega) (by (repeat first | with_reducible exact wI_e _ _ _ _ | (with_reducible apply rd_s; focus omega) | (with_reducible apply rd_c; focus omega) | (with_reducible apply rd_k; focus omega) | with_reducible exact rd_e (by omega)); first | done | assumption | rfl) ?_
  refine J_pushI qX5_found_12 ?_
  first | with_reducible refine J_iadd_n qX5_found_13 ?_ | refine J_iadd qX5_found_13 ?_
  refine J_iast qX5_found_14 (by assumption) rfl (by omega) ?_
  refine J_pushI qX5_found_15 ?_
  refine Ji_ret qX5_found_17 ?_
  refine ⟨rfl, h.found hf, fun c k hc => ?_, fun _ _ _ => rfl⟩
  rw [wI_n (by omega), wI_n (by omega)]
end XX
