/-! COMPONENT: rows -/
def ix (x : Int32) : Nat := x.toInt.toNat
theorem ix_n {j : Nat} (h : j < 2147483648) : ix (nI j) = j := by unfold ix; rw [nI_toInt h]; rfl
def rowS (s : St) (r n : Int32) : Int32 × St :=
  if hasB 6 r = false ∨ nI 40 < n then (-1, s) else if n < 0 then (-3, uFnd s 5) else (n, uRow s (ix r) (some (List.replicate (ix n) (nI 0))))
def tearS (s : St) (r : Int32) : Int32 × St :=
  if hasB 6 r = false then (-1, s) else if (sRw s (ix r)).isNone then (-3, uFnd s 1) else (nI 1, uRow s (ix r) none)
theorem RelX.row {μ μ' : Mm} {s : St} {j : Nat} {v : Rw} (h : RelX μ s) (hF : Fr μ μ' (Pst (145 + 2 * j))) (hj : j < 6) (hv : AbS μ' (145 + 2 * j) 40 v) : RelX μ' (uRow s j v) ∧ FrX μ μ' := by
  obtain ⟨h1, h2, h3, h4, h5, h6, h7⟩ := (RelX_eq μ s).mp h
  have ag : ∀ lo hi, (hi < 145 + 2 * j ∨ 146 + 2 * j < lo) → Ag μ μ' lo hi := fun lo hi a c k x y => hF.1 _ _ (fun q => by unfold Pst at q; omega)
  refine ⟨(RelX_eq _ _).mpr ⟨fun r hr => ?_, h2.ag (ag _ _ (by omega)), h3.ag (ag _ _ (by omega)), h4.ag (ag _ _ (by omega)) (ag _ _ (by omega)), ⟨?_, ?_, ?_, fun g hg => ?_⟩, h6.ag h3.2.2.1.2.1 ?_ (ag _ _ (by omega)), h7⟩, fun c k hc => ?_, fun c k hc => ?_⟩
  · show AbS μ' (145 + 2 * r) 40 (fup (sRw s) j v r)
    by_cases e : r = j
    · subst e; rw [fup_e]; exact hv
    · rw [fup_n e]; exact (h1 r hr).ag (ag _ _ (by omega))
  · rw [hF.1 _ _ (fun q => by unfold Pst at q; omega)]; exact h5.1
  · rw [hF.2]; exact h5.2.1
  · rw [hF.1 _ _ (fun q => by unfold Pst at q; omega)]; exact h5.2.2.1
  · rw [hF.1 _ _ (fun q => by unfold Pst at q; omega)]; exact h5.2.2.2 g hg
  · rw [hF.1 _ _ (fun q => by unfold Pst at q; omega)]
  · exact hF.1 _ _ (fun q => by unfold Pst at q; omega)
  · rw [hF.2]
section XX
variable {G : Gm} {μ : Mm} {d : Nat} {s : St}
theorem x_row (hL : LayX G) (h : RelX μ s) (r n : Int32) : Si mX5_row (d+2) [.ref 0, .int r, .int n] G μ (fun v μ' => v = (rowS s r n).1 ∧ RelX μ' (rowS s r n).2 ∧ FrX μ μ') := by
  have hL0 := hL
  obtain ⟨hO, ⟨q0, q1, q2, q3, q4, q5, q6, q7, q8, q9, q10⟩, ⟨a1, a2, a3, a4, a5⟩, hrw, -⟩ := hL
  have bad : (hasB 6 r = false ∨ nI 40 < n) → J mX5_row (d+2) (0, 0) s0 (Ki G (fun v μ' => v = (rowS s r n).1 ∧ RelX μ' (rowS s r n).2 ∧ FrX μ μ')) (0, 0) 13 [.ref 0, .int r, .int n] [] (G, μ) := fun hb => by
    refine J_pushI qX5_row_13 ?_
    refine Ji_ret qX5_row_14 ?_
    rw [show rowS s r n = (-1, s) from if_pos hb]
    exact ⟨rfl, h, FrX.rf⟩
  refine Si_of (ls := [.ref 0, .int r, .int n]) (by decide +kernel) (Nat.le_of_ble_eq_true rfl) rfl ?_
  refine J_iload_n (i := 1) qX5_row_0 rfl rfl ?_
  refine J_si1 qX5_row_1 kX5_82 (x_isRow r) (Nat.le_of_ble_eq_true rfl) (fun v μ' hr => ?_)
  obtain ⟨rfl, rfl⟩ := hr
  cases hb : hasB 6 r with
  | false =>
    refine J_if_eq qX5_row_4 (fun c => ?_) (fun c => absurd b2i_f0 c)
    exact bad (Or.inl hb)
  | true =>
    refine J_if_eq qX5_row_4 (fun c => absurd c b2i_t0) (fun c => ?_)
    obtain ⟨j, hj, rfl⟩ := hasB_of (by omega) hb
    refine J_iload_n (i := 2) qX5_row_7 rfl rfl ?_
    refine J_pushI qX5_row_8 ?_
    first | with_reducible refine J_icmp_le_n qX5_row_10 (by omega) (by omega) (fun c1 => ?_) (fun c1 => ?_) | refine J_icmp_le qX5_row_10 (fun c1 => ?_) (fun c1 => ?_)
    · have e1 : rowS s (nI j) n = if n < 0 then (-3, uFnd s 5) else (n, uRow s (ix (nI j)) (some (List.replicate (ix n) (nI 0)))) := if_neg (fun z => z.elim (fun y => by rw [hb] at y; cases y) (fun y => absurd c1 (Int32.not_le.mpr y)))
      rw [e1]
      refine J_iload_n (i := 2) qX5_row_15 rfl rfl ?_
      first | with_reducible refine J_if_ge_n qX5_row_16 (by omega) ?_ | refine J_if_ge qX5_row_16 (fun c2 => ?_) (fun c2 => ?_)
      · rw [if_neg (Int32.not_lt.mpr c2)]
        obtain ⟨k, hk, rfl⟩ : ∃ k, k ≤ 40 ∧ n = nI k := nI_of2 (M := nI 40) rfl (Int32.not_lt.mpr c2) c1
        obtain ⟨w1, w2⟩ := hrw j hj
        have w3 := w2.1
        refine J_aload_n (i := 0) qX5_row_25 rfl rfl ?_
        refine J_getR qX5_row_26 fX5_11 (by assumption) (by assumption) ?_
        refine J_iload_n (i := 1) qX5_row_29 rfl rfl ?_
        refine J_aald qX5_row_30 (by assumption) (by decide) (by decide) rfl (by omega) (by first | assumption | exact (by assumption : ∀ _, _) _ (by omega)) ?_
        refine J_iload_n (i := 2) qX5_row_31 rfl rfl ?_
        refine J_pushI qX5_row_32 ?_
        refine J_vv2 qX5_row_33 kX5_90 (by assumption) (s_fill (d := d) w2 (by omega) hk (nI 0)) (Nat.le_of_ble_eq_true rfl) (fun ν hr => ?_)
        obtain ⟨g1, g2⟩ := hr
        refine J_iload_n (i := 2) qX5_row_36 rfl rfl ?_
        refine Ji_ret qX5_row_37 ?_
        rw [ix_n (by omega), ix_n (by omega)]
        exact ⟨rfl, h.row g2 hj g1⟩
      · rw [if_pos (i32_nle c2)]
        refine J_aload_n (i := 0) qX5_row_19 rfl rfl ?_
        refine J_pushI qX5_row_20 ?_
        refine J_vi1 qX5_row_21 kX5_86 (by assumption) (x_found (d := d + 1) hL0 h (f := 5) (by omega)) (Nat.le_of_ble_eq_true rfl) (fun v ν hr => ?_)
        refine Ji_ret qX5_row_24 ?_
        exact hr
    · exact bad (Or.inr (i32_nle c1))
end XX
