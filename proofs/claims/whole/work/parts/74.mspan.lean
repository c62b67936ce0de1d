/-! THE MODEL: lots; spans, sorts -/
section MM
variable {G : Gm} {μ : Mm} {d : Nat} {s : St} {cs : List Cs}
theorem m_lots (hM : LayM G) (h : RelM μ s) (n sd : Int32) : Si mX6_lots (d+1) [.ref 198, .int n, .int sd] G μ (fun q μ' => q = (lotsS s n sd).1 ∧ RelM μ' (lotsS s n sd).2 ∧ FrM μ μ') := by
  have hM0 := hM
  obtain ⟨mO, ⟨-, -, -, -, -, -, -, f17, -⟩, ⟨-, -, -, -, -, -, -, b206, -⟩⟩ := hM
  obtain ⟨p1, p2, p3, p4, p5, p6⟩ := h.2.2.1
  have k3 := p4.2.2.1
  have bad : (n < nI 1 ∨ nI 20 < n ∨ sd < nI 1 ∨ nI 2147483647 ≤ sd) → J mX6_lots (d+1) (0, 0) s0 (Ki G (fun q μ' => q = (lotsS s n sd).1 ∧ RelM μ' (lotsS s n sd).2 ∧ FrM μ μ')) (0, 0) 21 [.ref 198, .int n, .int sd, .null, .null, .null, .null, .null] [] (G, μ) := fun hz => by
    rw [show lotsS s n sd = (-1, s) from if_pos hz]
    refine J_pushI qX6_lots_21 ?_
    refine Ji_ret qX6_lots_22 ?_
    exact ⟨rfl, h, FrM.rf⟩
  refine Si_of (ls := [.ref 198, .int n, .int sd, .null, .null, .null, .null, .null]) (by decide +kernel) (Nat.le_of_ble_eq_true rfl) rfl ?_
  refine J_iload_n (i := 1) qX6_lots_0 rfl rfl ?_
  refine J_pushI qX6_lots_1 ?_
  refine J_pushI qX6_lots_2 ?_
  refine J_si3 qX6_lots_4 kX6_75 (m_in (d := d) n (nI 1) (nI 20)) (Nat.le_of_ble_eq_true rfl) (fun v1 μ' hr => ?_)
  obtain ⟨rfl, rfl⟩ := hr
  cases hb : inB n (nI 1) (nI 20) with
  | false =>
    first | refine J_if_eq qX6_lots_7 (fun _ => ?_) (fun c => absurd b2i_f0 c) | refine J_if_eq qX6_lots_7 (fun c => absurd c b2i_t0) (fun _ => ?_)
    have h1 := of_decide_eq_false hb
    by_cases c1 : n < nI 1
    · exact bad (Or.inl c1)
    · exact bad (Or.inr (Or.inl (Int32.not_le.mp (fun q => h1 ⟨i32_nlt c1, q⟩))))
  | true =>
    first | refine J_if_eq qX6_lots_7 (fun _ => ?_) (fun c => absurd b2i_f0 c) | refine J_if_eq qX6_lots_7 (fun c => absurd c b2i_t0) (fun _ => ?_)
    have h1 := of_decide_eq_true hb
    refine J_iload_n (i := 2) qX6_lots_10 rfl rfl ?_
    refine J_pushI qX6_lots_11 ?_
    refine J_ldcw (i := 310) (v := nI 2147483646) ⟨by decide +kernel, rfl⟩ (lw_at 1310 (by decide +kernel) rfl) ?_
    refine J_si3 qX6_lots_15 kX6_75 (m_in (d := d) sd (nI 1) (nI 2147483646)) (Nat.le_of_ble_eq_true rfl) (fun v1 μ' hr => ?_)
    obtain ⟨rfl, rfl⟩ := hr
    cases hb2 : inB sd (nI 1) (nI 2147483646) with
    | false =>
      first | refine J_if_ne qX6_lots_18 (fun c => absurd b2i_f0 c) (fun _ => ?_) | refine J_if_ne qX6_lots_18 (fun _ => ?_) (fun c => absurd c b2i_t0)
      have h2 := of_decide_eq_false hb2
      by_cases c1 : sd < nI 1
      · exact bad (Or.inr (Or.inr (Or.inl c1)))
      · refine bad (Or.inr (Or.inr (Or.inr ?_)))
        have h3 : ¬ sd ≤ nI 2147483646 := fun q => h2 ⟨i32_nlt c1, q⟩
        rw [Int32.le_iff_toInt_le, nI_toInt (by omega)] at h3
        rw [Int32.le_iff_toInt_le, nI_toInt (by omega)]
        omega
    | true =>
      first | refine J_if_ne qX6_lots_18 (fun c => absurd b2i_f0 c) (fun _ => ?_) | refine J_if_ne qX6_lots_18 (fun _ => ?_) (fun c => absurd c b2i_t0)
      have h2 := of_decide_eq_true hb2
      clear bad
      rw [Int32.le_iff_toInt_le, Int32.le_iff_toInt_le, nI_toInt (by omega), nI_toInt (by omega)] at h1 h2
      have eL : lotsS s n sd = if 40 < (sP s).2.length + ix n then (-2, s) else (nI (lotN (sP s) (ix sd) (ix n)).1.1.length, uPrg s (lotN (sP s) (ix sd) (ix n)).1) := if_neg (fun z => by
        rw [Int32.le_iff_toInt_le, Int32.lt_iff_toInt_lt, Int32.lt_iff_toInt_lt, Int32.lt_iff_toInt_lt, nI_toInt (by omega), nI_toInt (by omega), nI_toInt (by omega)] at z
        omega)
      obtain ⟨m, hm1, hm20, rfl⟩ : ∃ m, 1 ≤ m ∧ m ≤ 20 ∧ n = nI m := ⟨n.toInt.toNat, by omega, by omega, i32_inj (by rw [nI_toInt (by omega)]; omega)⟩
      obtain ⟨x, hx1, hx2, rfl⟩ : ∃ x, 1 ≤ x ∧ x < 2147483647 ∧ sd = nI x := ⟨sd.toInt.toNat, by omega, by omega, i32_inj (by rw [nI_toInt (by omega)]; omega)⟩
      rw [ix_n (by omega), ix_n (by omega)] at eL
      refine J_aload_n (i := 0) qX6_lots_23 rfl rfl ?_
      refine J_getIe qX6_lots_24 fX6_204 (by assumption) (by (repeat first | with_reducible exact wI_e _ _ _ _ | (with_reducible apply rd_s; focus omega) | (with_reducible apply rd_c; focus omega) | (with_reducible apply rd_k; focus omega) | with_reducible exact rd_e (by omega)); first | done | assumption | rfl) ?_
      refine J_iload_n (i := 1) qX6_lots_27 rfl rfl ?_
      first | with_reducible refine J_iadd_n qX6_lots_28 ?_ | refine J_iadd qX6_lots_28 ?_
      refine J_pushI qX6_lots_29 ?_
      first | with_reducible refine J_icmp_le_n qX6_lots_31 (by omega) (by omega) (fun c5 => ?_) (fun c5 => ?_) | refine J_icmp_le qX6_lots_31 (fun c5 => ?_) (fun c5 => ?_)
      · rw [if_neg (by omega)] at eL
        refine J_iload_n (i := 2) qX6_lots_37 rfl rfl ?_
        refine J_i2l qX6_lots_38 ?_
        rw [nI_l (by omega)]
        refine J_lst3 qX6_lots_39 (Nat.le_of_ble_eq_true rfl) rfl ?_
        refine J_pushI qX6_lots_40 ?_
        refine J_ist5 qX6_lots_41 (Nat.le_of_ble_eq_true rfl) rfl ?_
        have H : ∀ k, k ≤ m → ∀ (ν : Mm) (v6 v7 : Value), RelM ν (uPrg s (lotN (sP s) x k).1) → FrM μ ν → J mX6_lots (d+1) (0, 0) s0 (Ki G (fun q μ' => q = (lotsS s (nI m) (nI x)).1 ∧ RelM μ' (lotsS s (nI m) (nI x)).2 ∧ FrM μ μ')) (0, 0) 43 [.ref 198, .int (nI m), .int (nI x), .long (lN (lotN (sP s) x k).2), .null, .int (nI k), v6, v7] [] (G, ν) := by
          refine ind_up (fun k hk ih ν v6 v7 hR hF => ?_)
          obtain ⟨o1, o2, o3⟩ := lotN_at p4 hx2 k (by omega)
          refine J_iload (i := 5) qX6_lots_43 rfl ?_
          refine J_iload_n (i := 1) qX6_lots_45 rfl rfl ?_
          first | with_reducible refine J_icmp_ge_n qX6_lots_46 (by omega) (by omega) (fun c6 => ?_) (fun c6 => ?_) | refine J_icmp_ge qX6_lots_46 (fun c6 => ?_) (fun c6 => ?_)
          · have ek : k = m := by omega
            subst ek
            have e4 := hR.2.2.1.1.n0
            refine J_aload_n (i := 0) qX6_lots_199 rfl rfl ?_
            refine J_getR qX6_lots_200 fX6_32 (by assumption) (by assumption) ?_
            refine J_pushI qX6_lots_203 ?_
            refine J_ialde qX6_lots_204 (by assumption) rfl (by omega) (by (repeat first | with_reducible exact wI_e _ _ _ _ | (with_reducible apply rd_s; focus omega) | (with_reducible apply rd_c; focus omega) | (with_reducible apply rd_k; focus omega) | with_reducible exact rd_e (by omega)); first | done | assumption | rfl) ?_
            refine Ji_ret qX6_lots_205 ?_
            rw [eL]
            exact ⟨rfl, hR, hF⟩
          · have hy : nxL (lotN (sP s) x k).2 = 48271 * (lotN (sP s) x k).2 % 2147483647 := rfl
            have hyl := nxL_lt (lotN (sP s) x k).2
            refine J_lload_n (i := 3) qX6_lots_49 rfl rfl ?_
            refine J_pushL qX6_lots_50 ?_
            refine J_lmul qX6_lots_53 ?_
            rw [lN_mul, Nat.mul_comm]
            refine J_pushL qX6_lots_54 ?_
            refine J_lrem qX6_lots_57 (by first | assumption | decide) ?_
            rw [pk_lRem (by omega) (by omega) (by omega), ← hy]
            have h7 := ih c6
            rw [lotN_succ] at h7
            generalize nxL (lotN (sP s) x k).2 = y at hyl h7 ⊢
            generalize hg : (lotN (sP s) x k).1 = g at o1 o2 hR h7
            have e40 : g.2.length < 40 := by omega
            refine J_lst3 qX6_lots_58 (Nat.le_of_ble_eq_true rfl) rfl ?_
            refine J_aload_n (i := 0) qX6_lots_59 rfl rfl ?_
            refine J_vv0 qX6_lots_60 kX6_224 (by assumption) (m_remember (d := d) hM0 hR e40) (Nat.le_of_ble_eq_true rfl) (fun ν1 hr => ?_)
            obtain ⟨g1, g2⟩ := hr
            have q1 : MC ν1 206 0 g.1 := g1.2.2.1.1
            have q0 := q1.n0
            have q12 := q1.2.1
            have last : ∀ (ν2 : Mm) (v6 v7 : Value), RelM ν2 (uPrg s (lotF g y)) → FrM ν1 ν2 → J mX6_lots (d+1) (0, 0) s0 (Ki G (fun q μ' => q = (lotsS s (nI m) (nI x)).1 ∧ RelM μ' (lotsS s (nI m) (nI x)).2 ∧ FrM μ μ')) (0, 0) 193 [.ref 198, .int (nI m), .int (nI x), .long (lN y), .null, .int (nI k), v6, v7] [] (G, ν2) := fun ν2 v6 v7 r1 r2 => by
              refine J_inc5 qX6_lots_193 (Nat.le_of_ble_eq_true rfl) (by first | with_reducible exact nI_inc _ | rfl) rfl ?_
              refine J_goto qX6_lots_196 ?_
              exact h7 ν2 v6 v7 r1 ((hF.tr g2).tr r2)
            refine J_lload_n (i := 3) qX6_lots_63 rfl rfl ?_
            refine J_pushL qX6_lots_64 ?_
            refine J_lrem qX6_lots_67 (by first | assumption | decide) ?_
            rw [pk_lRem (by omega) (by omega) (by omega)]
            refine J_pushL qX6_lots_68 ?_
            refine J_lif_ne qX6_lots_69 qX6_lots_70 (fun c7 => ?_) (fun c7 => ?_)
            · have c7' : ¬ y % 4 = 0 := fun z => c7 (by rw [z])
              have eC : lotC g.1 y = if g.1.length < 12 ∧ freeB g.1 (lotLo y) (lotHi y) = true then insF g.1 (lotLo y, lotHi y, y / 16 % 8, y / 128 % 10) else g.1 := if_neg c7'
              have none : ∀ (v6 v7 : Value), ¬ (g.1.length < 12 ∧ freeB g.1 (lotLo y) (lotHi y) = true) → J mX6_lots (d+1) (0, 0) s0 (Ki G (fun q μ' => q = (lotsS s (nI m) (nI x)).1 ∧ RelM μ' (lotsS s (nI m) (nI x)).2 ∧ FrM μ μ')) (0, 0) 193 [.ref 198, .int (nI m), .int (nI x), .long (lN y), .null, .int (nI k), v6, v7] [] (G, ν1) := fun v6 v7 hz => by
                refine last ν1 v6 v7 ?_ FrM.rf
                show RelM ν1 (uPrg s (lotC g.1 y, g.2 ++ [g.1]))
                rw [eC, if_neg hz]
                exact g1
              refine J_lload_n (i := 3) qX6_lots_106 rfl rfl ?_
              refine J_pushL qX6_lots_107 ?_
              refine J_ldiv qX6_lots_110 (by first | assumption | decide) ?_
              rw [pk_lDiv (by omega) (by omega) (by omega)]
              refine J_pushL qX6_lots_111 ?_
              refine J_lrem qX6_lots_114 (by first | assumption | decide) ?_
              rw [pk_lRem (by omega) (by omega) (by omega)]
              refine J_l2i qX6_lots_115 ?_
              rw [lN_i]
              refine J_pushI qX6_lots_116 ?_
              first | with_reducible refine J_isub_n qX6_lots_118 (by omega) ?_ | refine J_isub qX6_lots_118 ?_
              refine J_ist6 qX6_lots_119 (Nat.le_of_ble_eq_true rfl) rfl ?_
              refine J_iload (i := 6) qX6_lots_121 rfl ?_
              refine J_lload_n (i := 3) qX6_lots_123 rfl rfl ?_
              refine J_pushL qX6_lots_124 ?_
              refine J_ldiv qX6_lots_127 (by first | assumption | decide) ?_
              rw [pk_lDiv (by omega) (by omega) (by omega)]
              refine J_pushL qX6_lots_128 ?_
              refine J_lrem qX6_lots_131 (by first | assumption | decide) ?_
              rw [pk_lRem (by omega) (by omega) (by omega)]
              refine J_l2i qX6_lots_132 ?_
              rw [lN_i]
              first | with_reducible refine J_iadd_n qX6_lots_133 ?_ | refine J_iadd qX6_lots_133 ?_
              refine J_ist7 qX6_lots_134 (Nat.le_of_ble_eq_true rfl) rfl ?_
              refine J_aload_n (i := 0) qX6_lots_136 rfl rfl ?_
              refine J_getR qX6_lots_137 fX6_32 (by assumption) (by assumption) ?_
              refine J_pushI qX6_lots_140 ?_
              refine J_ialde qX6_lots_141 (by assumption) rfl (by omega) (by (repeat first | with_reducible exact wI_e _ _ _ _ | (with_reducible apply rd_s; focus omega) | (with_reducible apply rd_c; focus omega) | (with_reducible apply rd_k; focus omega) | with_reducible exact rd_e (by omega)); first | done | assumption | rfl) ?_
              refine J_pushI qX6_lots_142 ?_
              first | with_reducible refine J_icmp_ge_n qX6_lots_144 (by omega) (by omega) (fun c8 => ?_) (fun c8 => ?_) | refine J_icmp_ge qX6_lots_144 (fun c8 => ?_) (fun c8 => ?_)
              · exact none _ _ (fun z => absurd z.1 (by omega))
              · refine J_aload_n (i := 0) qX6_lots_147 rfl rfl ?_
                refine J_getR qX6_lots_148 fX6_32 (by assumption) (by assumption) ?_
                refine J_iload (i := 6) qX6_lots_151 rfl ?_
                refine J_iload (i := 7) qX6_lots_153 rfl ?_
                refine J_si3 qX6_lots_155 kX6_166 (m_isFree (d := d) b206 q1 (lotLo y) (lotHi y)) (Nat.le_of_ble_eq_true rfl) (fun v1 μ' hr => ?_)
                obtain ⟨rfl, rfl⟩ := hr
                cases hf : freeB g.1 (lotLo y) (lotHi y) with
                | false =>
                  refine J_if_eq qX6_lots_158 (fun _ => ?_) (fun c => absurd b2i_f0 c)
                  exact none _ _ (fun z => by rw [hf] at z; cases z.2)
                | true =>
                  refine J_if_eq qX6_lots_158 (fun c => absurd c b2i_t0) (fun _ => ?_)
                  refine J_aload_n (i := 0) qX6_lots_161 rfl rfl ?_
                  refine J_getR qX6_lots_162 fX6_32 (by assumption) (by assumption) ?_
                  refine J_iload (i := 6) qX6_lots_165 rfl ?_
                  refine J_iload (i := 7) qX6_lots_167 rfl ?_
                  refine J_lload_n (i := 3) qX6_lots_169 rfl rfl ?_
                  refine J_pushL qX6_lots_170 ?_
                  refine J_ldiv qX6_lots_173 (by first | assumption | decide) ?_
                  rw [pk_lDiv (by omega) (by omega) (by omega)]
                  refine J_pushL qX6_lots_174 ?_
                  refine J_lrem qX6_lots_177 (by first | assumption | decide) ?_
                  rw [pk_lRem (by omega) (by omega) (by omega)]
                  refine J_l2i qX6_lots_178 ?_
                  rw [lN_i]
                  refine J_lload_n (i := 3) qX6_lots_179 rfl rfl ?_
                  refine J_pushL qX6_lots_180 ?_
                  refine J_ldiv qX6_lots_183 (by first | assumption | decide) ?_
                  rw [pk_lDiv (by omega) (by omega) (by omega)]
                  refine J_pushL qX6_lots_184 ?_
                  refine J_lrem qX6_lots_187 (by first | assumption | decide) ?_
                  rw [pk_lRem (by omega) (by omega) (by omega)]
                  refine J_l2i qX6_lots_188 ?_
                  rw [lN_i]
                  refine J_si5 qX6_lots_189 kX6_148 (m_comes (d := d) b206 q1 (lotLo y) (lotHi y) (y / 16 % 8) (y / 128 % 10) c8) (Nat.le_of_ble_eq_true rfl) (fun v1 ν2 hr => ?_)
                  obtain ⟨-, g3, g4⟩ := hr
                  refine J_pop qX6_lots_192 rfl ?_
                  obtain ⟨g5, g6⟩ := g1.now g4 g3 (ok_ins o1.1 (lot_le y) hf (by omega) (by omega))
                  refine last ν2 _ _ ?_ g6
                  show RelM ν2 (uPrg s (lotC g.1 y, g.2 ++ [g.1]))
                  rw [eC, if_pos ⟨c8, hf⟩]
                  exact g5
            · have c7' : y % 4 = 0 := by
                have := (pk_lEQ (a := y % 4) (b := 0) (by omega) (by omega)).mp c7
                exact this
              have eC : lotC g.1 y = if g.1.length = 0 then g.1 else g.1.eraseIdx (y / 4 % g.1.length) := if_pos c7'
              refine J_aload_n (i := 0) qX6_lots_73 rfl rfl ?_
              refine J_getR qX6_lots_74 fX6_32 (by assumption) (by assumption) ?_
              refine J_pushI qX6_lots_77 ?_
              refine J_ialde qX6_lots_78 (by assumption) rfl (by omega) (by (repeat first | with_reducible exact wI_e _ _ _ _ | (with_reducible apply rd_s; focus omega) | (with_reducible apply rd_c; focus omega) | (with_reducible apply rd_k; focus omega) | with_reducible exact rd_e (by omega)); first | done | assumption | rfl) ?_
              refine J_if_le_n qX6_lots_79 (by omega) (fun c8 => ?_) (fun c8 => ?_)
              · refine last ν1 v6 v7 ?_ FrM.rf
                show RelM ν1 (uPrg s (lotC g.1 y, g.2 ++ [g.1]))
                rw [eC, if_pos c8]
                exact g1
              · have hne := lN_ne (n := g.1.length) c8 (by omega)
                refine J_aload_n (i := 0) qX6_lots_82 rfl rfl ?_
                refine J_getR qX6_lots_83 fX6_32 (by assumption) (by assumption) ?_
                refine J_lload_n (i := 3) qX6_lots_86 rfl rfl ?_
                refine J_pushL qX6_lots_87 ?_
                refine J_ldiv qX6_lots_90 (by first | assumption | decide) ?_
                rw [pk_lDiv (by omega) (by omega) (by omega)]
                refine J_aload_n (i := 0) qX6_lots_91 rfl rfl ?_
                refine J_getR qX6_lots_92 fX6_32 (by assumption) (by assumption) ?_
                refine J_pushI qX6_lots_95 ?_
                refine J_ialde qX6_lots_96 (by assumption) rfl (by omega) (by (repeat first | with_reducible exact wI_e _ _ _ _ | (with_reducible apply rd_s; focus omega) | (with_reducible apply rd_c; focus omega) | (with_reducible apply rd_k; focus omega) | with_reducible exact rd_e (by omega)); first | done | assumption | rfl) ?_
                refine J_i2l qX6_lots_97 ?_
                refine J_lrem qX6_lots_98 (by first | assumption | decide) ?_
                rw [nI_l (by omega), pk_lRem (by omega) (by omega) (by omega)]
                refine J_l2i qX6_lots_99 ?_
                rw [lN_i]
                have hi : y / 4 % g.1.length < g.1.length := Nat.mod_lt _ (by omega)
                refine J_sv2 qX6_lots_100 kX6_227 (m_goes (d := d) b206 q1 hi) (Nat.le_of_ble_eq_true rfl) (fun ν2 hr => ?_)
                obtain ⟨g3, g4⟩ := hr
                refine J_goto qX6_lots_103 ?_
                obtain ⟨g5, g6⟩ := g1.now g4 g3 (ok_era o1.1 hi)
                refine last ν2 v6 v7 ?_ g6
                show RelM ν2 (uPrg s (lotC g.1 y, g.2 ++ [g.1]))
                rw [eC, if_neg (by omega)]
                exact g5
        exact H 0 (Nat.zero_le _) μ .null .null h FrM.rf
      · rw [eL, if_pos (by omega)]
        refine J_pushI qX6_lots_34 ?_
        refine Ji_ret qX6_lots_36 ?_
        exact ⟨rfl, h, FrM.rf⟩
theorem has_ok : ∀ s, s < 256 → ∀ a, a < 8 → (decide (nI s >>> (nI a &&& 31) &&& nI 1 = nI 1)) = decide (s / 2 ^ a % 2 = 1) := by decide +kernel
theorem pop_ok : ∀ s, s < 256 → ∀ a, a < 8 → popF (s ||| 2 ^ a) = popF s + (if s / 2 ^ a % 2 = 1 then 0 else 1) := by decide +kernel
def bitB (s a : Nat) : Bool := decide (s / 2 ^ a % 2 = 1)
theorem m_has {s a : Nat} (hs : s < 256) (ha : a < 8) : Si mX6_has (d) [.int (nI s), .int (nI a)] G μ (fun r μ' => μ = μ' ∧ r = b2i (bitB s a)) := by
  have e := has_ok s hs a ha
  refine Si_of (ls := [.int (nI s), .int (nI a)]) (by decide +kernel) (Nat.le_of_ble_eq_true rfl) rfl ?_
  refine J_iload_n (i := 0) qX6_has_0 rfl rfl ?_
  refine J_iload_n (i := 1) qX6_has_1 rfl rfl ?_
  refine J_ishr qX6_has_2 ?_
  refine J_pushI qX6_has_3 ?_
  refine J_iand qX6_has_4 ?_
  refine J_pushI qX6_has_5 ?_
  refine J_icmp_ne qX6_has_6 (fun c => ?_) (fun c => ?_)
  · rw [decide_eq_false c] at e
    refine J_pushI qX6_has_13 ?_
    refine Jz_ret qX6_has_14 (by first | exact Or.inl rfl | exact Or.inr rfl | assumption) ?_
    exact ⟨rfl, b2i_f e.symm⟩
  · rw [decide_eq_true c] at e
    refine J_pushI qX6_has_9 ?_
    refine J_goto qX6_has_10 ?_
    refine Jz_ret qX6_has_14 (by first | exact Or.inl rfl | exact Or.inr rfl | assumption) ?_
    exact ⟨rfl, b2i_t e.symm⟩
theorem m_spanOf (hM : LayM G) (hc : MC μ 206 0 cs) {i j : Nat} (hi : i < cs.length) (hj : j < cs.length) : Sl mX6_spanOf (d) [.ref 198, .int (nI i), .int (nI j)] G μ (fun r μ' => μ = μ' ∧ r = spanF cs i j) := by
  obtain ⟨mO, ⟨-, -, -, -, -, -, -, f17, -⟩, ⟨-, -, -, -, -, -, -, b206, -⟩⟩ := hM
  have h12 := hc.2.1
  have e1 := hc.lo hi
  have e2 := hc.hi hj
  refine Sl_of (ls := [.ref 198, .int (nI i), .int (nI j)]) (by decide +kernel) (Nat.le_of_ble_eq_true rfl) rfl ?_
  refine J_aload_n (i := 0) qX6_spanOf_0 rfl rfl ?_
  refine J_getR qX6_spanOf_1 fX6_32 (by assumption) (by assumption) ?_
  refine J_pushI qX6_spanOf_4 ?_
  refine J_iload_n (i := 2) qX6_spanOf_6 rfl rfl ?_
  first | with_reducible refine J_iadd_n qX6_spanOf_7 ?_ | refine J_iadd qX6_spanOf_7 ?_
  refine J_ialde qX6_spanOf_8 (by assumption) rfl (by omega) (by (repeat first | with_reducible exact wI_e _ _ _ _ | (with_reducible apply rd_s; focus omega) | (with_reducible apply rd_c; focus omega) | (with_reducible apply rd_k; focus omega) | with_reducible exact rd_e (by omega)); first | done | assumption | rfl) ?_
  refine J_i2l qX6_spanOf_9 ?_
  refine J_aload_n (i := 0) qX6_spanOf_10 rfl rfl ?_
  refine J_getR qX6_spanOf_11 fX6_32 (by assumption) (by assumption) ?_
  refine J_pushI qX6_spanOf_14 ?_
  refine J_iload_n (i := 1) qX6_spanOf_15 rfl rfl ?_
  first | with_reducible refine J_iadd_n qX6_spanOf_16 ?_ | refine J_iadd qX6_spanOf_16 ?_
  refine J_ialde qX6_spanOf_17 (by assumption) rfl (by omega) (by (repeat first | with_reducible exact wI_e _ _ _ _ | (with_reducible apply rd_s; focus omega) | (with_reducible apply rd_c; focus omega) | (with_reducible apply rd_k; focus omega) | with_reducible exact rd_e (by omega)); first | done | assumption | rfl) ?_
  refine J_i2l qX6_spanOf_18 ?_
  refine J_lsub qX6_spanOf_19 ?_
  refine J_pushL qX6_spanOf_20 ?_
  refine J_ladd qX6_spanOf_21 ?_
  refine Jl_ret qX6_spanOf_22 ?_
  exact ⟨rfl, rfl⟩
theorem m_coveredBy (hM : LayM G) (hc : MC μ 206 0 cs) {i j : Nat} (hij : i ≤ j) (hj : j < cs.length) : Sl mX6_coveredBy (d+1) [.ref 198, .int (nI i), .int (nI j)] G μ (fun r μ' => μ = μ' ∧ r = numF cs i (j + 1 - i)) := by
  have h12 := hc.2.1
  have mO := hM.1
  refine Sl_of (ls := [.ref 198, .int (nI i), .int (nI j), .null, .null, .null]) (by decide +kernel) (Nat.le_of_ble_eq_true rfl) rfl ?_
  refine J_pushL qX6_coveredBy_0 ?_
  refine J_lst3 qX6_coveredBy_1 (Nat.le_of_ble_eq_true rfl) rfl ?_
  refine J_iload_n (i := 1) qX6_coveredBy_2 rfl rfl ?_
  refine J_ist5 qX6_coveredBy_3 (Nat.le_of_ble_eq_true rfl) rfl ?_
  refine ind_up (n := j + 1 - i) (P := fun m => J mX6_coveredBy (d+1) (0, 0) s0 (Kl G (fun r μ' => μ = μ' ∧ r = numF cs i (j + 1 - i))) (0, 0) 5 [.ref 198, .int (nI i), .int (nI j), .long (numF cs i m), .null, .int (nI (i + m))] [] (G, μ)) (fun m hm ih => ?_) 0 (Nat.zero_le _)
  refine J_iload (i := 5) qX6_coveredBy_5 rfl ?_
  refine J_iload_n (i := 2) qX6_coveredBy_7 rfl rfl ?_
  first | with_reducible refine J_icmp_gt_n qX6_coveredBy_8 (by omega) (by omega) (fun c => ?_) (fun c => ?_) | refine J_icmp_gt qX6_coveredBy_8 (fun c => ?_) (fun c => ?_)
  · refine J_lload_n (i := 3) qX6_coveredBy_28 rfl rfl ?_
    refine Jl_ret qX6_coveredBy_29 ?_
    exact ⟨rfl, by rw [show j + 1 - i = m by omega]⟩
  · refine J_lload_n (i := 3) qX6_coveredBy_11 rfl rfl ?_
    refine J_aload_n (i := 0) qX6_coveredBy_12 rfl rfl ?_
    refine J_iload (i := 5) qX6_coveredBy_13 rfl ?_
    refine J_iload (i := 5) qX6_coveredBy_15 rfl ?_
    refine J_vl2 qX6_coveredBy_17 kX6_234 (by assumption) (m_spanOf (d := d) hM hc (i := i + m) (j := i + m) (by omega) (by omega)) (Nat.le_of_ble_eq_true rfl) (fun v1 μ' hr => ?_)
    obtain ⟨rfl, rfl⟩ := hr
    refine J_ladd qX6_coveredBy_20 ?_
    refine J_lst3 qX6_coveredBy_21 (Nat.le_of_ble_eq_true rfl) rfl ?_
    refine J_inc5 qX6_coveredBy_22 (Nat.le_of_ble_eq_true rfl) (by first | with_reducible exact nI_inc _ | rfl) rfl ?_
    refine J_goto qX6_coveredBy_25 ?_
    exact ih (by omega)
theorem m_aimsOf (hM : LayM G) (hc : MC μ 206 0 cs) (ho : OkC cs) {i j : Nat} (hij : i ≤ j) (hj : j < cs.length) : Si mX6_aimsOf (d+1) [.ref 198, .int (nI i), .int (nI j)] G μ (fun r μ' => μ = μ' ∧ r = nI (aimF cs i (j + 1 - i))) := by
  obtain ⟨mO, ⟨-, -, -, -, -, -, -, f17, -⟩, ⟨-, -, -, -, -, -, -, b206, -⟩⟩ := hM
  have h12 := hc.2.1
  refine Si_of (ls := [.ref 198, .int (nI i), .int (nI j), .null, .null, .null]) (by decide +kernel) (Nat.le_of_ble_eq_true rfl) rfl ?_
  refine J_pushI qX6_aimsOf_0 ?_
  refine J_ist3 qX6_aimsOf_1 (Nat.le_of_ble_eq_true rfl) rfl ?_
  refine J_pushI qX6_aimsOf_2 ?_
  refine J_ist4 qX6_aimsOf_3 (Nat.le_of_ble_eq_true rfl) rfl ?_
  refine J_iload_n (i := 1) qX6_aimsOf_5 rfl rfl ?_
  refine J_ist5 qX6_aimsOf_6 (Nat.le_of_ble_eq_true rfl) rfl ?_
  have H : ∀ m, m ≤ j + 1 - i → J mX6_aimsOf (d+1) (0, 0) s0 (Ki G (fun r μ' => μ = μ' ∧ r = nI (aimF cs i (j + 1 - i)))) (0, 0) 8 [.ref 198, .int (nI i), .int (nI j), .int (nI (seenF cs i m)), .int (nI (popF (seenF cs i m))), .int (nI (i + m))] [] (G, μ) := by
    refine ind_up (fun m hm ih => ?_)
    refine J_iload (i := 5) qX6_aimsOf_8 rfl ?_
    refine J_iload_n (i := 2) qX6_aimsOf_10 rfl rfl ?_
    first | with_reducible refine J_icmp_gt_n qX6_aimsOf_11 (by omega) (by omega) (fun c => ?_) (fun c => ?_) | refine J_icmp_gt qX6_aimsOf_11 (fun c => ?_) (fun c => ?_)
    · refine J_iload (i := 4) qX6_aimsOf_62 rfl ?_
      refine Ji_ret qX6_aimsOf_64 ?_
      exact ⟨rfl, by rw [show j + 1 - i = m by omega]; rfl⟩
    · have e3 := hc.am (k := i + m) (by omega)
      have a8 := (ho.1 (i + m) (by omega)).2.1
      have sl := seen_lt ho i m (by omega)
      have pk := pop_ok _ sl _ a8
      have h3 := ih (by omega)
      rw [show seenF cs i (m + 1) = seenF cs i m ||| 2 ^ (cg cs (i + m)).2.2.1 from rfl, pk] at h3
      have nxt : ∀ v : Nat, v = (if seenF cs i m / 2 ^ (cg cs (i + m)).2.2.1 % 2 = 1 then 0 else 1) → J mX6_aimsOf (d+1) (0, 0) s0 (Ki G (fun r μ' => μ = μ' ∧ r = nI (aimF cs i (j + 1 - i)))) (0, 0) 38 [.ref 198, .int (nI i), .int (nI j), .int (nI (seenF cs i m)), .int (nI (popF (seenF cs i m))), .int (nI (i + m))] [.int (nI v), .int (nI (popF (seenF cs i m)))] (G, μ) := fun v ev => by
        rw [← ev] at h3
        first | with_reducible refine J_iadd_n qX6_aimsOf_38 ?_ | refine J_iadd qX6_aimsOf_38 ?_
        refine J_ist4 qX6_aimsOf_39 (Nat.le_of_ble_eq_true rfl) rfl ?_
        refine J_iload_n (i := 3) qX6_aimsOf_41 rfl rfl ?_
        refine J_pushI qX6_aimsOf_42 ?_
        refine J_aload_n (i := 0) qX6_aimsOf_43 rfl rfl ?_
        refine J_getR qX6_aimsOf_44 fX6_32 (by assumption) (by assumption) ?_
        refine J_pushI qX6_aimsOf_47 ?_
        refine J_iload (i := 5) qX6_aimsOf_49 rfl ?_
        first | with_reducible refine J_iadd_n qX6_aimsOf_51 ?_ | refine J_iadd qX6_aimsOf_51 ?_
        refine J_ialde qX6_aimsOf_52 (by assumption) rfl (by omega) (by (repeat first | with_reducible exact wI_e _ _ _ _ | (with_reducible apply rd_s; focus omega) | (with_reducible apply rd_c; focus omega) | (with_reducible apply rd_k; focus omega) | with_reducible exact rd_e (by omega)); first | done | assumption | rfl) ?_
        refine J_ishl qX6_aimsOf_53 ?_
        rw [ni_shl1 _ a8]
        refine J_ior qX6_aimsOf_54 ?_
        rw [ni_or]
        refine J_ist3 qX6_aimsOf_55 (Nat.le_of_ble_eq_true rfl) rfl ?_
        refine J_inc5 qX6_aimsOf_56 (Nat.le_of_ble_eq_true rfl) (by first | with_reducible exact nI_inc _ | rfl) rfl ?_
        refine J_goto qX6_aimsOf_59 ?_
        exact h3
      refine J_iload (i := 4) qX6_aimsOf_14 rfl ?_
      refine J_iload_n (i := 3) qX6_aimsOf_16 rfl rfl ?_
      refine J_aload_n (i := 0) qX6_aimsOf_17 rfl rfl ?_
      refine J_getR qX6_aimsOf_18 fX6_32 (by assumption) (by assumption) ?_
      refine J_pushI qX6_aimsOf_21 ?_
      refine J_iload (i := 5) qX6_aimsOf_23 rfl ?_
      first | with_reducible refine J_iadd_n qX6_aimsOf_25 ?_ | refine J_iadd qX6_aimsOf_25 ?_
      refine J_ialde qX6_aimsOf_26 (by assumption) rfl (by omega) (by (repeat first | with_reducible exact wI_e _ _ _ _ | (with_reducible apply rd_s; focus omega) | (with_reducible apply rd_c; focus omega) | (with_reducible apply rd_k; focus omega) | with_reducible exact rd_e (by omega)); first | done | assumption | rfl) ?_
      refine J_si2 qX6_aimsOf_27 kX6_238 (m_has (d := d) sl a8) (Nat.le_of_ble_eq_true rfl) (fun v1 μ' hr => ?_)
      obtain ⟨rfl, rfl⟩ := hr
      by_cases cb : seenF cs i m / 2 ^ (cg cs (i + m)).2.2.1 % 2 = 1
      · rw [show bitB (seenF cs i m) (cg cs (i + m)).2.2.1 = true from decide_eq_true cb]
        first | refine J_if_eq qX6_aimsOf_30 (fun _ => ?_) (fun c => absurd b2i_f0 c) | refine J_if_eq qX6_aimsOf_30 (fun c => absurd c b2i_t0) (fun _ => ?_)
        refine J_pushI qX6_aimsOf_33 ?_
        refine J_goto qX6_aimsOf_34 ?_
        exact nxt 0 (if_pos cb).symm
      · rw [show bitB (seenF cs i m) (cg cs (i + m)).2.2.1 = false from decide_eq_false cb]
        first | refine J_if_eq qX6_aimsOf_30 (fun _ => ?_) (fun c => absurd b2i_f0 c) | refine J_if_eq qX6_aimsOf_30 (fun c => absurd c b2i_t0) (fun _ => ?_)
        refine J_pushI qX6_aimsOf_37 ?_
        exact nxt 1 (if_neg cb).symm
  have h0 := H 0 (Nat.zero_le _)
  rw [show seenF cs i 0 = 0 from rfl, show popF 0 = 0 by decide] at h0
  exact h0
theorem m_weightOf (hM : LayM G) (hc : MC μ 206 0 cs) {i m : Nat} {j : Int32} (him : i + m ≤ cs.length) (hj : ∀ k, k ≤ cs.length → (j < nI k ↔ i + m ≤ k)) : Si mX6_weightOf (d) [.ref 198, .int (nI i), .int j] G μ (fun r μ' => μ = μ' ∧ r = nI (wgF cs i m)) := by
  obtain ⟨mO, ⟨-, -, -, -, -, -, -, f17, -⟩, ⟨-, -, -, -, -, -, -, b206, -⟩⟩ := hM
  have h12 := hc.2.1
  refine Si_of (ls := [.ref 198, .int (nI i), .int j, .null, .null]) (by decide +kernel) (Nat.le_of_ble_eq_true rfl) rfl ?_
  refine J_pushI qX6_weightOf_0 ?_
  refine J_ist3 qX6_weightOf_1 (Nat.le_of_ble_eq_true rfl) rfl ?_
  refine J_iload_n (i := 1) qX6_weightOf_2 rfl rfl ?_
  refine J_ist4 qX6_weightOf_3 (Nat.le_of_ble_eq_true rfl) rfl ?_
  refine ind_up (n := m) (P := fun k => J mX6_weightOf (d) (0, 0) s0 (Ki G (fun r μ' => μ = μ' ∧ r = nI (wgF cs i m))) (0, 0) 5 [.ref 198, .int (nI i), .int j, .int (nI (wgF cs i k)), .int (nI (i + k))] [] (G, μ)) (fun k hk ih => ?_) 0 (Nat.zero_le _)
  refine J_iload (i := 4) qX6_weightOf_5 rfl ?_
  refine J_iload_n (i := 2) qX6_weightOf_7 rfl rfl ?_
  refine J_icmp_gt qX6_weightOf_8 (fun c => ?_) (fun c => ?_)
  · have := (hj (i + k) (by omega)).mp c
    refine J_iload_n (i := 3) qX6_weightOf_30 rfl rfl ?_
    refine Ji_ret qX6_weightOf_31 ?_
    exact ⟨rfl, by rw [show m = k by omega]⟩
  · have hkm : k < m := by
      have : ¬ i + m ≤ i + k := fun z => c ((hj (i + k) (by omega)).mpr z)
      omega
    have e3 := hc.wt (k := i + k) (by omega)
    refine J_iload_n (i := 3) qX6_weightOf_11 rfl rfl ?_
    refine J_aload_n (i := 0) qX6_weightOf_12 rfl rfl ?_
    refine J_getR qX6_weightOf_13 fX6_32 (by assumption) (by assumption) ?_
    refine J_pushI qX6_weightOf_16 ?_
    refine J_iload (i := 4) qX6_weightOf_18 rfl ?_
    first | with_reducible refine J_iadd_n qX6_weightOf_20 ?_ | refine J_iadd qX6_weightOf_20 ?_
    refine J_ialde qX6_weightOf_21 (by assumption) rfl (by omega) (by (repeat first | with_reducible exact wI_e _ _ _ _ | (with_reducible apply rd_s; focus omega) | (with_reducible apply rd_c; focus omega) | (with_reducible apply rd_k; focus omega) | with_reducible exact rd_e (by omega)); first | done | assumption | rfl) ?_
    first | with_reducible refine J_iadd_n qX6_weightOf_22 ?_ | refine J_iadd qX6_weightOf_22 ?_
    refine J_ist3 qX6_weightOf_23 (Nat.le_of_ble_eq_true rfl) rfl ?_
    refine J_inc4 qX6_weightOf_24 (Nat.le_of_ble_eq_true rfl) (by first | with_reducible exact nI_inc _ | rfl) rfl ?_
    refine J_goto qX6_weightOf_27 ?_
    exact ih hkm
theorem m_stepsBy (hM : LayM G) (hc : MC μ 206 0 cs) (ho : OkC cs) {t i j : Nat} (ht1 : 1 ≤ t) (ht4 : t ≤ 4) (hij : i ≤ j) (hj : j < cs.length) : Si mX6_stepsBy (d+2) [.ref 198, .int (nI t), .int (nI i), .int (nI j)] G μ (fun r μ' => μ = μ' ∧ r = nI (stF t (aimF cs i (j + 1 - i)))) := by
  have mO := hM.1
  have h12 := hc.2.1
  refine Si_of (ls := [.ref 198, .int (nI t), .int (nI i), .int (nI j)]) (by decide +kernel) (Nat.le_of_ble_eq_true rfl) rfl ?_
  match t, ht1, ht4 with
  | 1, _, _ =>
    refine J_iload_n (i := 1) qX6_stepsBy_0 rfl rfl ?_
    refine J_pushI qX6_stepsBy_1 ?_
    refine J_icmp_ne_n qX6_stepsBy_2 (by omega) (by omega) (fun _ => ?_) (fun z => absurd z (by omega))
    refine J_iload_n (i := 1) qX6_stepsBy_9 rfl rfl ?_
    refine J_pushI qX6_stepsBy_10 ?_
    refine J_icmp_ne_n qX6_stepsBy_11 (by omega) (by omega) (fun _ => ?_) (fun z => absurd z (by omega))
    refine J_iload_n (i := 1) qX6_stepsBy_25 rfl rfl ?_
    refine J_pushI qX6_stepsBy_26 ?_
    first | with_reducible refine J_iadd_n qX6_stepsBy_27 ?_ | refine J_iadd qX6_stepsBy_27 ?_
    refine Ji_ret qX6_stepsBy_28 ?_
    exact ⟨rfl, rfl⟩
  | 2, _, _ =>
    refine J_iload_n (i := 1) qX6_stepsBy_0 rfl rfl ?_
    refine J_pushI qX6_stepsBy_1 ?_
    refine J_icmp_ne_n qX6_stepsBy_2 (by omega) (by omega) (fun _ => ?_) (fun z => absurd z (by omega))
    refine J_iload_n (i := 1) qX6_stepsBy_9 rfl rfl ?_
    refine J_pushI qX6_stepsBy_10 ?_
    refine J_icmp_ne_n qX6_stepsBy_11 (by omega) (by omega) (fun _ => ?_) (fun z => absurd z (by omega))
    refine J_iload_n (i := 1) qX6_stepsBy_25 rfl rfl ?_
    refine J_pushI qX6_stepsBy_26 ?_
    first | with_reducible refine J_iadd_n qX6_stepsBy_27 ?_ | refine J_iadd qX6_stepsBy_27 ?_
    refine Ji_ret qX6_stepsBy_28 ?_
    exact ⟨rfl, rfl⟩
  | 3, _, _ =>
    refine J_iload_n (i := 1) qX6_stepsBy_0 rfl rfl ?_
    refine J_pushI qX6_stepsBy_1 ?_
    refine J_icmp_ne_n qX6_stepsBy_2 (by omega) (by omega) (fun _ => ?_) (fun z => absurd z (by omega))
    refine J_iload_n (i := 1) qX6_stepsBy_9 rfl rfl ?_
    refine J_pushI qX6_stepsBy_10 ?_
    refine J_icmp_ne_n qX6_stepsBy_11 (by omega) (by omega) (fun z => absurd rfl z) (fun _ => ?_)
    refine J_pushI qX6_stepsBy_14 ?_
    refine J_aload_n (i := 0) qX6_stepsBy_15 rfl rfl ?_
    refine J_iload_n (i := 2) qX6_stepsBy_16 rfl rfl ?_
    refine J_iload_n (i := 3) qX6_stepsBy_17 rfl rfl ?_
    refine J_vi2 qX6_stepsBy_18 kX6_241 (by assumption) (m_aimsOf (d := d) hM hc ho hij hj) (Nat.le_of_ble_eq_true rfl) (fun v1 μ' hr => ?_)
    obtain ⟨rfl, rfl⟩ := hr
    first | with_reducible refine J_iadd_n qX6_stepsBy_21 ?_ | refine J_iadd qX6_stepsBy_21 ?_
    refine J_goto qX6_stepsBy_22 ?_
    refine Ji_ret qX6_stepsBy_28 ?_
    exact ⟨rfl, rfl⟩
  | 4, _, _ =>
    refine J_iload_n (i := 1) qX6_stepsBy_0 rfl rfl ?_
    refine J_pushI qX6_stepsBy_1 ?_
    refine J_icmp_ne_n qX6_stepsBy_2 (by omega) (by omega) (fun z => absurd rfl z) (fun _ => ?_)
    refine J_pushI qX6_stepsBy_5 ?_
    refine J_goto qX6_stepsBy_6 ?_
    refine Ji_ret qX6_stepsBy_28 ?_
    exact ⟨rfl, rfl⟩
theorem m_sortOf (hM : LayM G) (hc : MC μ 206 0 cs) (ho : OkC cs) {i j al : Nat} (hij : i ≤ j) (hj : j < cs.length) (hal : al < 256) : Si mX6_sortOf (d+2) [.ref 198, .int (nI i), .int (nI j), .int (nI al)] G μ (fun r μ' => μ = μ' ∧ r = nI (sortF cs (bitB al 2) (bitB al 3) i j)) := by
  have mO := hM.1
  have h12 := hc.2.1
  have al8 : aimF cs i (j + 1 - i) ≤ 8 := by unfold aimF popF; omega
  refine Si_of (ls := [.ref 198, .int (nI i), .int (nI j), .int (nI al), .null, .null, .null, .null]) (by decide +kernel) (Nat.le_of_ble_eq_true rfl) rfl ?_
  refine J_aload_n (i := 0) qX6_sortOf_0 rfl rfl ?_
  refine J_iload_n (i := 1) qX6_sortOf_1 rfl rfl ?_
  refine J_iload_n (i := 2) qX6_sortOf_2 rfl rfl ?_
  refine J_vl2 qX6_sortOf_3 kX6_234 (by assumption) (m_spanOf (d := d + 1) hM hc (i := i) (j := j) (by omega) hj) (Nat.le_of_ble_eq_true rfl) (fun v1 μ' hr => ?_)
  obtain ⟨rfl, rfl⟩ := hr
  refine J_lst4 qX6_sortOf_6 (Nat.le_of_ble_eq_true rfl) rfl ?_
  refine J_iload_n (i := 1) qX6_sortOf_8 rfl rfl ?_
  refine J_iload_n (i := 2) qX6_sortOf_9 rfl rfl ?_
  first | with_reducible refine J_icmp_ne_n qX6_sortOf_10 (by omega) (by omega) (fun c1 => ?_) (fun c1 => ?_) | refine J_icmp_ne qX6_sortOf_10 (fun c1 => ?_) (fun c1 => ?_)
  · have eS : ∀ rb mb : Bool, rb = (bitB al 2 && rwB cs i j) → mb = (bitB al 3 && mkB cs i j) → sortF cs (bitB al 2) (bitB al 3) i j = if rb then (if mb && decide (aimF cs i (j + 1 - i) < 2) then 3 else 2) else if mb then 3 else 0 := fun rb mb e1 e2 => by
      rw [e1, e2]; exact if_neg c1
    have fin : ∀ rb mb : Bool, rb = (bitB al 2 && rwB cs i j) → mb = (bitB al 3 && mkB cs i j) → J mX6_sortOf (d+2) (0, 0) s0 (Ki G (fun r μ' => μ = μ' ∧ r = nI (sortF cs (bitB al 2) (bitB al 3) i j))) (0, 0) 100 [.ref 198, .int (nI i), .int (nI j), .int (nI al), .long (spanF cs i j), .null, .int (b2i rb), .int (b2i mb)] [] (G, μ) := fun rb mb e1 e2 => by
      rw [eS rb mb e1 e2]
      refine J_iload (i := 6) qX6_sortOf_100 rfl ?_
      cases rb with
      | false =>
        first | refine J_if_eq qX6_sortOf_102 (fun _ => ?_) (fun c => absurd b2i_f0 c) | refine J_if_eq qX6_sortOf_102 (fun c => absurd c b2i_t0) (fun _ => ?_)
        refine J_iload (i := 6) qX6_sortOf_128 rfl ?_
        first | refine J_if_eq qX6_sortOf_130 (fun _ => ?_) (fun c => absurd b2i_f0 c) | refine J_if_eq qX6_sortOf_130 (fun c => absurd c b2i_t0) (fun _ => ?_)
        refine J_iload (i := 7) qX6_sortOf_137 rfl ?_
        cases mb with
        | false =>
          first | refine J_if_eq qX6_sortOf_139 (fun _ => ?_) (fun c => absurd b2i_f0 c) | refine J_if_eq qX6_sortOf_139 (fun c => absurd c b2i_t0) (fun _ => ?_)
          refine J_pushI qX6_sortOf_146 ?_
          refine Ji_ret qX6_sortOf_147 ?_
          exact ⟨rfl, rfl⟩
        | true =>
          first | refine J_if_eq qX6_sortOf_139 (fun _ => ?_) (fun c => absurd b2i_f0 c) | refine J_if_eq qX6_sortOf_139 (fun c => absurd c b2i_t0) (fun _ => ?_)
          refine J_pushI qX6_sortOf_142 ?_
          refine J_goto qX6_sortOf_143 ?_
          refine Ji_ret qX6_sortOf_147 ?_
          exact ⟨rfl, rfl⟩
      | true =>
        first | refine J_if_eq qX6_sortOf_102 (fun _ => ?_) (fun c => absurd b2i_f0 c) | refine J_if_eq qX6_sortOf_102 (fun c => absurd c b2i_t0) (fun _ => ?_)
        refine J_iload (i := 7) qX6_sortOf_105 rfl ?_
        cases mb with
        | false =>
          first | refine J_if_eq qX6_sortOf_107 (fun _ => ?_) (fun c => absurd b2i_f0 c) | refine J_if_eq qX6_sortOf_107 (fun c => absurd c b2i_t0) (fun _ => ?_)
          refine J_iload (i := 6) qX6_sortOf_128 rfl ?_
          first | refine J_if_eq qX6_sortOf_130 (fun _ => ?_) (fun c => absurd b2i_f0 c) | refine J_if_eq qX6_sortOf_130 (fun c => absurd c b2i_t0) (fun _ => ?_)
          refine J_pushI qX6_sortOf_133 ?_
          refine J_goto qX6_sortOf_134 ?_
          refine Ji_ret qX6_sortOf_147 ?_
          exact ⟨rfl, rfl⟩
        | true =>
          first | refine J_if_eq qX6_sortOf_107 (fun _ => ?_) (fun c => absurd b2i_f0 c) | refine J_if_eq qX6_sortOf_107 (fun c => absurd c b2i_t0) (fun _ => ?_)
          refine J_aload_n (i := 0) qX6_sortOf_110 rfl rfl ?_
          refine J_iload_n (i := 1) qX6_sortOf_111 rfl rfl ?_
          refine J_iload_n (i := 2) qX6_sortOf_112 rfl rfl ?_
          refine J_vi2 qX6_sortOf_113 kX6_241 (by assumption) (m_aimsOf (d := d) hM hc ho hij hj) (Nat.le_of_ble_eq_true rfl) (fun v1 μ' hr => ?_)
          obtain ⟨rfl, rfl⟩ := hr
          refine J_pushI qX6_sortOf_116 ?_
          first | with_reducible refine J_icmp_ge_n qX6_sortOf_117 (by omega) (by omega) (fun c2 => ?_) (fun c2 => ?_) | refine J_icmp_ge qX6_sortOf_117 (fun c2 => ?_) (fun c2 => ?_)
          · refine J_pushI qX6_sortOf_124 ?_
            refine J_goto qX6_sortOf_125 ?_
            refine Ji_ret qX6_sortOf_147 ?_
            refine ⟨rfl, ?_⟩
            rw [if_pos rfl, show decide (aimF cs i (j + 1 - i) < 2) = false from decide_eq_false (by omega)]
            rfl
          · refine J_pushI qX6_sortOf_120 ?_
            refine J_goto qX6_sortOf_121 ?_
            refine Ji_ret qX6_sortOf_147 ?_
            refine ⟨rfl, ?_⟩
            rw [if_pos rfl, show decide (aimF cs i (j + 1 - i) < 2) = true from decide_eq_true c2]
            rfl
    clear eS
    have midd : ∀ (rb mb : Bool), rb = (bitB al 2 && rwB cs i j) → mb = (bitB al 3 && mkB cs i j) → ∀ v : Value, J mX6_sortOf (d+2) (0, 0) s0 (Ki G (fun r μ' => μ = μ' ∧ r = nI (sortF cs (bitB al 2) (bitB al 3) i j))) (0, 0) 98 [.ref 198, .int (nI i), .int (nI j), .int (nI al), .long (spanF cs i j), .null, .int (b2i rb), v] [.int (b2i mb)] (G, μ) := fun rb mb e1 e2 v => by
      refine J_ist7 qX6_sortOf_98 (Nat.le_of_ble_eq_true rfl) rfl ?_
      exact fin rb mb e1 e2
    have mid : ∀ (rb : Bool), rb = (bitB al 2 && rwB cs i j) → ∀ v : Value, J mX6_sortOf (d+2) (0, 0) s0 (Ki G (fun r μ' => μ = μ' ∧ r = nI (sortF cs (bitB al 2) (bitB al 3) i j))) (0, 0) 64 [.ref 198, .int (nI i), .int (nI j), .int (nI al), .long (spanF cs i j), .null, v, .null] [.int (b2i rb)] (G, μ) := fun rb e1 v => by
      refine J_ist6 qX6_sortOf_64 (Nat.le_of_ble_eq_true rfl) rfl ?_
      refine J_iload_n (i := 3) qX6_sortOf_66 rfl rfl ?_
      refine J_pushI qX6_sortOf_67 ?_
      refine J_si2 qX6_sortOf_68 kX6_238 (m_has (d := d + 1) hal (a := 3) (by omega)) (Nat.le_of_ble_eq_true rfl) (fun v1 μ' hr => ?_)
      obtain ⟨rfl, rfl⟩ := hr
      cases h3 : bitB al 3 with
      | false =>
        rw [h3] at midd
        first | refine J_if_eq qX6_sortOf_71 (fun _ => ?_) (fun c => absurd b2i_f0 c) | refine J_if_eq qX6_sortOf_71 (fun c => absurd c b2i_t0) (fun _ => ?_)
        refine J_pushI qX6_sortOf_97 ?_
        exact midd rb false e1 rfl _
      | true =>
        rw [h3] at midd
        first | refine J_if_eq qX6_sortOf_71 (fun _ => ?_) (fun c => absurd b2i_f0 c) | refine J_if_eq qX6_sortOf_71 (fun c => absurd c b2i_t0) (fun _ => ?_)
        refine J_lload (i := 4) qX6_sortOf_74 rfl ?_
        refine J_pushL qX6_sortOf_76 ?_
        refine J_lif_gt qX6_sortOf_79 qX6_sortOf_80 (fun c3 => ?_) (fun c3 => ?_)
        · refine J_pushI qX6_sortOf_97 ?_
          exact midd rb false e1 (by rw [show mkB cs i j = false from decide_eq_false (fun q => q.1 c3)]; rfl) _
        · refine J_aload_n (i := 0) qX6_sortOf_83 rfl rfl ?_
          refine J_iload_n (i := 1) qX6_sortOf_84 rfl rfl ?_
          refine J_iload_n (i := 2) qX6_sortOf_85 rfl rfl ?_
          refine J_vi2 qX6_sortOf_86 kX6_241 (by assumption) (m_aimsOf (d := d) hM hc ho hij hj) (Nat.le_of_ble_eq_true rfl) (fun v1 μ' hr => ?_)
          obtain ⟨rfl, rfl⟩ := hr
          refine J_pushI qX6_sortOf_89 ?_
          first | with_reducible refine J_icmp_gt_n qX6_sortOf_90 (by omega) (by omega) (fun c4 => ?_) (fun c4 => ?_) | refine J_icmp_gt qX6_sortOf_90 (fun c4 => ?_) (fun c4 => ?_)
          · refine J_pushI qX6_sortOf_97 ?_
            exact midd rb false e1 (by rw [show mkB cs i j = false from decide_eq_false (fun q => absurd q.2 (by omega))]; rfl) _
          · refine J_pushI qX6_sortOf_93 ?_
            refine J_goto qX6_sortOf_94 ?_
            exact midd rb true e1 (by rw [show mkB cs i j = true from decide_eq_true ⟨c3, by omega⟩]; rfl) _
    clear fin midd
    refine J_iload_n (i := 3) qX6_sortOf_26 rfl rfl ?_
    refine J_pushI qX6_sortOf_27 ?_
    refine J_si2 qX6_sortOf_28 kX6_238 (m_has (d := d + 1) hal (a := 2) (by omega)) (Nat.le_of_ble_eq_true rfl) (fun v1 μ' hr => ?_)
    obtain ⟨rfl, rfl⟩ := hr
    cases h2 : bitB al 2 with
    | false =>
      rw [h2] at mid
      first | refine J_if_eq qX6_sortOf_31 (fun _ => ?_) (fun c => absurd b2i_f0 c) | refine J_if_eq qX6_sortOf_31 (fun c => absurd c b2i_t0) (fun _ => ?_)
      refine J_pushI qX6_sortOf_63 ?_
      exact mid false rfl _
    | true =>
      rw [h2] at mid
      first | refine J_if_eq qX6_sortOf_31 (fun _ => ?_) (fun c => absurd b2i_f0 c) | refine J_if_eq qX6_sortOf_31 (fun c => absurd c b2i_t0) (fun _ => ?_)
      refine J_lload (i := 4) qX6_sortOf_34 rfl ?_
      refine J_pushL qX6_sortOf_36 ?_
      refine J_lif_gt qX6_sortOf_39 qX6_sortOf_40 (fun c3 => ?_) (fun c3 => ?_)
      · refine J_pushI qX6_sortOf_63 ?_
        exact mid false (by rw [show rwB cs i j = false from decide_eq_false (fun q => q.1 c3)]; rfl) _
      · refine J_lload (i := 4) qX6_sortOf_43 rfl ?_
        refine J_pushL qX6_sortOf_45 ?_
        refine J_aload_n (i := 0) qX6_sortOf_48 rfl rfl ?_
        refine J_iload_n (i := 1) qX6_sortOf_49 rfl rfl ?_
        refine J_iload_n (i := 2) qX6_sortOf_50 rfl rfl ?_
        refine J_vl2 qX6_sortOf_51 kX6_248 (by assumption) (m_coveredBy (d := d) hM hc hij hj) (Nat.le_of_ble_eq_true rfl) (fun v1 μ' hr => ?_)
        obtain ⟨rfl, rfl⟩ := hr
        refine J_lmul qX6_sortOf_54 ?_
        refine J_lif_gt qX6_sortOf_55 qX6_sortOf_56 (fun c4 => ?_) (fun c4 => ?_)
        · refine J_pushI qX6_sortOf_63 ?_
          exact mid false (by rw [show rwB cs i j = false from decide_eq_false (fun q => q.2 c4)]; rfl) _
        · refine J_pushI qX6_sortOf_59 ?_
          refine J_goto qX6_sortOf_60 ?_
          exact mid true (by rw [show rwB cs i j = true from decide_eq_true ⟨c3, c4⟩]; rfl) _
  · subst c1
    have eS : sortF cs (bitB al 2) (bitB al 3) i i = if (cg cs i).1 = (cg cs i).2.1 then 4 else 1 := if_pos rfl
    refine J_lload (i := 4) qX6_sortOf_13 rfl ?_
    refine J_pushL qX6_sortOf_15 ?_
    refine J_lif_ne qX6_sortOf_16 qX6_sortOf_17 (fun c2 => ?_) (fun c2 => ?_)
    · refine J_pushI qX6_sortOf_24 ?_
      refine Ji_ret qX6_sortOf_25 ?_
      rw [eS, if_neg (fun z => c2 ((span_1 cs i).mpr z))]
      exact ⟨rfl, rfl⟩
    · refine J_pushI qX6_sortOf_20 ?_
      refine J_goto qX6_sortOf_21 ?_
      refine Ji_ret qX6_sortOf_25 ?_
      rw [eS, if_pos ((span_1 cs i).mp c2)]
      exact ⟨rfl, rfl⟩
theorem m_costOf (hM : LayM G) {i j : Nat} (hi : i < 12) (hj : j < 12) : Si mX6_costOf (d) [.ref 198, .int (nI i), .int (nI j)] G μ (fun r μ' => μ = μ' ∧ r = μ.1 211 (12 * i + j)) := by
  obtain ⟨mO, ⟨-, -, -, -, -, -, -, -, -, -, -, -, f24, -⟩, ⟨-, -, -, -, -, -, -, -, -, -, -, -, b211, -⟩⟩ := hM
  refine Si_of (ls := [.ref 198, .int (nI i), .int (nI j)]) (by decide +kernel) (Nat.le_of_ble_eq_true rfl) rfl ?_
  refine J_aload_n (i := 0) qX6_costOf_0 rfl rfl ?_
  refine J_getR qX6_costOf_1 fX6_47 (by assumption) (by assumption) ?_
  refine J_pushI qX6_costOf_4 ?_
  refine J_iload_n (i := 1) qX6_costOf_6 rfl rfl ?_
  first | with_reducible refine J_imul_n qX6_costOf_7 ?_ | refine J_imul qX6_costOf_7 ?_
  refine J_iload_n (i := 2) qX6_costOf_8 rfl rfl ?_
  first | with_reducible refine J_iadd_n qX6_costOf_9 ?_ | refine J_iadd qX6_costOf_9 ?_
  refine J_ialde qX6_costOf_10 (by assumption) rfl (by omega) (by (repeat first | with_reducible exact wI_e _ _ _ _ | (with_reducible apply rd_s; focus omega) | (with_reducible apply rd_c; focus omega) | (with_reducible apply rd_k; focus omega) | with_reducible exact rd_e (by omega)); first | done | assumption | rfl) ?_
  refine Ji_ret qX6_costOf_11 ?_
  exact ⟨rfl, rfl⟩
end MM
