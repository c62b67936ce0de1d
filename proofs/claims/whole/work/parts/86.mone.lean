/-! THE MODEL: a whole text -/
theorem tk_let {T : List Int32} {p : Nat} (h : tkK T p = 1) : ∀ k, tkS T p ≤ k → k < tkE T p → isLet T k = true := by
  intro k h1 h2
  unfold tkK kdA at h
  unfold tkE enA2 at h2
  by_cases c : T.length ≤ tkS T p
  · rw [if_pos c] at h; cases h
  · rw [if_neg c] at h h2
    by_cases c1 : isLet T (tkS T p) = true
    · rw [if_pos c1] at h2
      exact over_all h1 h2
    · rw [if_neg c1] at h
      by_cases c2 : (negB T (tkS T p) || isFig T (tkS T p)) = true
      · rw [if_pos c2] at h; split at h <;> omega
      · rw [if_neg c2] at h; split at h <;> omega
def wv (T : List Int32) (s e : Nat) : Nat := if 6 < e - s then 0 else wdN T s (e - s)
theorem isWd_long {T : List Int32} {s e i : Nat} (h : 6 < e - s) : isWd T s e i = false := decide_eq_false (fun q => by
  have := ln_le i
  omega)
theorem wv_lt {T : List Int32} {s e : Nat} (hl : ∀ k, s ≤ k → k < e → isLet T k = true) : wv T s e < 387420489 := by
  unfold wv
  split
  · omega
  · have h1 := wdN_lt (T := T) (s := s) (e - s) (by omega) (fun k hk => hl _ (by omega) (by omega))
    have h2 : 27 ^ (e - s) ≤ 27 ^ 6 := Nat.pow_le_pow_right (by omega) (by omega)
    have h3 : 27 ^ 6 = 387420489 := rfl
    omega
theorem wv_is {T : List Int32} {s e : Nat} (hse : s ≤ e) (hl : ∀ k, s ≤ k → k < e → isLet T k = true) : isWd T s e 0 = decide (wv T s e = 358472) ∧ isWd T s e 1 = decide (wv T s e = 9596021) ∧ isWd T s e 2 = decide (wv T s e = 276647) ∧ isWd T s e 3 = decide (wv T s e = 60296) := by
  unfold wv
  by_cases c : 6 < e - s
  · rw [if_pos c, isWd_long c, isWd_long c, isWd_long c, isWd_long c]
    decide
  · rw [if_neg c]
    have h : ∀ k, k < e - s → isLet T (s + k) = true := fun k hk => hl _ (by omega) (by omega)
    have h1 := wd_rest h
    have h2 := wd_range h
    have h3 := wd_name h
    have h4 := wd_case h
    rw [show s + (e - s) = e by omega] at h1 h2 h3 h4
    exact ⟨h1, h2, h3, h4⟩
theorem stm_no {T : List Int32} {p : Nat} {cs : List Cs} {rt : Bool} {rest : Nat} (h : ¬ tkK T p = 1) : stmF T p cs rt rest = .error (tkS T p) := if_neg h
theorem stm_rest {T : List Int32} {p : Nat} {cs : List Cs} {rt : Bool} {rest : Nat} (h : tkK T p = 1) (h0 : isWd T (tkS T p) (tkE T p) 0 = true) : stmF T p cs rt rest = match rsF T (tkS T p) (tkE T p) rt with | .error e => .error e | .ok x => .ok (cs, true, x.1, x.2) := by
  unfold stmF
  rw [if_pos h, if_pos h0]
  cases rsF T (tkS T p) (tkE T p) rt <;> rfl
theorem stm_bad {T : List Int32} {p : Nat} {cs : List Cs} {rt : Bool} {rest : Nat} (h : tkK T p = 1) (h0 : isWd T (tkS T p) (tkE T p) 0 = false) (h1 : ¬ ((isWd T (tkS T p) (tkE T p) 1 || isWd T (tkS T p) (tkE T p) 2 || isWd T (tkS T p) (tkE T p) 3) = true ∧ cs.length < 12)) : stmF T p cs rt rest = .error (tkS T p) := by
  unfold stmF
  rw [if_pos h, if_neg (by rw [h0]; decide), if_neg h1]
theorem stm_case {T : List Int32} {p : Nat} {cs : List Cs} {rt : Bool} {rest : Nat} (h : tkK T p = 1) (h0 : isWd T (tkS T p) (tkE T p) 0 = false) (h1 : (isWd T (tkS T p) (tkE T p) 1 || isWd T (tkS T p) (tkE T p) 2 || isWd T (tkS T p) (tkE T p) 3) = true ∧ cs.length < 12) : stmF T p cs rt rest = thenF T cs rt rest (if isWd T (tkS T p) (tkE T p) 2 then nmF T (tkE T p) cs else nbF T (tkE T p) cs (isWd T (tkS T p) (tkE T p) 1)) := by
  unfold stmF thenF
  rw [if_pos h, if_neg (by rw [h0]; decide), if_pos h1]
  generalize (if isWd T (tkS T p) (tkE T p) 2 = true then nmF T (tkE T p) cs else nbF T (tkE T p) cs (isWd T (tkS T p) (tkE T p) 1)) = o
  cases o with
  | error e => rfl
  | ok x =>
    dsimp only
    cases tlF T x.2.2 <;> rfl
theorem stm_id {T : List Int32} {p : Nat} {cs : List Cs} {rt : Bool} {rest : Nat} (hp : p ≤ T.length) : stmF T (tkS T p) cs rt rest = stmF T p cs rt rest := by
  unfold stmF
  rw [tkK_id hp, tkS_id hp, tkE_id hp]
theorem MOut.fr {α : Type} {o : Except Nat α} {μ ν μ' : Mm} {P : α → Mm → Prop} {r : Int32} (h : MOut o ν P r μ') (hF : FrS μ ν) : MOut o μ P r μ' := by
  cases o with
  | error e => exact ⟨h.1, h.2.1, hF.tr h.2.2⟩
  | ok x => exact ⟨h.1, h.2.1, hF.tr h.2.2⟩
theorem MOut.fs {α : Type} {o : Except Nat α} {μ μ' : Mm} {P : α → Mm → Prop} {r : Int32} (h : MOut o μ P r μ') : FrS μ μ' := by
  cases o with
  | error e => exact h.2.2
  | ok x => exact h.2.2
theorem lk_off (v : Nat) (hv : v < 387420489) : Op.lookupswitch.offset [(60296, 43), (276647, 77), (358472, 94), (9596021, 60)] 100 (nI v).toInt = if v = 60296 then 43 else if v = 276647 then 77 else if v = 358472 then 94 else if v = 9596021 then 60 else 100 := by
  rw [nI_toInt (by omega)]
  show (if (60296 : Int) = (v : Int) then (43 : Int) else if (276647 : Int) = (v : Int) then 77 else if (358472 : Int) = (v : Int) then 94 else if (9596021 : Int) = (v : Int) then 60 else 100) = _
  by_cases c1 : v = 60296
  · rw [if_pos (by omega), if_pos c1]
  · rw [if_neg (by omega), if_neg c1]
    by_cases c2 : v = 276647
    · rw [if_pos (by omega), if_pos c2]
    · rw [if_neg (by omega), if_neg c2]
      by_cases c3 : v = 358472
      · rw [if_pos (by omega), if_pos c3]
      · rw [if_neg (by omega), if_neg c3]
        by_cases c4 : v = 9596021
        · rw [if_pos (by omega), if_pos c4]
        · rw [if_neg (by omega), if_neg c4]
section MM
variable {G : Gm} {μ : Mm} {d t p : Nat} {s : St} {T : List Int32} {cs : List Cs} {rt : Bool} {rest : Nat}
theorem m_readsOne (hM : LayM G) (ht : t < 4) (hR : RdM μ t T p) (hc : MC μ 205 0 cs) (ho : OkC cs) (h13 : μ.1 198 13 = b2i rt) (h14 : μ.1 198 14 = nI rest) (hr9 : rest < 10) : Si mX6_readsOne (d+6) [.ref 198, .int (nI t)] G μ (fun r μ' => MOut (stmF T p cs rt rest) μ (SOut t T) r μ') := by
  have hM0 := hM
  obtain ⟨mO, ⟨f2, f3, f4, f5, f6, f7, f15, -⟩, ⟨b199, b200, b201, b202, b203, b204, b205, -⟩⟩ := hM
  have h12 := hc.2.1
  have hp := hR.2.2
  have se := tkE_le hp
  have k4 : tkK T p ≤ 4 := by
    unfold tkK kdA
    split
    · omega
    · split
      · omega
      · split
        · split <;> omega
        · split <;> omega
  refine Si_of (ls := [.ref 198, .int (nI t), .null, .null]) (by decide +kernel) (Nat.le_of_ble_eq_true rfl) rfl ?_
  refine J_aload_n (i := 0) qX6_readsOne_0 rfl rfl ?_
  refine J_iload_n (i := 1) qX6_readsOne_1 rfl rfl ?_
  refine J_vv1 qX6_readsOne_2 kX6_133 (by assumption) (m_next (d := d + 3) hM0 ht hR) (Nat.le_of_ble_eq_true rfl) (fun ν hr => ?_)
  obtain ⟨g1, g2, g3, -, g5⟩ := hr
  have hc' := hc.nx g5
  have e0 := hc'.n0
  have n13 : ν.1 198 13 = b2i rt := (g5.1 _ _ (by omega)).trans h13
  have n14 : ν.1 198 14 = nI rest := (g5.1 _ _ (by omega)).trans h14
  have fl : ∀ v2 v3 : Value, stmF T p cs rt rest = .error (tkS T p) → J mX6_readsOne (d+6) (0, 0) s0 (Ki G (fun r μ' => MOut (stmF T p cs rt rest) μ (SOut t T) r μ')) (0, 0) 141 [.ref 198, .int (nI t), v2, v3] [] (G, ν) := fun v2 v3 e => by
    rw [e]
    refine J_aload_n (i := 0) qX6_readsOne_141 rfl rfl ?_
    refine J_vi0 qX6_readsOne_142 kX6_136 (by assumption) (m_fails (d := d + 5) hM0 g2) (Nat.le_of_ble_eq_true rfl) (fun v1 ν1 hr => ?_)
    obtain ⟨rfl, rfl⟩ := hr
    refine Jz_ret qX6_readsOne_145 (by first | exact Or.inl rfl | exact Or.inr rfl | assumption) ?_
    exact ⟨rfl, wI_e _ _ _ _, (g5.w (by omega)).s⟩
  have main : ∀ v : Nat, v < 387420489 → (v = 60296 → stmF T p cs rt rest = if cs.length < 12 then thenF T cs rt rest (nbF T (tkE T p) cs false) else .error (tkS T p)) → (v = 9596021 → stmF T p cs rt rest = if cs.length < 12 then thenF T cs rt rest (nbF T (tkE T p) cs true) else .error (tkS T p)) → (v = 276647 → stmF T p cs rt rest = if cs.length < 12 then thenF T cs rt rest (nmF T (tkE T p) cs) else .error (tkS T p)) → (v = 358472 → stmF T p cs rt rest = match rsF T (tkS T p) (tkE T p) rt with | .error e => .error e | .ok x => .ok (cs, true, x.1, x.2)) → (¬ v = 60296 → ¬ v = 9596021 → ¬ v = 276647 → ¬ v = 358472 → stmF T p cs rt rest = .error (tkS T p)) → J mX6_readsOne (d+6) (0, 0) s0 (Ki G (fun r μ' => MOut (stmF T p cs rt rest) μ (SOut t T) r μ')) (0, 0) 22 [.ref 198, .int (nI t), .null, .null] [.int (nI v)] (G, ν) := fun v hv q1 q2 q3 q4 q5 => by
    have sw : ∀ b : Bool, b = decide (cs.length < 12) → J mX6_readsOne (d+6) (0, 0) s0 (Ki G (fun r μ' => MOut (stmF T p cs rt rest) μ (SOut t T) r μ')) (0, 0) 39 [.ref 198, .int (nI t), .int (nI v), .null] [.int (b2i b)] (G, ν) := fun b eb => by
      have lk := lk_off v hv
      refine J_ist3 qX6_readsOne_39 (Nat.le_of_ble_eq_true rfl) rfl ?_
      refine J_iload_n (i := 2) qX6_readsOne_40 rfl rfl ?_
      by_cases c1 : v = 60296
      · rw [if_pos c1] at lk
        refine J_look (tgt := 84) qX6_readsOne_41 (by decide) lk (by decide) ?_
        rw [q1 c1]
        refine J_iload_n (i := 3) qX6_readsOne_84 rfl rfl ?_
        cases b with
        | false =>
          first | refine J_if_eq qX6_readsOne_85 (fun _ => ?_) (fun c => absurd b2i_f0 c) | refine J_if_eq qX6_readsOne_85 (fun c => absurd c b2i_t0) (fun _ => ?_)
          rw [if_neg (of_decide_eq_false eb.symm)]
          refine J_aload_n (i := 0) qX6_readsOne_96 rfl rfl ?_
          refine J_vi0 qX6_readsOne_97 kX6_136 (by assumption) (m_fails (d := d + 5) hM0 g2) (Nat.le_of_ble_eq_true rfl) (fun v1 ν1 hr => ?_)
          obtain ⟨rfl, rfl⟩ := hr
          refine Jz_ret qX6_readsOne_100 (by first | exact Or.inl rfl | exact Or.inr rfl | assumption) ?_
          exact ⟨rfl, wI_e _ _ _ _, (g5.w (by omega)).s⟩
        | true =>
          have hlt := of_decide_eq_true eb.symm
          first | refine J_if_eq qX6_readsOne_85 (fun _ => ?_) (fun c => absurd b2i_f0 c) | refine J_if_eq qX6_readsOne_85 (fun c => absurd c b2i_t0) (fun _ => ?_)
          rw [if_pos hlt]
          refine J_aload_n (i := 0) qX6_readsOne_88 rfl rfl ?_
          refine J_iload_n (i := 1) qX6_readsOne_89 rfl rfl ?_
          refine J_vi1 qX6_readsOne_90 kX6_183 (by assumption) (m_readsCase (d := d) hM0 ht g1 hc' ho hlt n13 n14 hr9) (Nat.le_of_ble_eq_true rfl) (fun v1 ν1 hr => ?_)
          refine J_goto qX6_readsOne_93 ?_
          refine Jz_ret qX6_readsOne_100 (MO01 hr) ?_
          exact hr.fr g5.s
      · rw [if_neg c1] at lk
        by_cases c2 : v = 276647
        · rw [if_pos c2] at lk
          refine J_look (tgt := 118) qX6_readsOne_41 (by decide) lk (by decide) ?_
          rw [q3 c2]
          refine J_iload_n (i := 3) qX6_readsOne_118 rfl rfl ?_
          cases b with
          | false =>
            first | refine J_if_eq qX6_readsOne_119 (fun _ => ?_) (fun c => absurd b2i_f0 c) | refine J_if_eq qX6_readsOne_119 (fun c => absurd c b2i_t0) (fun _ => ?_)
            rw [if_neg (of_decide_eq_false eb.symm)]
            refine J_aload_n (i := 0) qX6_readsOne_130 rfl rfl ?_
            refine J_vi0 qX6_readsOne_131 kX6_136 (by assumption) (m_fails (d := d + 5) hM0 g2) (Nat.le_of_ble_eq_true rfl) (fun v1 ν1 hr => ?_)
            obtain ⟨rfl, rfl⟩ := hr
            refine Jz_ret qX6_readsOne_134 (by first | exact Or.inl rfl | exact Or.inr rfl | assumption) ?_
            exact ⟨rfl, wI_e _ _ _ _, (g5.w (by omega)).s⟩
          | true =>
            have hlt := of_decide_eq_true eb.symm
            first | refine J_if_eq qX6_readsOne_119 (fun _ => ?_) (fun c => absurd b2i_f0 c) | refine J_if_eq qX6_readsOne_119 (fun c => absurd c b2i_t0) (fun _ => ?_)
            rw [if_pos hlt]
            refine J_aload_n (i := 0) qX6_readsOne_122 rfl rfl ?_
            refine J_iload_n (i := 1) qX6_readsOne_123 rfl rfl ?_
            refine J_vi1 qX6_readsOne_124 kX6_189 (by assumption) (m_readsName (d := d) hM0 ht g1 hc' ho hlt n13 n14 hr9) (Nat.le_of_ble_eq_true rfl) (fun v1 ν1 hr => ?_)
            refine J_goto qX6_readsOne_127 ?_
            refine Jz_ret qX6_readsOne_134 (MO01 hr) ?_
            exact hr.fr g5.s
        · rw [if_neg c2] at lk
          by_cases c3 : v = 358472
          · rw [if_pos c3] at lk
            refine J_look (tgt := 135) qX6_readsOne_41 (by decide) lk (by decide) ?_
            rw [q4 c3]
            refine J_aload_n (i := 0) qX6_readsOne_135 rfl rfl ?_
            refine J_iload_n (i := 1) qX6_readsOne_136 rfl rfl ?_
            refine J_vi1 qX6_readsOne_137 kX6_192 (by assumption) (m_readsRest (d := d + 1) hM0 ht g1 g2 hc' ho n13) (Nat.le_of_ble_eq_true rfl) (fun v1 ν1 hr => ?_)
            refine Jz_ret qX6_readsOne_140 (MO01 hr) ?_
            exact hr.fr g5.s
          · rw [if_neg c3] at lk
            by_cases c4 : v = 9596021
            · rw [if_pos c4] at lk
              refine J_look (tgt := 101) qX6_readsOne_41 (by decide) lk (by decide) ?_
              rw [q2 c4]
              refine J_iload_n (i := 3) qX6_readsOne_101 rfl rfl ?_
              cases b with
              | false =>
                first | refine J_if_eq qX6_readsOne_102 (fun _ => ?_) (fun c => absurd b2i_f0 c) | refine J_if_eq qX6_readsOne_102 (fun c => absurd c b2i_t0) (fun _ => ?_)
                rw [if_neg (of_decide_eq_false eb.symm)]
                refine J_aload_n (i := 0) qX6_readsOne_113 rfl rfl ?_
                refine J_vi0 qX6_readsOne_114 kX6_136 (by assumption) (m_fails (d := d + 5) hM0 g2) (Nat.le_of_ble_eq_true rfl) (fun v1 ν1 hr => ?_)
                obtain ⟨rfl, rfl⟩ := hr
                refine Jz_ret qX6_readsOne_117 (by first | exact Or.inl rfl | exact Or.inr rfl | assumption) ?_
                exact ⟨rfl, wI_e _ _ _ _, (g5.w (by omega)).s⟩
              | true =>
                have hlt := of_decide_eq_true eb.symm
                first | refine J_if_eq qX6_readsOne_102 (fun _ => ?_) (fun c => absurd b2i_f0 c) | refine J_if_eq qX6_readsOne_102 (fun c => absurd c b2i_t0) (fun _ => ?_)
                rw [if_pos hlt]
                refine J_aload_n (i := 0) qX6_readsOne_105 rfl rfl ?_
                refine J_iload_n (i := 1) qX6_readsOne_106 rfl rfl ?_
                refine J_vi1 qX6_readsOne_107 kX6_186 (by assumption) (m_readsRange (d := d) hM0 ht g1 hc' ho hlt n13 n14 hr9) (Nat.le_of_ble_eq_true rfl) (fun v1 ν1 hr => ?_)
                refine J_goto qX6_readsOne_110 ?_
                refine Jz_ret qX6_readsOne_117 (MO01 hr) ?_
                exact hr.fr g5.s
            · rw [if_neg c4] at lk
              refine J_look (tgt := 141) qX6_readsOne_41 (by decide) lk (by decide) ?_
              exact fl _ _ (q5 c1 c4 c2 c3)
    refine J_ist2 qX6_readsOne_22 (Nat.le_of_ble_eq_true rfl) rfl ?_
    refine J_aload_n (i := 0) qX6_readsOne_23 rfl rfl ?_
    refine J_getR qX6_readsOne_24 fX6_29 (by assumption) (by assumption) ?_
    refine J_pushI qX6_readsOne_27 ?_
    refine J_ialde qX6_readsOne_28 (by assumption) rfl (by omega) (by (repeat first | with_reducible exact wI_e _ _ _ _ | (with_reducible apply rd_s; focus omega) | (with_reducible apply rd_c; focus omega) | (with_reducible apply rd_k; focus omega) | with_reducible exact rd_e (by omega)); first | done | assumption | rfl) ?_
    refine J_pushI qX6_readsOne_29 ?_
    first | with_reducible refine J_icmp_ge_n qX6_readsOne_31 (by omega) (by omega) (fun c5 => ?_) (fun c5 => ?_) | refine J_icmp_ge qX6_readsOne_31 (fun c5 => ?_) (fun c5 => ?_)
    · refine J_pushI qX6_readsOne_38 ?_
      exact sw false (decide_eq_false (by omega)).symm
    · refine J_pushI qX6_readsOne_34 ?_
      refine J_goto qX6_readsOne_35 ?_
      exact sw true (decide_eq_true c5).symm
  refine J_aload_n (i := 0) qX6_readsOne_5 rfl rfl ?_
  refine J_getIe qX6_readsOne_6 fX6_110 (by assumption) (by (repeat first | with_reducible exact wI_e _ _ _ _ | (with_reducible apply rd_s; focus omega) | (with_reducible apply rd_c; focus omega) | (with_reducible apply rd_k; focus omega) | with_reducible exact rd_e (by omega)); first | done | assumption | rfl) ?_
  refine J_pushI qX6_readsOne_9 ?_
  refine J_icmp_ne_n qX6_readsOne_10 (by omega) (by omega) (fun c1 => ?_) (fun c1 => ?_)
  · refine J_pushI qX6_readsOne_21 ?_
    exact main 0 (by omega) (fun z => absurd z (by omega)) (fun z => absurd z (by omega)) (fun z => absurd z (by omega)) (fun z => absurd z (by omega)) (fun _ _ _ _ => stm_no c1)
  · have tl := tk_let c1
    obtain ⟨w0, w1, w2, w3⟩ := wv_is se.1 tl
    have wl := wv_lt tl
    refine J_aload_n (i := 0) qX6_readsOne_13 rfl rfl ?_
    refine J_iload_n (i := 1) qX6_readsOne_14 rfl rfl ?_
    refine J_vi1 qX6_readsOne_15 kX6_180 (by assumption) (m_word (d := d + 4) hM0 ht g1 g2 se.1 tl) (Nat.le_of_ble_eq_true rfl) (fun v1 μ' hr => ?_)
    obtain ⟨rfl, rfl⟩ := hr
    refine J_goto qX6_readsOne_18 ?_
    refine main (wv T (tkS T p) (tkE T p)) wl (fun z => ?_) (fun z => ?_) (fun z => ?_) (fun z => ?_) (fun z1 z2 z3 z4 => ?_)
    · rw [z] at w0 w1 w2 w3
      by_cases cl : cs.length < 12
      · rw [if_pos cl, stm_case c1 w0 ⟨by rw [w1, w2, w3]; rfl, cl⟩, w2, w1]
        rfl
      · rw [if_neg cl]
        exact stm_bad c1 w0 (fun y => cl y.2)
    · rw [z] at w0 w1 w2 w3
      by_cases cl : cs.length < 12
      · rw [if_pos cl, stm_case c1 w0 ⟨by rw [w1, w2, w3]; rfl, cl⟩, w2, w1]
        rfl
      · rw [if_neg cl]
        exact stm_bad c1 w0 (fun y => cl y.2)
    · rw [z] at w0 w1 w2 w3
      by_cases cl : cs.length < 12
      · rw [if_pos cl, stm_case c1 w0 ⟨by rw [w1, w2, w3]; rfl, cl⟩, w2]
        rfl
      · rw [if_neg cl]
        exact stm_bad c1 w0 (fun y => cl y.2)
    · rw [z] at w0
      exact stm_rest c1 w0
    · rw [decide_eq_false z1] at w3
      rw [decide_eq_false z2] at w1
      rw [decide_eq_false z3] at w2
      rw [decide_eq_false z4] at w0
      exact stm_bad c1 w0 (fun y => by rw [w1, w2, w3] at y; cases y.1)
theorem m_faultOf (hM : LayM G) (ht : t < 4) (hT : MT μ t T) : Si mX6_faultOf (d+7) [.ref 198, .int (nI t)] G μ (fun r μ' => r = fltV T ∧ (∀ x, parF T = .ok x → MC μ' 205 0 x.1 ∧ OkC x.1 ∧ μ'.1 198 14 = nI x.2 ∧ x.2 < 10) ∧ FrS μ μ') := by
  have hM0 := hM
  obtain ⟨mO, ⟨f2, f3, f4, f5, f6, f7, f15, -⟩, ⟨b199, b200, b201, b202, b203, b204, b205, -⟩⟩ := hM
  have T120 := hT.2.1
  have H : ∀ f p cs rt rest (ν : Mm), T.length < p + f → RdM ν t T (tkS T p) → p ≤ T.length → MC ν 205 0 cs → OkC cs → ν.1 198 13 = b2i rt → ν.1 198 14 = nI rest → rest < 10 → parF T = prF T f p cs rt rest → FrS μ ν → J mX6_faultOf (d+7) (0, 0) s0 (Ki G (fun r μ' => r = fltV T ∧ (∀ x, parF T = .ok x → MC μ' 205 0 x.1 ∧ OkC x.1 ∧ μ'.1 198 14 = nI x.2 ∧ x.2 < 10) ∧ FrS μ μ')) (0, 0) 27 [.ref 198, .int (nI t)] [] (G, ν) := by
    intro f
    induction f with
    | zero => intro p cs rt rest ν h1 h2 h3; omega
    | succ f ih =>
      intro p cs rt rest ν h1 hR hp hc ho h13 h14 hr9 hE hF
      have e8 := hR.2.1
      have e203 := hR.1.1
      have sl := tkS_le hp
      have kk : tkK T p = 0 ↔ T.length ≤ tkS T p := by
        unfold tkK kdA
        by_cases c : T.length ≤ tkS T p
        · rw [if_pos c]; exact ⟨fun _ => c, fun _ => rfl⟩
        · rw [if_neg c]
          refine ⟨fun z => ?_, fun z => absurd z c⟩
          split at z
          · omega
          · split at z
            · split at z <;> omega
            · split at z <;> omega
      refine J_aload_n (i := 0) qX6_faultOf_27 rfl rfl ?_
      refine J_getIe qX6_faultOf_28 fX6_97 (by assumption) (by (repeat first | with_reducible exact wI_e _ _ _ _ | (with_reducible apply rd_s; focus omega) | (with_reducible apply rd_c; focus omega) | (with_reducible apply rd_k; focus omega) | with_reducible exact rd_e (by omega)); first | done | assumption | rfl) ?_
      refine J_aload_n (i := 0) qX6_faultOf_31 rfl rfl ?_
      refine J_getR qX6_faultOf_32 fX6_22 (by assumption) (by assumption) ?_
      refine J_iload_n (i := 1) qX6_faultOf_35 rfl rfl ?_
      refine J_ialde qX6_faultOf_36 (by assumption) rfl (by omega) (by (repeat first | with_reducible exact wI_e _ _ _ _ | (with_reducible apply rd_s; focus omega) | (with_reducible apply rd_c; focus omega) | (with_reducible apply rd_k; focus omega) | with_reducible exact rd_e (by omega)); first | done | assumption | rfl) ?_
      first | with_reducible refine J_icmp_ge_n qX6_faultOf_37 (by omega) (by omega) (fun c1 => ?_) (fun c1 => ?_) | refine J_icmp_ge qX6_faultOf_37 (fun c1 => ?_) (fun c1 => ?_)
      · have k0 := kk.mpr c1
        rw [prF_end k0] at hE
        refine J_pushI qX6_faultOf_61 ?_
        refine Ji_ret qX6_faultOf_63 ?_
        exact ⟨(fltV_o hE).symm, fun x hx => by rw [hE] at hx; cases hx; exact ⟨hc, ho, h14, hr9⟩, hF⟩
      · have k0 : ¬ tkK T p = 0 := fun z => absurd (kk.mp z) (by omega)
        refine J_aload_n (i := 0) qX6_faultOf_40 rfl rfl ?_
        refine J_iload_n (i := 1) qX6_faultOf_41 rfl rfl ?_
        refine J_vi1 qX6_faultOf_42 kX6_195 (by assumption) (m_readsOne (d := d) hM0 ht hR hc ho h13 h14 hr9) (Nat.le_of_ble_eq_true rfl) (fun v1 ν1 hr => ?_)
        rw [stm_id hp] at hr
        have hF1 := hF.tr hr.fs
        cases hs : stmF T p cs rt rest with
        | error e =>
          rw [hs] at hr
          obtain ⟨rfl, r2, -⟩ := hr
          rw [prF_err k0 hs] at hE
          refine J_if_ne_n qX6_faultOf_45 (by omega) (fun z => absurd rfl z) (fun _ => ?_)
          refine J_aload_n (i := 0) qX6_faultOf_48 rfl rfl ?_
          refine J_getIe qX6_faultOf_49 fX6_130 (by assumption) (by (repeat first | with_reducible exact wI_e _ _ _ _ | (with_reducible apply rd_s; focus omega) | (with_reducible apply rd_c; focus omega) | (with_reducible apply rd_k; focus omega) | with_reducible exact rd_e (by omega)); first | done | assumption | rfl) ?_
          refine Ji_ret qX6_faultOf_52 ?_
          exact ⟨(fltV_e hE).symm, (fun x hx => by rw [hE] at hx; cases hx), hF1⟩
        | ok x =>
          rw [hs] at hr
          obtain ⟨rfl, ⟨r1, r2, r3, r4, r5, r6⟩, -⟩ := hr
          rw [prF_ok k0 hs] at hE
          have hgt := stm_gt hp hs
          have sl2 := tkS_le hgt.2
          refine J_if_ne_n qX6_faultOf_45 (by omega) (fun _ => ?_) (fun z => absurd z (by omega))
          refine J_aload_n (i := 0) qX6_faultOf_53 rfl rfl ?_
          refine J_iload_n (i := 1) qX6_faultOf_54 rfl rfl ?_
          refine J_vv1 qX6_faultOf_55 kX6_103 (by assumption) (m_blanks (d := d + 5) hM0 ht r1) (Nat.le_of_ble_eq_true rfl) (fun ν2 hr => ?_)
          have hB : RdM ν2 t T (tkS T x.2.2.2) ∧ FrN ν1 ν2 := by
            rcases hr with rfl | ⟨rfl, e⟩
            · exact ⟨r1.at sl2.2, FrN.w FrN.rf (by omega)⟩
            · rw [e]; exact ⟨r1, FrN.rf⟩
          obtain ⟨hB1, hB2⟩ := hB
          refine J_goto qX6_faultOf_58 ?_
          exact ih x.2.2.2 x.1 x.2.1 x.2.2.1 ν2 (by omega) hB1 hgt.2 (r2.nx hB2) r3 ((hB2.1 _ _ (by omega)).trans r4) ((hB2.1 _ _ (by omega)).trans r5) r6 hE (hF1.tr hB2.s)
  refine Si_of (ls := [.ref 198, .int (nI t)]) (by decide +kernel) (Nat.le_of_ble_eq_true rfl) rfl ?_
  refine J_aload_n (i := 0) qX6_faultOf_0 rfl rfl ?_
  refine J_pushI qX6_faultOf_1 ?_
  refine J_putI qX6_faultOf_2 fX6_97p (by assumption) rfl rfl ?_
  refine J_aload_n (i := 0) qX6_faultOf_5 rfl rfl ?_
  refine J_getR qX6_faultOf_6 fX6_29 (by assumption) (by assumption) ?_
  refine J_pushI qX6_faultOf_9 ?_
  refine J_pushI qX6_faultOf_10 ?_
  refine J_iast qX6_faultOf_11 (by assumption) rfl (by omega) ?_
  refine J_aload_n (i := 0) qX6_faultOf_12 rfl rfl ?_
  refine J_pushI qX6_faultOf_13 ?_
  refine J_putI qX6_faultOf_14 fX6_173p (by assumption) rfl rfl ?_
  refine J_aload_n (i := 0) qX6_faultOf_17 rfl rfl ?_
  refine J_pushI qX6_faultOf_18 ?_
  refine J_putI qX6_faultOf_19 fX6_177p (by assumption) rfl rfl ?_
  refine J_aload_n (i := 0) qX6_faultOf_22 rfl rfl ?_
  refine J_iload_n (i := 1) qX6_faultOf_23 rfl rfl ?_
  have hF0 : FrS μ (wI (wI (wI (wI μ 198 8 (nI 0)) 205 0 (nI 0)) 198 13 (nI 0)) 198 14 (nI 0)) := by
    refine ⟨fun c k z => ?_, fun _ _ _ => rfl⟩
    rw [wI_n (by omega), wI_n (by omega), wI_n (by omega), wI_n (by omega)]
  have hR0 : RdM (wI (wI (wI (wI μ 198 8 (nI 0)) 205 0 (nI 0)) 198 13 (nI 0)) 198 14 (nI 0)) t T 0 := ⟨hT.s hF0, by rw [wI_n (by omega), wI_n (by omega), wI_n (by omega), wI_e], Nat.zero_le _⟩
  refine J_vv1 qX6_faultOf_24 kX6_103 (by assumption) (m_blanks (d := d + 5) hM0 ht hR0) (Nat.le_of_ble_eq_true rfl) (fun ν hr => ?_)
  have hB : RdM ν t T (tkS T 0) ∧ FrN (wI (wI (wI (wI μ 198 8 (nI 0)) 205 0 (nI 0)) 198 13 (nI 0)) 198 14 (nI 0)) ν := by
    rcases hr with rfl | ⟨rfl, e⟩
    · exact ⟨hR0.at (tkS_le (Nat.zero_le _)).2, FrN.w FrN.rf (by omega)⟩
    · rw [e]; exact ⟨hR0, FrN.rf⟩
  obtain ⟨hB1, hB2⟩ := hB
  refine H 121 0 [] false 0 ν (by omega) hB1 (Nat.zero_le _) (MC.nx ⟨?_, Nat.zero_le _, fun j _ k hk => absurd hk (Nat.not_lt_zero k)⟩ hB2) ok_nil ?_ ?_ (by omega) rfl (hF0.tr hB2.s)
  · rw [wI_n (by omega), wI_n (by omega), wI_e]; rfl
  · rw [hB2.1 _ _ (by omega), wI_n (by omega), wI_e]; rfl
  · rw [hB2.1 _ _ (by omega), wI_e]
theorem m_fault (hM : LayM G) (h : RelM μ s) (r : Int32) : Si mX6_fault (d+8) [.ref 198, .int r] G μ (fun q μ' => q = (faultS s r).1 ∧ RelM μ' (faultS s r).2 ∧ FrM μ μ') := by
  have hM0 := hM
  obtain ⟨mO, ⟨f2, f3, f4, f5, f6, f7, f15, -⟩, ⟨b199, b200, b201, b202, b203, b204, b205, -⟩⟩ := hM
  refine Si_of (ls := [.ref 198, .int r]) (by decide +kernel) (Nat.le_of_ble_eq_true rfl) rfl ?_
  refine J_iload_n (i := 1) qX6_fault_0 rfl rfl ?_
  refine J_si1 qX6_fault_1 kX6_94 (m_isText (d := d + 6) r) (Nat.le_of_ble_eq_true rfl) (fun v1 μ' hr => ?_)
  obtain ⟨rfl, rfl⟩ := hr
  cases hb : hasB 4 r with
  | false =>
    first | refine J_if_ne qX6_fault_4 (fun c => absurd b2i_f0 c) (fun _ => ?_) | refine J_if_ne qX6_fault_4 (fun _ => ?_) (fun c => absurd c b2i_t0)
    refine J_pushI qX6_fault_7 ?_
    refine J_goto qX6_fault_8 ?_
    refine Ji_ret qX6_fault_33 ?_
    rw [show faultS s r = (-1, s) from if_pos hb]
    exact ⟨rfl, h, FrM.rf⟩
  | true =>
    first | refine J_if_ne qX6_fault_4 (fun c => absurd b2i_f0 c) (fun _ => ?_) | refine J_if_ne qX6_fault_4 (fun _ => ?_) (fun c => absurd c b2i_t0)
    obtain ⟨j, hj, rfl⟩ := hasB_of (by omega) hb
    have hA := h.2.1 j hj
    cases hm : sTx s j with
    | none =>
      rw [hm] at hA
      have e := hA.n
      rw [faultS_n hb hj hm]
      refine J_aload_n (i := 0) qX6_fault_11 rfl rfl ?_
      refine J_getR qX6_fault_12 fX6_22 (by assumption) (by assumption) ?_
      refine J_iload_n (i := 1) qX6_fault_15 rfl rfl ?_
      refine J_ialde qX6_fault_16 (by assumption) rfl (by omega) (by (repeat first | with_reducible exact wI_e _ _ _ _ | (with_reducible apply rd_s; focus omega) | (with_reducible apply rd_c; focus omega) | (with_reducible apply rd_k; focus omega) | with_reducible exact rd_e (by omega)); first | done | assumption | rfl) ?_
      refine J_if_ge qX6_fault_17 (fun c => absurd c (by decide)) (fun _ => ?_)
      refine J_aload_n (i := 0) qX6_fault_20 rfl rfl ?_
      refine J_pushI qX6_fault_21 ?_
      refine J_vi1 qX6_fault_22 kX6_83 (by assumption) (m_found (d := d + 7) hM0 h (f := 1) (by omega)) (Nat.le_of_ble_eq_true rfl) (fun v1 ν hr => ?_)
      refine J_goto qX6_fault_25 ?_
      refine Ji_ret qX6_fault_33 ?_
      exact hr
    | some l =>
      rw [hm] at hA
      have e := hA.1
      have l40 := hA.2.1
      rw [faultS_s hb hj hm]
      refine J_aload_n (i := 0) qX6_fault_11 rfl rfl ?_
      refine J_getR qX6_fault_12 fX6_22 (by assumption) (by assumption) ?_
      refine J_iload_n (i := 1) qX6_fault_15 rfl rfl ?_
      refine J_ialde qX6_fault_16 (by assumption) rfl (by omega) (by (repeat first | with_reducible exact wI_e _ _ _ _ | (with_reducible apply rd_s; focus omega) | (with_reducible apply rd_c; focus omega) | (with_reducible apply rd_k; focus omega) | with_reducible exact rd_e (by omega)); first | done | assumption | rfl) ?_
      refine J_if_ge_n qX6_fault_17 (by omega) ?_
      refine J_aload_n (i := 0) qX6_fault_28 rfl rfl ?_
      refine J_iload_n (i := 1) qX6_fault_29 rfl rfl ?_
      refine J_vi1 qX6_fault_30 kX6_198 (by assumption) (m_faultOf (d := d) hM0 hj hA) (Nat.le_of_ble_eq_true rfl) (fun v1 ν hr => ?_)
      obtain ⟨rfl, -, g2⟩ := hr
      refine Ji_ret qX6_fault_33 ?_
      exact ⟨rfl, h.free g2.e⟩
theorem m_program (hM : LayM G) (h : RelM μ s) (r : Int32) : Si mX6_program (d+8) [.ref 198, .int r] G μ (fun q μ' => q = (programS s r).1 ∧ RelM μ' (programS s r).2 ∧ FrM μ μ') := by
  have hM0 := hM
  obtain ⟨mO, ⟨f2, f3, f4, f5, f6, f7, f15, f17, f19, f21, f22, -⟩, ⟨b199, b200, b201, b202, b203, b204, b205, b206, b207, b208, b209, -⟩⟩ := hM
  refine Si_of (ls := [.ref 198, .int r, .null]) (by decide +kernel) (Nat.le_of_ble_eq_true rfl) rfl ?_
  refine J_iload_n (i := 1) qX6_program_0 rfl rfl ?_
  refine J_si1 qX6_program_1 kX6_94 (m_isText (d := d + 6) r) (Nat.le_of_ble_eq_true rfl) (fun v1 μ' hr => ?_)
  obtain ⟨rfl, rfl⟩ := hr
  cases hb : hasB 4 r with
  | false =>
    first | refine J_if_ne qX6_program_4 (fun c => absurd b2i_f0 c) (fun _ => ?_) | refine J_if_ne qX6_program_4 (fun _ => ?_) (fun c => absurd c b2i_t0)
    refine J_pushI qX6_program_7 ?_
    refine Ji_ret qX6_program_8 ?_
    rw [show programS s r = (-1, s) from if_pos hb]
    exact ⟨rfl, h, FrM.rf⟩
  | true =>
    first | refine J_if_ne qX6_program_4 (fun c => absurd b2i_f0 c) (fun _ => ?_) | refine J_if_ne qX6_program_4 (fun _ => ?_) (fun c => absurd c b2i_t0)
    obtain ⟨j, hj, rfl⟩ := hasB_of (by omega) hb
    have hA := h.2.1 j hj
    cases hm : sTx s j with
    | none =>
      rw [hm] at hA
      have e := hA.n
      rw [programS_n hb hj hm]
      refine J_aload_n (i := 0) qX6_program_9 rfl rfl ?_
      refine J_getR qX6_program_10 fX6_22 (by assumption) (by assumption) ?_
      refine J_iload_n (i := 1) qX6_program_13 rfl rfl ?_
      refine J_ialde qX6_program_14 (by assumption) rfl (by omega) (by (repeat first | with_reducible exact wI_e _ _ _ _ | (with_reducible apply rd_s; focus omega) | (with_reducible apply rd_c; focus omega) | (with_reducible apply rd_k; focus omega) | with_reducible exact rd_e (by omega)); first | done | assumption | rfl) ?_
      refine J_if_ge qX6_program_15 (fun c => absurd c (by decide)) (fun _ => ?_)
      refine J_aload_n (i := 0) qX6_program_18 rfl rfl ?_
      refine J_pushI qX6_program_19 ?_
      refine J_vi1 qX6_program_20 kX6_83 (by assumption) (m_found (d := d + 7) hM0 h (f := 1) (by omega)) (Nat.le_of_ble_eq_true rfl) (fun v1 ν hr => ?_)
      refine Ji_ret qX6_program_23 ?_
      exact hr
    | some l =>
      rw [hm] at hA
      have e := hA.1
      have l40 := hA.2.1
      have eP := programS_s hb hj hm
      refine J_aload_n (i := 0) qX6_program_9 rfl rfl ?_
      refine J_getR qX6_program_10 fX6_22 (by assumption) (by assumption) ?_
      refine J_iload_n (i := 1) qX6_program_13 rfl rfl ?_
      refine J_ialde qX6_program_14 (by assumption) rfl (by omega) (by (repeat first | with_reducible exact wI_e _ _ _ _ | (with_reducible apply rd_s; focus omega) | (with_reducible apply rd_c; focus omega) | (with_reducible apply rd_k; focus omega) | with_reducible exact rd_e (by omega)); first | done | assumption | rfl) ?_
      refine J_if_ge_n qX6_program_15 (by omega) ?_
      refine J_aload_n (i := 0) qX6_program_24 rfl rfl ?_
      refine J_iload_n (i := 1) qX6_program_25 rfl rfl ?_
      refine J_vi1 qX6_program_26 kX6_198 (by assumption) (m_faultOf (d := d) hM0 hj hA) (Nat.le_of_ble_eq_true rfl) (fun v1 ν hr => ?_)
      obtain ⟨rfl, g1, g2⟩ := hr
      obtain ⟨h', hF'⟩ := h.free g2.e
      cases hp : parF l with
      | error e1 =>
        have hel := par_er hp
        rw [fltV_e hp]
        refine J_pushI qX6_program_29 ?_
        refine J_icmp_eq qX6_program_31 (fun c => absurd c (nI_m9 (by omega))) (fun _ => ?_)
        refine J_pushI qX6_program_34 ?_
        refine Ji_ret qX6_program_36 ?_
        rw [eP, prgV_e hp]
        exact ⟨rfl, h', hF'⟩
      | ok x =>
        obtain ⟨x1, x2, x3, x4⟩ := g1 x hp
        rw [prgV_o hp] at eP
        rw [fltV_o hp]
        refine J_pushI qX6_program_29 ?_
        refine J_icmp_eq qX6_program_31 (fun _ => ?_) (fun c => absurd rfl c)
        refine J_pushI qX6_program_37 ?_
        refine J_ist2 qX6_program_38 (Nat.le_of_ble_eq_true rfl) rfl ?_
        have H2 : ∀ k, k ≤ 3 → ∀ ν1 : Mm, Fr ν ν1 (fun c q => c = 206 ∨ (c = 198 ∧ (q = 16 ∨ q = 20)) ∨ c = 209) → MC ν1 206 0 x.1 → ν1.1 198 16 = nI x.2 → ν1.1 198 20 = nI 0 → (∀ q, q < k → ν1.1 209 q = -1) → J mX6_program (d+8) (0, 0) s0 (Ki G (fun q μ' => q = (programS s (nI j)).1 ∧ RelM μ' (programS s (nI j)).2 ∧ FrM μ μ')) (0, 0) 78 [.ref 198, .int (nI j), .int (nI k)] [] (G, ν1) := by
          refine ind_up (fun k hk ih ν1 hF hC h16 h20 hinv => ?_)
          have e0 := hC.n0
          refine J_iload_n (i := 2) qX6_program_78 rfl rfl ?_
          refine J_pushI qX6_program_79 ?_
          first | with_reducible refine J_icmp_ge_n qX6_program_80 (by omega) (by omega) (fun c1 => ?_) (fun c1 => ?_) | refine J_icmp_ge qX6_program_80 (fun c1 => ?_) (fun c1 => ?_)
          · refine J_aload_n (i := 0) qX6_program_96 rfl rfl ?_
            refine J_getR qX6_program_97 fX6_32 (by assumption) (by assumption) ?_
            refine J_pushI qX6_program_100 ?_
            refine J_ialde qX6_program_101 (by assumption) rfl (by omega) (by (repeat first | with_reducible exact wI_e _ _ _ _ | (with_reducible apply rd_s; focus omega) | (with_reducible apply rd_c; focus omega) | (with_reducible apply rd_k; focus omega) | with_reducible exact rd_e (by omega)); first | done | assumption | rfl) ?_
            refine Ji_ret qX6_program_102 ?_
            rw [eP]
            have a : ∀ c, c ≠ 206 → c ≠ 198 → c ≠ 209 → Ac ν ν1 c := fun c q1 q2 q3 q => hF.1 _ _ (by omega)
            refine ⟨rfl, ⟨h'.1.ag (a _ (by omega) (by omega) (by omega)) (a _ (by omega) (by omega) (by omega)), h'.2.1.ag (a _ (by omega) (by omega) (by omega)) (a _ (by omega) (by omega) (by omega)), ⟨hC, h20, fun e he => absurd he (Nat.not_lt_zero e), ⟨x2, hC.2.1, Nat.zero_le _, fun _ q => absurd q List.not_mem_nil⟩, h16, x4⟩, fun e he => hinv e (by omega), h'.2.2.2.2.ag (hF.1 _ _ (by omega)) (hF.1 _ _ (by omega)) (a _ (by omega) (by omega) (by omega)) (by rw [hF.2])⟩, hF'.tr ⟨fun c q z => hF.1 _ _ (by omega), fun c q z => by rw [hF.2]⟩⟩
          · refine J_aload_n (i := 0) qX6_program_83 rfl rfl ?_
            refine J_getR qX6_program_84 fX6_41 (by assumption) (by assumption) ?_
            refine J_iload_n (i := 2) qX6_program_87 rfl rfl ?_
            refine J_pushI qX6_program_88 ?_
            refine J_iast qX6_program_89 (by assumption) rfl (by omega) ?_
            refine J_inc2 qX6_program_90 (Nat.le_of_ble_eq_true rfl) (by first | with_reducible exact nI_inc _ | rfl) rfl ?_
            refine J_goto qX6_program_93 ?_
            refine ih c1 _ (hF.w (Or.inr (Or.inr rfl))) (hC.ag (fun q _ _ => wI_n (by omega))) (by rw [wI_n (by omega)]; exact h16) (by rw [wI_n (by omega)]; exact h20) (fun q hq => ?_)
            by_cases eq : q = k
            · rw [eq]; exact wI_e _ _ _ _
            · rw [wI_n (by omega)]; exact hinv q (by omega)
        have H1 : ∀ k, k ≤ 49 → ∀ ν1 : Mm, Fr ν ν1 (fun c _ => c = 206) → (∀ q, q < k → ν1.1 206 q = ν.1 205 q) → J mX6_program (d+8) (0, 0) s0 (Ki G (fun q μ' => q = (programS s (nI j)).1 ∧ RelM μ' (programS s (nI j)).2 ∧ FrM μ μ')) (0, 0) 39 [.ref 198, .int (nI j), .int (nI k)] [] (G, ν1) := by
          refine ind_up (fun k hk ih ν1 hF hinv => ?_)
          refine J_iload_n (i := 2) qX6_program_39 rfl rfl ?_
          refine J_pushI qX6_program_40 ?_
          first | with_reducible refine J_icmp_ge_n qX6_program_42 (by omega) (by omega) (fun c1 => ?_) (fun c1 => ?_) | refine J_icmp_ge qX6_program_42 (fun c1 => ?_) (fun c1 => ?_)
          · have e14 : ν1.1 198 14 = nI x.2 := (hF.1 _ _ (by omega)).trans x3
            have hC : MC ν1 206 0 x.1 := x1.cp (fun q hq => by rw [Nat.zero_add]; exact hinv q (by omega))
            refine J_aload_n (i := 0) qX6_program_63 rfl rfl ?_
            refine J_aload_n (i := 0) qX6_program_64 rfl rfl ?_
            refine J_getIe qX6_program_65 fX6_177 (by assumption) (by (repeat first | with_reducible exact wI_e _ _ _ _ | (with_reducible apply rd_s; focus omega) | (with_reducible apply rd_c; focus omega) | (with_reducible apply rd_k; focus omega) | with_reducible exact rd_e (by omega)); first | done | assumption | rfl) ?_
            refine J_putI qX6_program_68 fX6_201p (by assumption) rfl rfl ?_
            refine J_aload_n (i := 0) qX6_program_71 rfl rfl ?_
            refine J_pushI qX6_program_72 ?_
            refine J_putI qX6_program_73 fX6_204p (by assumption) rfl rfl ?_
            refine J_pushI qX6_program_76 ?_
            refine J_ist2 qX6_program_77 (Nat.le_of_ble_eq_true rfl) rfl ?_
            exact H2 0 (Nat.zero_le _) _ (Fr.w (Fr.w (hF.mono (fun c q z => Or.inl z)) (Or.inr (Or.inl ⟨rfl, Or.inl rfl⟩))) (Or.inr (Or.inl ⟨rfl, Or.inr rfl⟩))) (hC.ag (fun q _ _ => by rw [wI_n (by omega), wI_n (by omega)])) (by rw [wI_n (by omega), wI_e]) (wI_e _ _ _ _) (fun q hq => absurd hq (Nat.not_lt_zero q))
          · have e5 : ν1.1 205 k = ν.1 205 k := hF.1 _ _ (by omega)
            refine J_aload_n (i := 0) qX6_program_45 rfl rfl ?_
            refine J_getR qX6_program_46 fX6_32 (by assumption) (by assumption) ?_
            refine J_iload_n (i := 2) qX6_program_49 rfl rfl ?_
            refine J_aload_n (i := 0) qX6_program_50 rfl rfl ?_
            refine J_getR qX6_program_51 fX6_29 (by assumption) (by assumption) ?_
            refine J_iload_n (i := 2) qX6_program_54 rfl rfl ?_
            refine J_ialde qX6_program_55 (by assumption) rfl (by omega) (by (repeat first | with_reducible exact wI_e _ _ _ _ | (with_reducible apply rd_s; focus omega) | (with_reducible apply rd_c; focus omega) | (with_reducible apply rd_k; focus omega) | with_reducible exact rd_e (by omega)); first | done | assumption | rfl) ?_
            refine J_iast qX6_program_56 (by assumption) rfl (by omega) ?_
            refine J_inc2 qX6_program_57 (Nat.le_of_ble_eq_true rfl) (by first | with_reducible exact nI_inc _ | rfl) rfl ?_
            refine J_goto qX6_program_60 ?_
            refine ih c1 _ (hF.w rfl) (fun q hq => ?_)
            by_cases eq : q = k
            · rw [eq]; exact wI_e _ _ _ _
            · rw [wI_n (by omega)]; exact hinv q (by omega)
        exact H1 0 (Nat.zero_le _) ν Fr.rf (fun q hq => absurd hq (Nat.not_lt_zero q))
end MM
