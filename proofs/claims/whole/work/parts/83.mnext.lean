/-! THE MODEL: the next token, numbers, words -/
theorem RdM.w {μ : Mm} {t p k : Nat} {T : List Int32} {v : Int32} (h : RdM μ t T p) (hk : 9 ≤ k ∧ k ≤ 12) : RdM (wI μ 198 k v) t T p := ⟨h.1.fr (FrN.w FrN.rf (by omega)), (wI_n (by omega)).trans h.2.1, h.2.2⟩
theorem RdM.at {μ : Mm} {t p q : Nat} {T : List Int32} (h : RdM μ t T p) (hq : q ≤ T.length) : RdM (wI μ 198 8 (nI q)) t T q := ⟨h.1.fr (FrN.w FrN.rf (by omega)), wI_e _ _ _ _, hq⟩
theorem RdM.l {μ : Mm} {t p : Nat} {T : List Int32} {v : Int64} (h : RdM μ t T p) : RdM (wL μ 198 11 v) t T p := ⟨h.1.fr (FrN.l FrN.rf), h.2.1, h.2.2⟩
theorem btM_lt {T : List Int32} {p : Nat} (h : p < T.length) : btM T p = bt T p := if_pos h
section MM
variable {G : Gm} {μ : Mm} {d t p : Nat} {s : St} {T : List Int32}
theorem m_fails (hM : LayM G) {v : Int32} (h9 : μ.1 198 9 = v) : Si mX6_fails (d) [.ref 198] G μ (fun r μ' => r = nI 0 ∧ wI μ 198 12 v = μ') := by
  have mO := hM.1
  refine Si_of (ls := [.ref 198]) (by decide +kernel) (Nat.le_of_ble_eq_true rfl) rfl ?_
  refine J_aload_n (i := 0) qX6_fails_0 rfl rfl ?_
  refine J_aload_n (i := 0) qX6_fails_1 rfl rfl ?_
  refine J_getIe qX6_fails_2 fX6_107 (by assumption) (by (repeat first | with_reducible exact wI_e _ _ _ _ | (with_reducible apply rd_s; focus omega) | (with_reducible apply rd_c; focus omega) | (with_reducible apply rd_k; focus omega) | with_reducible exact rd_e (by omega)); first | done | assumption | rfl) ?_
  refine J_putI qX6_fails_5 fX6_130p (by assumption) rfl rfl ?_
  refine J_pushI qX6_fails_8 ?_
  refine Jz_ret qX6_fails_9 (by first | exact Or.inl rfl | exact Or.inr rfl | assumption) ?_
  exact ⟨rfl, rfl⟩
theorem m_next (hM : LayM G) (ht : t < 4) (hR : RdM μ t T p) : Sv mX6_next (d+2) [.ref 198, .int (nI t)] G μ (fun μ' => RdM μ' t T (tkE T p) ∧ μ'.1 198 9 = nI (tkS T p) ∧ μ'.1 198 10 = nI (tkK T p) ∧ (tkK T p = 2 → μ'.2 198 11 = valL T (tkS T p)) ∧ FrN μ μ') := by
  have hM0 := hM
  obtain ⟨mO, ⟨f2, f3, f4, f5, f6, f7, -⟩, ⟨b199, b200, b201, b202, b203, b204, -⟩⟩ := hM
  have T120 := hR.1.2.1
  have hp := hR.2.2
  have hsl := tkS_le hp
  refine Sv_of (ls := [.ref 198, .int (nI t), .null]) (by decide +kernel) (Nat.le_of_ble_eq_true rfl) rfl ?_
  refine J_aload_n (i := 0) qX6_next_0 rfl rfl ?_
  refine J_iload_n (i := 1) qX6_next_1 rfl rfl ?_
  refine J_vv1 qX6_next_2 kX6_103 (by assumption) (m_blanks (d := d) hM0 ht hR) (Nat.le_of_ble_eq_true rfl) (fun ν hr => ?_)
  have hB : RdM ν t T (tkS T p) ∧ FrN μ ν := by
    rcases hr with rfl | ⟨rfl, e⟩
    · exact ⟨hR.at hsl.2, FrN.w FrN.rf (by omega)⟩
    · rw [e]; exact ⟨hR, FrN.rf⟩
  clear hr
  obtain ⟨hR1, hF1⟩ := hB
  generalize hs : tkS T p = s at hR1 hsl ⊢
  have eK : tkK T p = kdA T s := by unfold tkK; rw [hs]
  have eE : tkE T p = enA2 T s := by unfold tkE; rw [hs]
  rw [eK, eE]
  have e8 := hR1.2.1
  have e203 := hR1.1.1
  refine J_aload_n (i := 0) qX6_next_5 rfl rfl ?_
  refine J_aload_n (i := 0) qX6_next_6 rfl rfl ?_
  refine J_getIe qX6_next_7 fX6_97 (by assumption) (by (repeat first | with_reducible exact wI_e _ _ _ _ | (with_reducible apply rd_s; focus omega) | (with_reducible apply rd_c; focus omega) | (with_reducible apply rd_k; focus omega) | with_reducible exact rd_e (by omega)); first | done | assumption | rfl) ?_
  refine J_putI qX6_next_10 fX6_107p (by assumption) rfl rfl ?_
  have hR2 : RdM (wI ν 198 9 (nI s)) t T s := hR1.w (by omega)
  have hF2 : FrN μ (wI ν 198 9 (nI s)) := FrN.w hF1 (by omega)
  have e9 : (wI ν 198 9 (nI s)).1 198 9 = nI s := wI_e _ _ _ _
  generalize wI ν 198 9 (nI s) = ν2 at hR2 hF2 e9 ⊢
  clear hR1 hF1 e8 e203
  have e8 := hR2.2.1
  have e203 := hR2.1.1
  have K0 : ∀ q : Nat, (tkK T p) = kdA T s := fun _ => eK
  refine J_aload_n (i := 0) qX6_next_13 rfl rfl ?_
  refine J_getIe qX6_next_14 fX6_97 (by assumption) (by (repeat first | with_reducible exact wI_e _ _ _ _ | (with_reducible apply rd_s; focus omega) | (with_reducible apply rd_c; focus omega) | (with_reducible apply rd_k; focus omega) | with_reducible exact rd_e (by omega)); first | done | assumption | rfl) ?_
  refine J_aload_n (i := 0) qX6_next_17 rfl rfl ?_
  refine J_getR qX6_next_18 fX6_22 (by assumption) (by assumption) ?_
  refine J_iload_n (i := 1) qX6_next_21 rfl rfl ?_
  refine J_ialde qX6_next_22 (by assumption) rfl (by omega) (by (repeat first | with_reducible exact wI_e _ _ _ _ | (with_reducible apply rd_s; focus omega) | (with_reducible apply rd_c; focus omega) | (with_reducible apply rd_k; focus omega) | with_reducible exact rd_e (by omega)); first | done | assumption | rfl) ?_
  refine J_icmp_ne_n qX6_next_23 (by omega) (by omega) (fun c1 => ?_) (fun c1 => ?_)
  · have nl : ¬ T.length ≤ s := by omega
    refine J_aload_n (i := 0) qX6_next_34 rfl rfl ?_
    refine J_iload_n (i := 1) qX6_next_35 rfl rfl ?_
    refine J_vi1 qX6_next_36 kX6_113 (by assumption) (m_isLetter (d := d) hM0 ht hR2) (Nat.le_of_ble_eq_true rfl) (fun v1 μ' hr => ?_)
    obtain ⟨rfl, rfl⟩ := hr
    cases hl : isLet T s with
    | true =>
      have ek : kdA T s = 1 := by unfold kdA; rw [if_neg nl, hl, if_pos rfl]
      have ee : enA2 T s = overF T isLet s := by unfold enA2; rw [if_neg nl, hl, if_pos rfl]
      first | refine J_if_eq qX6_next_39 (fun _ => ?_) (fun c => absurd b2i_f0 c) | refine J_if_eq qX6_next_39 (fun c => absurd c b2i_t0) (fun _ => ?_)
      refine J_aload_n (i := 0) qX6_next_42 rfl rfl ?_
      refine J_pushI qX6_next_43 ?_
      refine J_putI qX6_next_44 fX6_110p (by assumption) rfl rfl ?_
      have H : ∀ N q (ν3 : Mm), T.length + 1 - q = N → q ≤ T.length → overF T isLet s = overF T isLet q → RdM ν3 t T q → ν3.1 198 9 = nI s → ν3.1 198 10 = nI 1 → FrN μ ν3 → J mX6_next (d+2) (0, 0) s0 (Kv G (fun μ' => RdM μ' t T (enA2 T s) ∧ μ'.1 198 9 = nI s ∧ μ'.1 198 10 = nI (kdA T s) ∧ (kdA T s = 2 → μ'.2 198 11 = valL T s) ∧ FrN μ μ')) (0, 0) 47 [.ref 198, .int (nI t), .null] [] (G, ν3) := by
        intro N
        induction N with
        | zero => intro q ν3 hN hq; omega
        | succ N ih =>
          intro q ν3 hN hq ho r1 r2 r3 r4
          have e8 := r1.2.1
          refine J_aload_n (i := 0) qX6_next_47 rfl rfl ?_
          refine J_iload_n (i := 1) qX6_next_48 rfl rfl ?_
          refine J_vi1 qX6_next_49 kX6_113 (by assumption) (m_isLetter (d := d) hM0 ht r1) (Nat.le_of_ble_eq_true rfl) (fun v1 μ' hr => ?_)
          obtain ⟨rfl, rfl⟩ := hr
          cases hq1 : isLet T q with
          | false =>
            first | refine J_if_eq qX6_next_52 (fun _ => ?_) (fun c => absurd b2i_f0 c) | refine J_if_eq qX6_next_52 (fun c => absurd c b2i_t0) (fun _ => ?_)
            refine Jv_ret qX6_next_282 ?_
            rw [ek, ee, ho, over_no hq1]
            exact ⟨r1, r2, r3, fun z => absurd z (by omega), r4⟩
          | true =>
            have hl2 := let_lt q hq1
            first | refine J_if_eq qX6_next_52 (fun _ => ?_) (fun c => absurd b2i_f0 c) | refine J_if_eq qX6_next_52 (fun c => absurd c b2i_t0) (fun _ => ?_)
            refine J_aload_n (i := 0) qX6_next_55 rfl rfl ?_
            refine J_dup qX6_next_56 rfl ?_
            refine J_getIe qX6_next_57 fX6_97 (by assumption) (by (repeat first | with_reducible exact wI_e _ _ _ _ | (with_reducible apply rd_s; focus omega) | (with_reducible apply rd_c; focus omega) | (with_reducible apply rd_k; focus omega) | with_reducible exact rd_e (by omega)); first | done | assumption | rfl) ?_
            refine J_pushI qX6_next_60 ?_
            first | with_reducible refine J_iadd_n qX6_next_61 ?_ | refine J_iadd qX6_next_61 ?_
            refine J_putI qX6_next_62 fX6_97p (by assumption) rfl rfl ?_
            refine J_goto qX6_next_65 ?_
            exact ih (q + 1) _ (by omega) (by omega) (ho.trans (over_yes (by omega) hq1)) (r1.at (by omega)) (by rw [wI_n (by omega)]; exact r2) (by rw [wI_n (by omega)]; exact r3) (r4.w (by omega))
      exact H _ s _ rfl hsl.2 rfl (hR2.w (by omega)) (by rw [wI_n (by omega)]; exact e9) (wI_e _ _ _ _) (hF2.w (by omega))
    | false =>
      first | refine J_if_eq qX6_next_39 (fun _ => ?_) (fun c => absurd b2i_f0 c) | refine J_if_eq qX6_next_39 (fun c => absurd c b2i_t0) (fun _ => ?_)
      refine J_aload_n (i := 0) qX6_next_68 rfl rfl ?_
      refine J_iload_n (i := 1) qX6_next_69 rfl rfl ?_
      refine J_aload_n (i := 0) qX6_next_70 rfl rfl ?_
      refine J_getIe qX6_next_71 fX6_97 (by assumption) (by (repeat first | with_reducible exact wI_e _ _ _ _ | (with_reducible apply rd_s; focus omega) | (with_reducible apply rd_c; focus omega) | (with_reducible apply rd_k; focus omega) | with_reducible exact rd_e (by omega)); first | done | assumption | rfl) ?_
      refine J_vi2 qX6_next_74 kX6_116 (by assumption) (m_isFigure (d := d) hM0 ht hR2.1 (k := s) (by omega)) (Nat.le_of_ble_eq_true rfl) (fun v1 μ' hr => ?_)
      obtain ⟨rfl, rfl⟩ := hr
      have ng : negB T s = decide (btM T s = nI 45) := by unfold negB; rw [btM_lt (by omega)]
      have num : (isFig T s = true ∨ (negB T s = true ∧ isFig T (s + 1) = true)) → J mX6_next (d+2) (0, 0) s0 (Kv G (fun μ' => RdM μ' t T (enA2 T s) ∧ μ'.1 198 9 = nI s ∧ μ'.1 198 10 = nI (kdA T s) ∧ (kdA T s = 2 → μ'.2 198 11 = valL T s) ∧ FrN μ μ')) (0, 0) 108 [.ref 198, .int (nI t), .null] [] (G, ν2) := fun hn => by
        have hfa : isFig T (figA T s) = true := by
          unfold figA
          rcases hn with hn | ⟨hn, hn2⟩
          · have : negB T s = false := by
              cases hq : negB T s with
              | false => rfl
              | true =>
                have q1 := of_decide_eq_true hq
                have q2 := (of_decide_eq_true hn).2.1
                rw [q1] at q2
                exact absurd q2 (by decide)
            rw [this]; exact hn
          · rw [hn]; exact hn2
        have hfl := fig_lt _ hfa
        have hlt : figA T s < figE T s := by
          unfold figE
          rw [over_yes (by omega) hfa]
          exact Nat.lt_of_lt_of_le (Nat.lt_succ_self _) (over_ge T isFig (figA T s + 1))
        have nf : (negB T s || isFig T s) = true := by
          rcases hn with hn | ⟨hn, -⟩
          · rw [hn, Bool.or_true]
          · rw [hn]; rfl
        have ek : kdA T s = 2 := by unfold kdA; rw [if_neg nl, hl, if_neg (by decide), if_pos nf, if_pos hlt]
        have ee : enA2 T s = figE T s := by unfold enA2; rw [if_neg nl, hl, if_neg (by decide), if_pos nf]
        have fin : ∀ (ν4 : Mm), RdM ν4 t T (figE T s) → ν4.1 198 9 = nI s → ν4.1 198 10 = nI 2 → ν4.2 198 11 = lN (vM T (figA T s) (figE T s - figA T s)) → FrN μ ν4 → J mX6_next (d+2) (0, 0) s0 (Kv G (fun μ' => RdM μ' t T (enA2 T s) ∧ μ'.1 198 9 = nI s ∧ μ'.1 198 10 = nI (kdA T s) ∧ (kdA T s = 2 → μ'.2 198 11 = valL T s) ∧ FrN μ μ')) (0, 0) 226 [.ref 198, .int (nI t), .int (b2i (negB T s))] [] (G, ν4) := fun ν4 r1 r2 r3 r4 r5 => by
          refine J_aload_n (i := 0) qX6_next_226 rfl rfl ?_
          refine J_iload_n (i := 2) qX6_next_227 rfl rfl ?_
          cases hq : negB T s with
          | true =>
            first | refine J_if_eq qX6_next_228 (fun _ => ?_) (fun c => absurd b2i_f0 c) | refine J_if_eq qX6_next_228 (fun c => absurd c b2i_t0) (fun _ => ?_)
            refine J_aload_n (i := 0) qX6_next_231 rfl rfl ?_
            refine J_getLe qX6_next_232 fX6_120 (by assumption) (by (repeat first | with_reducible exact wL_e _ _ _ _ | with_reducible apply rdl_i | (with_reducible apply rdl_s; focus omega) | (with_reducible apply rdl_k; focus omega)); first | done | assumption | rfl) ?_
            refine J_lneg qX6_next_235 ?_
            refine J_goto qX6_next_236 ?_
            refine J_putL qX6_next_243 fX6_120p (by assumption) rfl rfl ?_
            refine J_goto qX6_next_246 ?_
            refine Jv_ret qX6_next_282 ?_
            rw [ek, ee]
            refine ⟨r1.l, r2, r3, fun _ => ?_, r5.l⟩
            rw [wL_e]
            unfold valL
            rw [hq]
            rfl
          | false =>
            first | refine J_if_eq qX6_next_228 (fun _ => ?_) (fun c => absurd b2i_f0 c) | refine J_if_eq qX6_next_228 (fun c => absurd c b2i_t0) (fun _ => ?_)
            refine J_aload_n (i := 0) qX6_next_239 rfl rfl ?_
            refine J_getLe qX6_next_240 fX6_120 (by assumption) (by (repeat first | with_reducible exact wL_e _ _ _ _ | with_reducible apply rdl_i | (with_reducible apply rdl_s; focus omega) | (with_reducible apply rdl_k; focus omega)); first | done | assumption | rfl) ?_
            refine J_putL qX6_next_243 fX6_120p (by assumption) rfl rfl ?_
            refine J_goto qX6_next_246 ?_
            refine Jv_ret qX6_next_282 ?_
            rw [ek, ee]
            refine ⟨r1.l, r2, r3, fun _ => ?_, r5.l⟩
            rw [wL_e]
            unfold valL
            rw [hq]
            rfl
        have H : ∀ N m (ν4 : Mm), figE T s - (figA T s + m) = N → figA T s + m ≤ figE T s → RdM ν4 t T (figA T s + m) → ν4.1 198 9 = nI s → ν4.1 198 10 = nI 2 → ν4.2 198 11 = lN (vM T (figA T s) m) → FrN μ ν4 → J mX6_next (d+2) (0, 0) s0 (Kv G (fun μ' => RdM μ' t T (enA2 T s) ∧ μ'.1 198 9 = nI s ∧ μ'.1 198 10 = nI (kdA T s) ∧ (kdA T s = 2 → μ'.2 198 11 = valL T s) ∧ FrN μ μ')) (0, 0) 156 [.ref 198, .int (nI t), .int (b2i (negB T s))] [] (G, ν4) := by
          intro N
          induction N with
          | zero =>
            intro m ν4 hN hm r1 r2 r3 r4 r5
            have em : figA T s + m = figE T s := by omega
            have rp := r1.2.2
            have e8 := r1.2.1
            have stop : isFig T (figA T s + m) = false := by
              rw [em]
              exact runF_stop (fig_lt (T := T)) _ _ (by omega)
            refine J_aload_n (i := 0) qX6_next_156 rfl rfl ?_
            refine J_iload_n (i := 1) qX6_next_157 rfl rfl ?_
            refine J_aload_n (i := 0) qX6_next_158 rfl rfl ?_
            refine J_getIe qX6_next_159 fX6_97 (by assumption) (by (repeat first | with_reducible exact wI_e _ _ _ _ | (with_reducible apply rd_s; focus omega) | (with_reducible apply rd_c; focus omega) | (with_reducible apply rd_k; focus omega) | with_reducible exact rd_e (by omega)); first | done | assumption | rfl) ?_
            refine J_vi2 qX6_next_162 kX6_116 (by assumption) (m_isFigure (d := d) hM0 ht r1.1 (k := figA T s + m) (by omega)) (Nat.le_of_ble_eq_true rfl) (fun v1 μ' hr => ?_)
            rw [stop] at hr
            obtain ⟨rfl, rfl⟩ := hr
            first | refine J_if_eq qX6_next_165 (fun _ => ?_) (fun c => absurd b2i_f0 c) | refine J_if_eq qX6_next_165 (fun c => absurd c b2i_t0) (fun _ => ?_)
            refine fin ν4 (by rw [← em]; exact r1) r2 r3 ?_ r5
            rw [r4, show figE T s - figA T s = m by omega]
          | succ N ih =>
            intro m ν4 hN hm r1 r2 r3 r4 r5
            have e8 := r1.2.1
            have isf : isFig T (figA T s + m) = true := over_all (f := isFig) (p := figA T s) (by omega) (by unfold figE at hN; omega)
            have hlm := fig_lt _ isf
            obtain ⟨g1, g2⟩ := fig_dgt isf
            have hv := vM_lt (T := T) (a := figA T s) m (fun k hk => (fig_dgt (over_all (f := isFig) (p := figA T s) (by omega) (by unfold figE at hN; omega))).2)
            have hh := ih (m + 1)
            rw [vM_succ] at hh
            have nxt : ∀ z : Nat, z = (if 9999999999 < vM T (figA T s) m then vM T (figA T s) m else 10 * vM T (figA T s) m + dgt T (figA T s + m)) → J mX6_next (d+2) (0, 0) s0 (Kv G (fun μ' => RdM μ' t T (enA2 T s) ∧ μ'.1 198 9 = nI s ∧ μ'.1 198 10 = nI (kdA T s) ∧ (kdA T s = 2 → μ'.2 198 11 = valL T s) ∧ FrN μ μ')) (0, 0) 210 [.ref 198, .int (nI t), .int (b2i (negB T s))] [.long (lN z), .ref 198] (G, ν4) := fun z ez => by
              rw [← ez] at hh
              refine J_putL qX6_next_210 fX6_120p (by assumption) rfl rfl ?_
              refine J_aload_n (i := 0) qX6_next_213 rfl rfl ?_
              refine J_dup qX6_next_214 rfl ?_
              refine J_getIe qX6_next_215 fX6_97 (by assumption) (by (repeat first | with_reducible exact wI_e _ _ _ _ | (with_reducible apply rd_s; focus omega) | (with_reducible apply rd_c; focus omega) | (with_reducible apply rd_k; focus omega) | with_reducible exact rd_e (by omega)); first | done | assumption | rfl) ?_
              refine J_pushI qX6_next_218 ?_
              first | with_reducible refine J_iadd_n qX6_next_219 ?_ | refine J_iadd qX6_next_219 ?_
              refine J_putI qX6_next_220 fX6_97p (by assumption) rfl rfl ?_
              refine J_goto qX6_next_223 ?_
              exact hh _ (by omega) (by omega) ((r1.l).at (by omega)) (by rw [wI_n (by omega)]; exact r2) (by rw [wI_n (by omega)]; exact r3) (by rw [wI_2]; exact wL_e _ _ _ _) ((r5.l).w (by omega))
            refine J_aload_n (i := 0) qX6_next_156 rfl rfl ?_
            refine J_iload_n (i := 1) qX6_next_157 rfl rfl ?_
            refine J_aload_n (i := 0) qX6_next_158 rfl rfl ?_
            refine J_getIe qX6_next_159 fX6_97 (by assumption) (by (repeat first | with_reducible exact wI_e _ _ _ _ | (with_reducible apply rd_s; focus omega) | (with_reducible apply rd_c; focus omega) | (with_reducible apply rd_k; focus omega) | with_reducible exact rd_e (by omega)); first | done | assumption | rfl) ?_
            refine J_vi2 qX6_next_162 kX6_116 (by assumption) (m_isFigure (d := d) hM0 ht r1.1 (k := figA T s + m) (by omega)) (Nat.le_of_ble_eq_true rfl) (fun v1 μ' hr => ?_)
            rw [isf] at hr
            obtain ⟨rfl, rfl⟩ := hr
            first | refine J_if_eq qX6_next_165 (fun _ => ?_) (fun c => absurd b2i_f0 c) | refine J_if_eq qX6_next_165 (fun c => absurd c b2i_t0) (fun _ => ?_)
            refine J_aload_n (i := 0) qX6_next_168 rfl rfl ?_
            refine J_aload_n (i := 0) qX6_next_169 rfl rfl ?_
            refine J_getLe qX6_next_170 fX6_120 (by assumption) (by (repeat first | with_reducible exact wL_e _ _ _ _ | with_reducible apply rdl_i | (with_reducible apply rdl_s; focus omega) | (with_reducible apply rdl_k; focus omega)); first | done | assumption | rfl) ?_
            refine J_pushL qX6_next_173 ?_
            refine J_lif_le qX6_next_176 qX6_next_177 (fun c5 => ?_) (fun c5 => ?_)
            · have c5' : vM T (figA T s) m ≤ 9999999999 := (pk_lLE (by omega) (by omega)).mp c5
              refine J_pushL qX6_next_187 ?_
              refine J_aload_n (i := 0) qX6_next_190 rfl rfl ?_
              refine J_getLe qX6_next_191 fX6_120 (by assumption) (by (repeat first | with_reducible exact wL_e _ _ _ _ | with_reducible apply rdl_i | (with_reducible apply rdl_s; focus omega) | (with_reducible apply rdl_k; focus omega)); first | done | assumption | rfl) ?_
              refine J_lmul qX6_next_194 ?_
              refine J_aload_n (i := 0) qX6_next_195 rfl rfl ?_
              refine J_iload_n (i := 1) qX6_next_196 rfl rfl ?_
              refine J_aload_n (i := 0) qX6_next_197 rfl rfl ?_
              refine J_getIe qX6_next_198 fX6_97 (by assumption) (by (repeat first | with_reducible exact wI_e _ _ _ _ | (with_reducible apply rd_s; focus omega) | (with_reducible apply rd_c; focus omega) | (with_reducible apply rd_k; focus omega) | with_reducible exact rd_e (by omega)); first | done | assumption | rfl) ?_
              refine J_vi2 qX6_next_201 kX6_100 (by assumption) (m_byteAt (d := d + 1) hM0 ht r1.1 (k := figA T s + m) (by omega)) (Nat.le_of_ble_eq_true rfl) (fun v1 μ' hr => ?_)
              rw [btM_lt hlm, g1] at hr
              obtain ⟨rfl, rfl⟩ := hr
              rw [lN_mul]
              refine J_i2l qX6_next_204 ?_
              rw [nI_l (by omega)]
              refine J_ladd qX6_next_205 ?_
              rw [lN_add]
              refine J_pushL qX6_next_206 ?_
              refine J_lsub qX6_next_209 ?_
              rw [lN_sub (by omega)]
              exact nxt _ (by rw [if_neg (by omega)]; omega)
            · have c5' : 9999999999 < vM T (figA T s) m := Nat.lt_of_not_le (fun z => c5 ((pk_lLE (a := vM T (figA T s) m) (b := 9999999999) (by omega) (by omega)).mpr z))
              refine J_aload_n (i := 0) qX6_next_180 rfl rfl ?_
              refine J_getLe qX6_next_181 fX6_120 (by assumption) (by (repeat first | with_reducible exact wL_e _ _ _ _ | with_reducible apply rdl_i | (with_reducible apply rdl_s; focus omega) | (with_reducible apply rdl_k; focus omega)); first | done | assumption | rfl) ?_
              refine J_goto qX6_next_184 ?_
              exact nxt _ (by rw [if_pos c5'])
        have fa : figA T s = s ∨ figA T s = s + 1 := by unfold figA; split <;> omega
        have start : ∀ (z : Nat), figA T s = s + z → J mX6_next (d+2) (0, 0) s0 (Kv G (fun μ' => RdM μ' t T (enA2 T s) ∧ μ'.1 198 9 = nI s ∧ μ'.1 198 10 = nI (kdA T s) ∧ (kdA T s = 2 → μ'.2 198 11 = valL T s) ∧ FrN μ μ')) (0, 0) 147 [.ref 198, .int (nI t), .int (b2i (negB T s))] [.int (nI z), .int (nI s), .ref 198] (G, wI ν2 198 10 (nI 2)) := fun z ez => by
          first | with_reducible refine J_iadd_n qX6_next_147 ?_ | refine J_iadd qX6_next_147 ?_
          refine J_putI qX6_next_148 fX6_97p (by assumption) rfl rfl ?_
          refine J_aload_n (i := 0) qX6_next_151 rfl rfl ?_
          refine J_pushL qX6_next_152 ?_
          refine J_putL qX6_next_153 fX6_120p (by assumption) rfl rfl ?_
          rw [← ez]
          exact H _ 0 _ rfl (by omega) ((((hR2.w (by omega)).at (by omega)).l)) (by rw [wL_1, wI_n (by omega), wI_n (by omega)]; exact e9) (by rw [wL_1, wI_n (by omega), wI_e]) (wL_e _ _ _ _) (((hF2.w (by omega)).w (by omega)).l)
        have e8b : (wI ν2 198 10 (nI 2)).1 198 8 = nI s := (wI_n (by omega)).trans e8
        refine J_aload_n (i := 0) qX6_next_108 rfl rfl ?_
        refine J_pushI qX6_next_109 ?_
        refine J_putI qX6_next_110 fX6_110p (by assumption) rfl rfl ?_
        refine J_aload_n (i := 0) qX6_next_113 rfl rfl ?_
        refine J_iload_n (i := 1) qX6_next_114 rfl rfl ?_
        refine J_aload_n (i := 0) qX6_next_115 rfl rfl ?_
        refine J_getIe qX6_next_116 fX6_97 (by assumption) (by (repeat first | with_reducible exact wI_e _ _ _ _ | (with_reducible apply rd_s; focus omega) | (with_reducible apply rd_c; focus omega) | (with_reducible apply rd_k; focus omega) | with_reducible exact rd_e (by omega)); first | done | assumption | rfl) ?_
        refine J_vi2 qX6_next_119 kX6_100 (by assumption) (m_byteAt (d := d + 1) hM0 ht (hR2.w (k := 10) (by omega)).1 (k := s) (by omega)) (Nat.le_of_ble_eq_true rfl) (fun v1 μ' hr => ?_)
        obtain ⟨rfl, rfl⟩ := hr
        refine J_pushI qX6_next_122 ?_
        refine J_icmp_ne qX6_next_124 (fun c3 => ?_) (fun c3 => ?_)
        · rw [decide_eq_false c3] at ng
          rw [ng] at start
          refine J_pushI qX6_next_131 ?_
          refine J_ist2 qX6_next_132 (Nat.le_of_ble_eq_true rfl) rfl ?_
          refine J_aload_n (i := 0) qX6_next_133 rfl rfl ?_
          refine J_dup qX6_next_134 rfl ?_
          refine J_getIe qX6_next_135 fX6_97 (by assumption) (by (repeat first | with_reducible exact wI_e _ _ _ _ | (with_reducible apply rd_s; focus omega) | (with_reducible apply rd_c; focus omega) | (with_reducible apply rd_k; focus omega) | with_reducible exact rd_e (by omega)); first | done | assumption | rfl) ?_
          refine J_iload_n (i := 2) qX6_next_138 rfl rfl ?_
          refine J_if_eq qX6_next_139 (fun _ => ?_) (fun z => absurd rfl z)
          refine J_pushI qX6_next_146 ?_
          exact start 0 (by unfold figA; rw [ng]; rfl)
        · rw [decide_eq_true c3] at ng
          rw [ng] at start
          refine J_pushI qX6_next_127 ?_
          refine J_goto qX6_next_128 ?_
          refine J_ist2 qX6_next_132 (Nat.le_of_ble_eq_true rfl) rfl ?_
          refine J_aload_n (i := 0) qX6_next_133 rfl rfl ?_
          refine J_dup qX6_next_134 rfl ?_
          refine J_getIe qX6_next_135 fX6_97 (by assumption) (by (repeat first | with_reducible exact wI_e _ _ _ _ | (with_reducible apply rd_s; focus omega) | (with_reducible apply rd_c; focus omega) | (with_reducible apply rd_k; focus omega) | with_reducible exact rd_e (by omega)); first | done | assumption | rfl) ?_
          refine J_iload_n (i := 2) qX6_next_138 rfl rfl ?_
          refine J_if_eq qX6_next_139 (fun z => absurd z (by decide)) (fun _ => ?_)
          refine J_pushI qX6_next_142 ?_
          refine J_goto qX6_next_143 ?_
          exact start 1 (by unfold figA; rw [ng]; rfl)
      have oth : ¬ (isFig T s = true ∨ (negB T s = true ∧ isFig T (s + 1) = true)) → J mX6_next (d+2) (0, 0) s0 (Kv G (fun μ' => RdM μ' t T (enA2 T s) ∧ μ'.1 198 9 = nI s ∧ μ'.1 198 10 = nI (kdA T s) ∧ (kdA T s = 2 → μ'.2 198 11 = valL T s) ∧ FrN μ μ')) (0, 0) 249 [.ref 198, .int (nI t), .null] [] (G, ν2) := fun hn => by
        have nfs : isFig T s = false := by
          cases hq : isFig T s with
          | false => rfl
          | true => exact absurd (Or.inl hq) hn
        have ee : enA2 T s = s + 1 := by
          unfold enA2
          rw [if_neg nl, hl, if_neg (by decide), nfs, Bool.or_false]
          cases hq : negB T s with
          | false => rfl
          | true =>
            have h2 : isFig T (s + 1) = false := by
              cases hq2 : isFig T (s + 1) with
              | false => rfl
              | true => exact absurd (Or.inr ⟨hq, hq2⟩) hn
            rw [if_pos rfl]
            unfold figE figA
            rw [hq, if_pos rfl]
            exact over_no h2
        have ek : kdA T s = if bt T s = nI 59 then 3 else 4 := by
          unfold kdA
          rw [if_neg nl, hl, if_neg (by decide), nfs, Bool.or_false]
          cases hq : negB T s with
          | false => rfl
          | true =>
            have h2 : isFig T (s + 1) = false := by
              cases hq2 : isFig T (s + 1) with
              | false => rfl
              | true => exact absurd (Or.inr ⟨hq, hq2⟩) hn
            have h3 := of_decide_eq_true hq
            have h4 : ¬ figA T s < figE T s := by
              unfold figE
              have : figA T s = s + 1 := by unfold figA; rw [hq]; rfl
              rw [this, over_no h2]
              omega
            rw [if_pos rfl, if_neg h4, h3, if_neg (by decide)]
        have fin : ∀ z : Nat, z = kdA T s → J mX6_next (d+2) (0, 0) s0 (Kv G (fun μ' => RdM μ' t T (enA2 T s) ∧ μ'.1 198 9 = nI s ∧ μ'.1 198 10 = nI (kdA T s) ∧ (kdA T s = 2 → μ'.2 198 11 = valL T s) ∧ FrN μ μ')) (0, 0) 269 [.ref 198, .int (nI t), .null] [.int (nI z), .ref 198] (G, ν2) := fun z ez => by
          subst ez
          refine J_putI qX6_next_269 fX6_110p (by assumption) rfl rfl ?_
          refine J_aload_n (i := 0) qX6_next_272 rfl rfl ?_
          refine J_dup qX6_next_273 rfl ?_
          refine J_getIe qX6_next_274 fX6_97 (by assumption) (by (repeat first | with_reducible exact wI_e _ _ _ _ | (with_reducible apply rd_s; focus omega) | (with_reducible apply rd_c; focus omega) | (with_reducible apply rd_k; focus omega) | with_reducible exact rd_e (by omega)); first | done | assumption | rfl) ?_
          refine J_pushI qX6_next_277 ?_
          first | with_reducible refine J_iadd_n qX6_next_278 ?_ | refine J_iadd qX6_next_278 ?_
          refine J_putI qX6_next_279 fX6_97p (by assumption) rfl rfl ?_
          refine Jv_ret qX6_next_282 ?_
          rw [ee]
          refine ⟨(hR2.w (k := 10) (by omega)).at (by omega), by rw [wI_n (by omega), wI_n (by omega)]; exact e9, by rw [wI_n (by omega), wI_e], fun z => ?_, (hF2.w (by omega)).w (by omega)⟩
          rw [ek] at z
          split at z <;> omega
        refine J_aload_n (i := 0) qX6_next_249 rfl rfl ?_
        refine J_aload_n (i := 0) qX6_next_250 rfl rfl ?_
        refine J_iload_n (i := 1) qX6_next_251 rfl rfl ?_
        refine J_aload_n (i := 0) qX6_next_252 rfl rfl ?_
        refine J_getIe qX6_next_253 fX6_97 (by assumption) (by (repeat first | with_reducible exact wI_e _ _ _ _ | (with_reducible apply rd_s; focus omega) | (with_reducible apply rd_c; focus omega) | (with_reducible apply rd_k; focus omega) | with_reducible exact rd_e (by omega)); first | done | assumption | rfl) ?_
        refine J_vi2 qX6_next_256 kX6_100 (by assumption) (m_byteAt (d := d + 1) hM0 ht hR2.1 (k := s) (by omega)) (Nat.le_of_ble_eq_true rfl) (fun v1 μ' hr => ?_)
        rw [btM_lt (by omega)] at hr
        obtain ⟨rfl, rfl⟩ := hr
        refine J_pushI qX6_next_259 ?_
        refine J_icmp_ne qX6_next_261 (fun c3 => ?_) (fun c3 => ?_)
        · refine J_pushI qX6_next_268 ?_
          exact fin 4 (by rw [ek, if_neg c3])
        · refine J_pushI qX6_next_264 ?_
          refine J_goto qX6_next_265 ?_
          exact fin 3 (by rw [ek, if_pos c3])
      cases hf : isFig T s with
      | true =>
        first | refine J_if_ne qX6_next_77 (fun c => absurd b2i_f0 c) (fun _ => ?_) | refine J_if_ne qX6_next_77 (fun _ => ?_) (fun c => absurd c b2i_t0)
        exact num (Or.inl hf)
      | false =>
        first | refine J_if_ne qX6_next_77 (fun c => absurd b2i_f0 c) (fun _ => ?_) | refine J_if_ne qX6_next_77 (fun _ => ?_) (fun c => absurd c b2i_t0)
        refine J_aload_n (i := 0) qX6_next_80 rfl rfl ?_
        refine J_iload_n (i := 1) qX6_next_81 rfl rfl ?_
        refine J_aload_n (i := 0) qX6_next_82 rfl rfl ?_
        refine J_getIe qX6_next_83 fX6_97 (by assumption) (by (repeat first | with_reducible exact wI_e _ _ _ _ | (with_reducible apply rd_s; focus omega) | (with_reducible apply rd_c; focus omega) | (with_reducible apply rd_k; focus omega) | with_reducible exact rd_e (by omega)); first | done | assumption | rfl) ?_
        refine J_vi2 qX6_next_86 kX6_100 (by assumption) (m_byteAt (d := d + 1) hM0 ht hR2.1 (k := s) (by omega)) (Nat.le_of_ble_eq_true rfl) (fun v1 μ' hr => ?_)
        obtain ⟨rfl, rfl⟩ := hr
        refine J_pushI qX6_next_89 ?_
        refine J_icmp_ne qX6_next_91 (fun c3 => ?_) (fun c3 => ?_)
        · rw [decide_eq_false c3] at ng
          exact oth (fun z => z.elim (fun y => by rw [hf] at y; cases y) (fun y => by rw [ng] at y; cases y.1))
        · rw [decide_eq_true c3] at ng
          refine J_aload_n (i := 0) qX6_next_94 rfl rfl ?_
          refine J_iload_n (i := 1) qX6_next_95 rfl rfl ?_
          refine J_aload_n (i := 0) qX6_next_96 rfl rfl ?_
          refine J_getIe qX6_next_97 fX6_97 (by assumption) (by (repeat first | with_reducible exact wI_e _ _ _ _ | (with_reducible apply rd_s; focus omega) | (with_reducible apply rd_c; focus omega) | (with_reducible apply rd_k; focus omega) | with_reducible exact rd_e (by omega)); first | done | assumption | rfl) ?_
          refine J_pushI qX6_next_100 ?_
          first | with_reducible refine J_iadd_n qX6_next_101 ?_ | refine J_iadd qX6_next_101 ?_
          refine J_vi2 qX6_next_102 kX6_116 (by assumption) (m_isFigure (d := d) hM0 ht hR2.1 (k := s + 1) (by omega)) (Nat.le_of_ble_eq_true rfl) (fun v1 μ' hr => ?_)
          obtain ⟨rfl, rfl⟩ := hr
          cases hf2 : isFig T (s + 1) with
          | true =>
            first | refine J_if_eq qX6_next_105 (fun _ => ?_) (fun c => absurd b2i_f0 c) | refine J_if_eq qX6_next_105 (fun c => absurd c b2i_t0) (fun _ => ?_)
            exact num (Or.inr ⟨ng, hf2⟩)
          | false =>
            first | refine J_if_eq qX6_next_105 (fun _ => ?_) (fun c => absurd b2i_f0 c) | refine J_if_eq qX6_next_105 (fun c => absurd c b2i_t0) (fun _ => ?_)
            exact oth (fun z => z.elim (fun y => by rw [hf] at y; cases y) (fun y => by rw [hf2] at y; cases y.2))
  · have ek : kdA T s = 0 := by unfold kdA; rw [if_pos (by omega)]
    have ee : enA2 T s = s := by unfold enA2; rw [if_pos (by omega)]
    rw [ek, ee]
    refine J_aload_n (i := 0) qX6_next_26 rfl rfl ?_
    refine J_pushI qX6_next_27 ?_
    refine J_putI qX6_next_28 fX6_110p (by assumption) rfl rfl ?_
    refine J_goto qX6_next_31 ?_
    refine Jv_ret qX6_next_282 ?_
    exact ⟨hR2.w (by omega), by rw [wI_n (by omega)]; exact e9, wI_e _ _ _ _, fun z => absurd z (by omega), hF2.w (by omega)⟩
end MM
