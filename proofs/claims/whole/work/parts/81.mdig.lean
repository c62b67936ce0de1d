/-! THE MODEL: digest -/
section MM
variable {G : Gm} {μ : Mm} {d : Nat} {s : St} {cs : List Cs}
theorem m_digest (hM : LayM G) (h : RelM μ s) : Sl mX6_digest (d+6) [.ref 198] G μ (fun q μ' => q = (digestS s).1 ∧ RelM μ' (digestS s).2 ∧ FrM μ μ') := by
  have hM0 := hM
  obtain ⟨mO, ⟨f2, f3, f4, f5, f6, f7, f15, f17, f19, f21, f22, -⟩, ⟨b199, b200, b201, b202, b203, b204, b205, b206, b207, b208, b209, -⟩⟩ := hM
  have hcμ := h.2.2.1.1
  have ho := h.2.2.1.2.2.2.1.1
  have h12 := hcμ.2.1
  have pl12 := prt_len (cs := (sP s).1) true true h12
  refine Sl_of (ls := [.ref 198, .null, .null]) (by decide +kernel) (Nat.le_of_ble_eq_true rfl) rfl ?_
  refine J_aload_n (i := 0) qX6_digest_0 rfl rfl ?_
  refine J_pushL qX6_digest_1 ?_
  refine J_putL qX6_digest_4 fX6_331p (by assumption) rfl rfl ?_
  refine J_aload_n (i := 0) qX6_digest_7 rfl rfl ?_
  refine J_vi0 qX6_digest_8 kX6_283 (by assumption) (m_layPlan (d := d) hM0 (cs := (sP s).1) (hcμ.ag (fun _ _ _ => rfl)) ho) (Nat.le_of_ble_eq_true rfl) (fun v1 ν0 hr => ?_)
  obtain ⟨rfl, hA, h26, hT, hF⟩ := hr
  obtain ⟨hR1, hF1⟩ := h.free (FrE.l (μ := μ) FrE.rf (Or.inr rfl) : FrE μ (wL μ 198 34 (lN 17)))
  obtain ⟨hR0, hF2⟩ := hR1.free hF.pl
  have hF0 := hF1.tr hF2
  have z17 : ν0.2 198 34 = lN 17 := by rw [hF.2]; exact wL_e _ _ _ _
  have hP0 : PlnM ν0 (sP s).1 := ⟨hA, h26, hT⟩
  clear hF1 hF2 hR1 hF hA h26 hT
  have rel : ∀ {ν : Mm}, FrH ν0 ν → RelM ν s ∧ FrM μ ν := fun hH => ⟨(hR0.free hH.e).1, hF0.tr (hR0.free hH.e).2⟩
  have L7 : ∀ t, t ≤ 4 → ∀ (ν : Mm) (v2 : Value), FrH ν0 ν → ν.2 198 34 = strF (sTx s) (strF (sRw s) (dgD s) 6) t → J mX6_digest (d+6) (0, 0) s0 (Kl G (fun q μ' => q = (digestS s).1 ∧ RelM μ' (digestS s).2 ∧ FrM μ μ')) (0, 0) 205 [.ref 198, .int (nI t), v2] [] (G, ν) := by
    refine ind_up (fun t ht ih ν v2 hH hz => ?_)
    obtain ⟨r1, r2⟩ := rel hH
    refine J_iload_n (i := 1) qX6_digest_205 rfl rfl ?_
    refine J_pushI qX6_digest_206 ?_
    first | with_reducible refine J_icmp_ge_n qX6_digest_207 (by omega) (by omega) (fun c1 => ?_) (fun c1 => ?_) | refine J_icmp_ge qX6_digest_207 (fun c1 => ?_) (fun c1 => ?_)
    · refine J_aload_n (i := 0) qX6_digest_261 rfl rfl ?_
      refine J_getLe qX6_digest_262 fX6_331 (by assumption) (by (repeat first | with_reducible exact wL_e _ _ _ _ | with_reducible apply rdl_i | (with_reducible apply rdl_s; focus omega) | (with_reducible apply rdl_k; focus omega)); first | done | assumption | rfl) ?_
      refine Jl_ret qX6_digest_265 ?_
      rw [show t = 4 by omega]
      exact ⟨rfl, r1, r2⟩
    · have hS := r1.2.1 t c1
      have hh : ∀ (ν : Mm) (v2 : Value), FrH ν0 ν → ν.2 198 34 = stV (sTx s t) (strF (sTx s) (strF (sRw s) (dgD s) 6) t) → J mX6_digest (d+6) (0, 0) s0 (Kl G (fun q μ' => q = (digestS s).1 ∧ RelM μ' (digestS s).2 ∧ FrM μ μ')) (0, 0) 205 [.ref 198, .int (nI (t + 1)), v2] [] (G, ν) := ih c1
      cases hm : sTx s t with
      | none =>
        rw [hm] at hS hh
        have e : ν.1 203 t = -1 := hS
        refine J_aload_n (i := 0) qX6_digest_210 rfl rfl ?_
        refine J_aload_n (i := 0) qX6_digest_211 rfl rfl ?_
        refine J_getR qX6_digest_212 fX6_22 (by assumption) (by assumption) ?_
        refine J_iload_n (i := 1) qX6_digest_215 rfl rfl ?_
        refine J_ialde qX6_digest_216 (by assumption) rfl (by omega) (by (repeat first | with_reducible exact wI_e _ _ _ _ | (with_reducible apply rd_s; focus omega) | (with_reducible apply rd_c; focus omega) | (with_reducible apply rd_k; focus omega) | with_reducible exact rd_e (by omega)); first | done | assumption | rfl) ?_
        refine J_i2l qX6_digest_217 ?_
        refine J_vv1 qX6_digest_218 kX6_336 (by assumption) (m_adds (d := d + 5) hM0 hz _) (Nat.le_of_ble_eq_true rfl) (fun ν1 hr => ?_)
        obtain rfl := hr
        refine J_pushI qX6_digest_221 ?_
        refine J_ist2 qX6_digest_222 (Nat.le_of_ble_eq_true rfl) rfl ?_
        refine J_iload_n (i := 2) qX6_digest_223 rfl rfl ?_
        refine J_aload_n (i := 0) qX6_digest_224 rfl rfl ?_
        refine J_getR qX6_digest_225 fX6_22 (by assumption) (by assumption) ?_
        refine J_iload_n (i := 1) qX6_digest_228 rfl rfl ?_
        refine J_ialde qX6_digest_229 (by assumption) rfl (by omega) (by (repeat first | with_reducible exact wI_e _ _ _ _ | (with_reducible apply rd_s; focus omega) | (with_reducible apply rd_c; focus omega) | (with_reducible apply rd_k; focus omega) | with_reducible exact rd_e (by omega)); first | done | assumption | rfl) ?_
        refine J_icmp_ge qX6_digest_230 (fun _ => ?_) (fun z => absurd (by decide) z)
        refine J_inc1 qX6_digest_255 (Nat.le_of_ble_eq_true rfl) (by first | with_reducible exact nI_inc _ | rfl) rfl ?_
        refine J_goto qX6_digest_258 ?_
        exact hh _ _ hH.w (wL_e _ _ _ _)
      | some l =>
        rw [hm] at hS hh
        obtain ⟨e, l2, l3⟩ := hS
        have ev : ν0.1 203 t = nI l.length := by rw [← hH.1]; exact e
        have lv3 : ∀ i, i < l.length → ν0.1 204 (120 * t + i) = l.getD i 0 := fun i hi => by rw [← hH.1]; exact l3 i hi
        refine J_aload_n (i := 0) qX6_digest_210 rfl rfl ?_
        refine J_aload_n (i := 0) qX6_digest_211 rfl rfl ?_
        refine J_getR qX6_digest_212 fX6_22 (by assumption) (by assumption) ?_
        refine J_iload_n (i := 1) qX6_digest_215 rfl rfl ?_
        refine J_ialde qX6_digest_216 (by assumption) rfl (by omega) (by (repeat first | with_reducible exact wI_e _ _ _ _ | (with_reducible apply rd_s; focus omega) | (with_reducible apply rd_c; focus omega) | (with_reducible apply rd_k; focus omega) | with_reducible exact rd_e (by omega)); first | done | assumption | rfl) ?_
        refine J_i2l qX6_digest_217 ?_
        refine J_vv1 qX6_digest_218 kX6_336 (by assumption) (m_adds (d := d + 5) hM0 hz _) (Nat.le_of_ble_eq_true rfl) (fun ν1 hr => ?_)
        obtain rfl := hr
        refine J_pushI qX6_digest_221 ?_
        refine J_ist2 qX6_digest_222 (Nat.le_of_ble_eq_true rfl) rfl ?_
        have H2 : ∀ i, i ≤ l.length → ∀ ν1 : Mm, FrH ν0 ν1 → ν1.2 198 34 = fdN (fun i => l.getD i 0) (lN 31 * strF (sTx s) (strF (sRw s) (dgD s) 6) t + (nI l.length).toInt64) i → J mX6_digest (d+6) (0, 0) s0 (Kl G (fun q μ' => q = (digestS s).1 ∧ RelM μ' (digestS s).2 ∧ FrM μ μ')) (0, 0) 223 [.ref 198, .int (nI t), .int (nI i)] [] (G, ν1) := by
          refine ind_up (fun i hi ih2 ν1 hH1 hz1 => ?_)
          have e1 : ν1.1 203 t = nI l.length := by rw [hH1.1]; exact ev
          refine J_iload_n (i := 2) qX6_digest_223 rfl rfl ?_
          refine J_aload_n (i := 0) qX6_digest_224 rfl rfl ?_
          refine J_getR qX6_digest_225 fX6_22 (by assumption) (by assumption) ?_
          refine J_iload_n (i := 1) qX6_digest_228 rfl rfl ?_
          refine J_ialde qX6_digest_229 (by assumption) rfl (by omega) (by (repeat first | with_reducible exact wI_e _ _ _ _ | (with_reducible apply rd_s; focus omega) | (with_reducible apply rd_c; focus omega) | (with_reducible apply rd_k; focus omega) | with_reducible exact rd_e (by omega)); first | done | assumption | rfl) ?_
          first | with_reducible refine J_icmp_ge_n qX6_digest_230 (by omega) (by omega) (fun c2 => ?_) (fun c2 => ?_) | refine J_icmp_ge qX6_digest_230 (fun c2 => ?_) (fun c2 => ?_)
          · refine J_inc1 qX6_digest_255 (Nat.le_of_ble_eq_true rfl) (by first | with_reducible exact nI_inc _ | rfl) rfl ?_
            refine J_goto qX6_digest_258 ?_
            exact hh ν1 _ hH1 (by rw [hz1, show i = l.length by omega]; rfl)
          · have e3 : ν1.1 204 (120 * t + i) = l.getD i 0 := by rw [hH1.1]; exact lv3 i c2
            refine J_aload_n (i := 0) qX6_digest_233 rfl rfl ?_
            refine J_aload_n (i := 0) qX6_digest_234 rfl rfl ?_
            refine J_getR qX6_digest_235 fX6_25 (by assumption) (by assumption) ?_
            refine J_pushI qX6_digest_238 ?_
            refine J_iload_n (i := 1) qX6_digest_240 rfl rfl ?_
            first | with_reducible refine J_imul_n qX6_digest_241 ?_ | refine J_imul qX6_digest_241 ?_
            refine J_iload_n (i := 2) qX6_digest_242 rfl rfl ?_
            first | with_reducible refine J_iadd_n qX6_digest_243 ?_ | refine J_iadd qX6_digest_243 ?_
            refine J_bald qX6_digest_244 b204 rfl (by omega) ?_
            rw [e3]
            refine J_i2l qX6_digest_245 ?_
            refine J_vv1 qX6_digest_246 kX6_336 (by assumption) (m_adds (d := d + 5) hM0 hz1 _) (Nat.le_of_ble_eq_true rfl) (fun ν2 hr => ?_)
            obtain rfl := hr
            refine J_inc2 qX6_digest_249 (Nat.le_of_ble_eq_true rfl) (by first | with_reducible exact nI_inc _ | rfl) rfl ?_
            refine J_goto qX6_digest_252 ?_
            exact ih2 c2 _ hH1.w (by rw [wL_e, fdN_succ])
        exact H2 0 (Nat.zero_le _) _ hH.w (wL_e _ _ _ _)
  have L6 : ∀ t, t ≤ 6 → ∀ (ν : Mm) (v2 : Value), FrH ν0 ν → ν.2 198 34 = strF (sRw s) (dgD s) t → J mX6_digest (d+6) (0, 0) s0 (Kl G (fun q μ' => q = (digestS s).1 ∧ RelM μ' (digestS s).2 ∧ FrM μ μ')) (0, 0) 151 [.ref 198, .int (nI t), v2] [] (G, ν) := by
    refine ind_up (fun t ht ih ν v2 hH hz => ?_)
    obtain ⟨r1, r2⟩ := rel hH
    refine J_iload_n (i := 1) qX6_digest_151 rfl rfl ?_
    refine J_pushI qX6_digest_152 ?_
    first | with_reducible refine J_icmp_ge_n qX6_digest_154 (by omega) (by omega) (fun c1 => ?_) (fun c1 => ?_) | refine J_icmp_ge qX6_digest_154 (fun c1 => ?_) (fun c1 => ?_)
    · refine J_pushI qX6_digest_203 ?_
      refine J_ist1 qX6_digest_204 (Nat.le_of_ble_eq_true rfl) rfl ?_
      exact L7 0 (Nat.zero_le _) ν v2 hH (by rw [hz, show t = 6 by omega]; rfl)
    · have hS := r1.1 t c1
      have hh : ∀ (ν : Mm) (v2 : Value), FrH ν0 ν → ν.2 198 34 = stV (sRw s t) (strF (sRw s) (dgD s) t) → J mX6_digest (d+6) (0, 0) s0 (Kl G (fun q μ' => q = (digestS s).1 ∧ RelM μ' (digestS s).2 ∧ FrM μ μ')) (0, 0) 151 [.ref 198, .int (nI (t + 1)), v2] [] (G, ν) := ih c1
      cases hm : sRw s t with
      | none =>
        rw [hm] at hS hh
        have e : ν.1 200 t = -1 := hS
        refine J_aload_n (i := 0) qX6_digest_157 rfl rfl ?_
        refine J_aload_n (i := 0) qX6_digest_158 rfl rfl ?_
        refine J_getR qX6_digest_159 fX6_13 (by assumption) (by assumption) ?_
        refine J_iload_n (i := 1) qX6_digest_162 rfl rfl ?_
        refine J_ialde qX6_digest_163 (by assumption) rfl (by omega) (by (repeat first | with_reducible exact wI_e _ _ _ _ | (with_reducible apply rd_s; focus omega) | (with_reducible apply rd_c; focus omega) | (with_reducible apply rd_k; focus omega) | with_reducible exact rd_e (by omega)); first | done | assumption | rfl) ?_
        refine J_i2l qX6_digest_164 ?_
        refine J_vv1 qX6_digest_165 kX6_336 (by assumption) (m_adds (d := d + 5) hM0 hz _) (Nat.le_of_ble_eq_true rfl) (fun ν1 hr => ?_)
        obtain rfl := hr
        refine J_pushI qX6_digest_168 ?_
        refine J_ist2 qX6_digest_169 (Nat.le_of_ble_eq_true rfl) rfl ?_
        refine J_iload_n (i := 2) qX6_digest_170 rfl rfl ?_
        refine J_aload_n (i := 0) qX6_digest_171 rfl rfl ?_
        refine J_getR qX6_digest_172 fX6_13 (by assumption) (by assumption) ?_
        refine J_iload_n (i := 1) qX6_digest_175 rfl rfl ?_
        refine J_ialde qX6_digest_176 (by assumption) rfl (by omega) (by (repeat first | with_reducible exact wI_e _ _ _ _ | (with_reducible apply rd_s; focus omega) | (with_reducible apply rd_c; focus omega) | (with_reducible apply rd_k; focus omega) | with_reducible exact rd_e (by omega)); first | done | assumption | rfl) ?_
        refine J_icmp_ge qX6_digest_177 (fun _ => ?_) (fun z => absurd (by decide) z)
        refine J_inc1 qX6_digest_197 (Nat.le_of_ble_eq_true rfl) (by first | with_reducible exact nI_inc _ | rfl) rfl ?_
        refine J_goto qX6_digest_200 ?_
        exact hh _ _ hH.w (wL_e _ _ _ _)
      | some l =>
        rw [hm] at hS hh
        obtain ⟨e, l2, l3⟩ := hS
        have ev : ν0.1 200 t = nI l.length := by rw [← hH.1]; exact e
        have lv3 : ∀ i, i < l.length → ν0.1 201 (40 * t + i) = l.getD i 0 := fun i hi => by rw [← hH.1]; exact l3 i hi
        refine J_aload_n (i := 0) qX6_digest_157 rfl rfl ?_
        refine J_aload_n (i := 0) qX6_digest_158 rfl rfl ?_
        refine J_getR qX6_digest_159 fX6_13 (by assumption) (by assumption) ?_
        refine J_iload_n (i := 1) qX6_digest_162 rfl rfl ?_
        refine J_ialde qX6_digest_163 (by assumption) rfl (by omega) (by (repeat first | with_reducible exact wI_e _ _ _ _ | (with_reducible apply rd_s; focus omega) | (with_reducible apply rd_c; focus omega) | (with_reducible apply rd_k; focus omega) | with_reducible exact rd_e (by omega)); first | done | assumption | rfl) ?_
        refine J_i2l qX6_digest_164 ?_
        refine J_vv1 qX6_digest_165 kX6_336 (by assumption) (m_adds (d := d + 5) hM0 hz _) (Nat.le_of_ble_eq_true rfl) (fun ν1 hr => ?_)
        obtain rfl := hr
        refine J_pushI qX6_digest_168 ?_
        refine J_ist2 qX6_digest_169 (Nat.le_of_ble_eq_true rfl) rfl ?_
        have H2 : ∀ i, i ≤ l.length → ∀ ν1 : Mm, FrH ν0 ν1 → ν1.2 198 34 = fdN (fun i => l.getD i 0) (lN 31 * strF (sRw s) (dgD s) t + (nI l.length).toInt64) i → J mX6_digest (d+6) (0, 0) s0 (Kl G (fun q μ' => q = (digestS s).1 ∧ RelM μ' (digestS s).2 ∧ FrM μ μ')) (0, 0) 170 [.ref 198, .int (nI t), .int (nI i)] [] (G, ν1) := by
          refine ind_up (fun i hi ih2 ν1 hH1 hz1 => ?_)
          have e1 : ν1.1 200 t = nI l.length := by rw [hH1.1]; exact ev
          refine J_iload_n (i := 2) qX6_digest_170 rfl rfl ?_
          refine J_aload_n (i := 0) qX6_digest_171 rfl rfl ?_
          refine J_getR qX6_digest_172 fX6_13 (by assumption) (by assumption) ?_
          refine J_iload_n (i := 1) qX6_digest_175 rfl rfl ?_
          refine J_ialde qX6_digest_176 (by assumption) rfl (by omega) (by (repeat first | with_reducible exact wI_e _ _ _ _ | (with_reducible apply rd_s; focus omega) | (with_reducible apply rd_c; focus omega) | (with_reducible apply rd_k; focus omega) | with_reducible exact rd_e (by omega)); first | done | assumption | rfl) ?_
          first | with_reducible refine J_icmp_ge_n qX6_digest_177 (by omega) (by omega) (fun c2 => ?_) (fun c2 => ?_) | refine J_icmp_ge qX6_digest_177 (fun c2 => ?_) (fun c2 => ?_)
          · refine J_inc1 qX6_digest_197 (Nat.le_of_ble_eq_true rfl) (by first | with_reducible exact nI_inc _ | rfl) rfl ?_
            refine J_goto qX6_digest_200 ?_
            exact hh ν1 _ hH1 (by rw [hz1, show i = l.length by omega]; rfl)
          · have e3 : ν1.1 201 (40 * t + i) = l.getD i 0 := by rw [hH1.1]; exact lv3 i c2
            refine J_aload_n (i := 0) qX6_digest_180 rfl rfl ?_
            refine J_aload_n (i := 0) qX6_digest_181 rfl rfl ?_
            refine J_iload_n (i := 1) qX6_digest_182 rfl rfl ?_
            refine J_iload_n (i := 2) qX6_digest_183 rfl rfl ?_
            refine J_vi2 qX6_digest_184 kX6_87 (by assumption) (m_rowAt (d := d + 5) hM0 c1 (i := i) (by omega)) (Nat.le_of_ble_eq_true rfl) (fun v1 μ' hr => ?_)
            rw [e3] at hr
            obtain ⟨rfl, rfl⟩ := hr
            refine J_i2l qX6_digest_187 ?_
            refine J_vv1 qX6_digest_188 kX6_336 (by assumption) (m_adds (d := d + 5) hM0 hz1 _) (Nat.le_of_ble_eq_true rfl) (fun ν2 hr => ?_)
            obtain rfl := hr
            refine J_inc2 qX6_digest_191 (Nat.le_of_ble_eq_true rfl) (by first | with_reducible exact nI_inc _ | rfl) rfl ?_
            refine J_goto qX6_digest_194 ?_
            exact ih2 c2 _ hH1.w (by rw [wL_e, fdN_succ])
        exact H2 0 (Nat.zero_le _) _ hH.w (wL_e _ _ _ _)
  have L5 : ∀ t, t ≤ 3 → ∀ (ν : Mm) (v2 : Value), FrH ν0 ν → ν.2 198 34 = fdN (kdV s) (dgC s) t → J mX6_digest (d+6) (0, 0) s0 (Kl G (fun q μ' => q = (digestS s).1 ∧ RelM μ' (digestS s).2 ∧ FrM μ μ')) (0, 0) 127 [.ref 198, .int (nI t), v2] [] (G, ν) := by
    refine ind_up (fun t ht ih ν v2 hH hz => ?_)
    obtain ⟨r1, r2⟩ := rel hH
    refine J_iload_n (i := 1) qX6_digest_127 rfl rfl ?_
    refine J_pushI qX6_digest_128 ?_
    first | with_reducible refine J_icmp_ge_n qX6_digest_129 (by omega) (by omega) (fun c1 => ?_) (fun c1 => ?_) | refine J_icmp_ge qX6_digest_129 (fun c1 => ?_) (fun c1 => ?_)
    · refine J_pushI qX6_digest_149 ?_
      refine J_ist1 qX6_digest_150 (Nat.le_of_ble_eq_true rfl) rfl ?_
      refine L6 0 (Nat.zero_le _) ν v2 hH ?_
      rw [hz, show t = 3 by omega]
      show _ = dgD s
      unfold dgD
      rfl
    · have hK := r1.2.2.2.1 t c1
      have e : ν.1 209 t = kdV s t := by
        unfold kdV
        cases hm : sKp s t with
        | none => rw [hm] at hK; exact hK
        | some g => rw [hm] at hK; exact hK.1
      refine J_aload_n (i := 0) qX6_digest_132 rfl rfl ?_
      refine J_aload_n (i := 0) qX6_digest_133 rfl rfl ?_
      refine J_getR qX6_digest_134 fX6_41 (by assumption) (by assumption) ?_
      refine J_iload_n (i := 1) qX6_digest_137 rfl rfl ?_
      refine J_ialde qX6_digest_138 (by assumption) rfl (by omega) (by (repeat first | with_reducible exact wI_e _ _ _ _ | (with_reducible apply rd_s; focus omega) | (with_reducible apply rd_c; focus omega) | (with_reducible apply rd_k; focus omega) | with_reducible exact rd_e (by omega)); first | done | assumption | rfl) ?_
      refine J_i2l qX6_digest_139 ?_
      refine J_vv1 qX6_digest_140 kX6_336 (by assumption) (m_adds (d := d + 5) hM0 hz _) (Nat.le_of_ble_eq_true rfl) (fun ν1 hr => ?_)
      obtain rfl := hr
      refine J_inc1 qX6_digest_143 (Nat.le_of_ble_eq_true rfl) (by first | with_reducible exact nI_inc _ | rfl) rfl ?_
      refine J_goto qX6_digest_146 ?_
      exact ih c1 _ v2 hH.w (by rw [wL_e, fdN_succ])
  have L3 : ∀ k, k ≤ (prtF (sP s).1 true true).length → ∀ (ν : Mm) (v2 : Value), FrH ν0 ν → ν.2 198 34 = fdL (fun k z => fdN (vpF (sP s).1 true true k) z 5) (dgB s) k → J mX6_digest (d+6) (0, 0) s0 (Kl G (fun q μ' => q = (digestS s).1 ∧ RelM μ' (digestS s).2 ∧ FrM μ μ')) (0, 0) 87 [.ref 198, .int (nI k), v2] [] (G, ν) := by
    refine ind_up (fun k hk ih ν v2 hH hz => ?_)
    obtain ⟨r1, r2⟩ := rel hH
    have hP := hP0.h hH
    have e26 := hP.2.1
    refine J_iload_n (i := 1) qX6_digest_87 rfl rfl ?_
    refine J_aload_n (i := 0) qX6_digest_88 rfl rfl ?_
    refine J_getIe qX6_digest_89 fX6_274 (by assumption) (by (repeat first | with_reducible exact wI_e _ _ _ _ | (with_reducible apply rd_s; focus omega) | (with_reducible apply rd_c; focus omega) | (with_reducible apply rd_k; focus omega) | with_reducible exact rd_e (by omega)); first | done | assumption | rfl) ?_
    first | with_reducible refine J_icmp_ge_n qX6_digest_92 (by omega) (by omega) (fun c1 => ?_) (fun c1 => ?_) | refine J_icmp_ge qX6_digest_92 (fun c1 => ?_) (fun c1 => ?_)
    · refine J_pushI qX6_digest_125 ?_
      refine J_ist1 qX6_digest_126 (Nat.le_of_ble_eq_true rfl) rfl ?_
      refine L5 0 (Nat.zero_le _) ν v2 hH ?_
      rw [hz, show k = (prtF (sP s).1 true true).length by omega, fdN_0]
      rfl
    · refine J_pushI qX6_digest_95 ?_
      refine J_ist2 qX6_digest_96 (Nat.le_of_ble_eq_true rfl) rfl ?_
      have H2 : ∀ w, w ≤ 5 → ∀ ν1 : Mm, FrH ν0 ν1 → ν1.2 198 34 = fdN (vpF (sP s).1 true true k) (fdL (fun k z => fdN (vpF (sP s).1 true true k) z 5) (dgB s) k) w → J mX6_digest (d+6) (0, 0) s0 (Kl G (fun q μ' => q = (digestS s).1 ∧ RelM μ' (digestS s).2 ∧ FrM μ μ')) (0, 0) 97 [.ref 198, .int (nI k), .int (nI w)] [] (G, ν1) := by
        refine ind_up (fun w hw ih2 ν1 hH1 hz1 => ?_)
        obtain ⟨q1, q2⟩ := rel hH1
        refine J_iload_n (i := 2) qX6_digest_97 rfl rfl ?_
        refine J_pushI qX6_digest_98 ?_
        first | with_reducible refine J_icmp_ge_n qX6_digest_99 (by omega) (by omega) (fun c2 => ?_) (fun c2 => ?_) | refine J_icmp_ge qX6_digest_99 (fun c2 => ?_) (fun c2 => ?_)
        · refine J_inc1 qX6_digest_119 (Nat.le_of_ble_eq_true rfl) (by first | with_reducible exact nI_inc _ | rfl) rfl ?_
          refine J_goto qX6_digest_122 ?_
          exact ih c1 ν1 _ hH1 (by rw [hz1, fdL_succ, show w = 5 by omega])
        · refine J_aload_n (i := 0) qX6_digest_102 rfl rfl ?_
          refine J_aload_n (i := 0) qX6_digest_103 rfl rfl ?_
          refine J_iload_n (i := 1) qX6_digest_104 rfl rfl ?_
          refine J_iload_n (i := 2) qX6_digest_105 rfl rfl ?_
          refine J_vi2 qX6_digest_106 kX6_293 (by assumption) (m_partTells (d := d) hM0 q1.2.2.1.1 ho (hP0.h hH1).1 c1 (w := w) (by omega)) (Nat.le_of_ble_eq_true rfl) (fun v1 μ' hr => ?_)
          obtain ⟨rfl, rfl⟩ := hr
          refine J_i2l qX6_digest_109 ?_
          refine J_vv1 qX6_digest_110 kX6_336 (by assumption) (m_adds (d := d + 5) hM0 hz1 _) (Nat.le_of_ble_eq_true rfl) (fun ν2 hr => ?_)
          obtain rfl := hr
          refine J_inc2 qX6_digest_113 (Nat.le_of_ble_eq_true rfl) (by first | with_reducible exact nI_inc _ | rfl) rfl ?_
          refine J_goto qX6_digest_116 ?_
          exact ih2 c2 _ hH1.w (by rw [wL_e, fdN_succ])
      exact H2 0 (Nat.zero_le _) ν hH (by rw [hz, fdN_0])
  have L2 : ∀ k, k ≤ (sP s).1.length → ∀ (ν : Mm) (v2 : Value), FrH ν0 ν → ν.2 198 34 = fdL (fun i z => fdN (valF (sP s).1 i) z 4) (dgA s) k → J mX6_digest (d+6) (0, 0) s0 (Kl G (fun q μ' => q = (digestS s).1 ∧ RelM μ' (digestS s).2 ∧ FrM μ μ')) (0, 0) 38 [.ref 198, .int (nI k), v2] [] (G, ν) := by
    refine ind_up (fun k hk ih ν v2 hH hz => ?_)
    obtain ⟨r1, r2⟩ := rel hH
    have e0 := r1.2.2.1.1.n0
    refine J_iload_n (i := 1) qX6_digest_38 rfl rfl ?_
    refine J_aload_n (i := 0) qX6_digest_39 rfl rfl ?_
    refine J_getR qX6_digest_40 fX6_32 (by assumption) (by assumption) ?_
    refine J_pushI qX6_digest_43 ?_
    refine J_ialde qX6_digest_44 (by assumption) rfl (by omega) (by (repeat first | with_reducible exact wI_e _ _ _ _ | (with_reducible apply rd_s; focus omega) | (with_reducible apply rd_c; focus omega) | (with_reducible apply rd_k; focus omega) | with_reducible exact rd_e (by omega)); first | done | assumption | rfl) ?_
    first | with_reducible refine J_icmp_ge_n qX6_digest_45 (by omega) (by omega) (fun c1 => ?_) (fun c1 => ?_) | refine J_icmp_ge qX6_digest_45 (fun c1 => ?_) (fun c1 => ?_)
    · refine J_pushI qX6_digest_85 ?_
      refine J_ist1 qX6_digest_86 (Nat.le_of_ble_eq_true rfl) rfl ?_
      refine L3 0 (Nat.zero_le _) ν v2 hH ?_
      rw [hz, show k = (sP s).1.length by omega, fdL_0]
      rfl
    · refine J_pushI qX6_digest_48 ?_
      refine J_ist2 qX6_digest_49 (Nat.le_of_ble_eq_true rfl) rfl ?_
      have H2 : ∀ w, w ≤ 4 → ∀ ν1 : Mm, FrH ν0 ν1 → ν1.2 198 34 = fdN (valF (sP s).1 k) (fdL (fun i z => fdN (valF (sP s).1 i) z 4) (dgA s) k) w → J mX6_digest (d+6) (0, 0) s0 (Kl G (fun q μ' => q = (digestS s).1 ∧ RelM μ' (digestS s).2 ∧ FrM μ μ')) (0, 0) 50 [.ref 198, .int (nI k), .int (nI w)] [] (G, ν1) := by
        refine ind_up (fun w hw ih2 ν1 hH1 hz1 => ?_)
        obtain ⟨q1, q2⟩ := rel hH1
        refine J_iload_n (i := 2) qX6_digest_50 rfl rfl ?_
        refine J_pushI qX6_digest_51 ?_
        first | with_reducible refine J_icmp_ge_n qX6_digest_52 (by omega) (by omega) (fun c2 => ?_) (fun c2 => ?_) | refine J_icmp_ge qX6_digest_52 (fun c2 => ?_) (fun c2 => ?_)
        · refine J_inc1 qX6_digest_79 (Nat.le_of_ble_eq_true rfl) (by first | with_reducible exact nI_inc _ | rfl) rfl ?_
          refine J_goto qX6_digest_82 ?_
          exact ih c1 ν1 _ hH1 (by rw [hz1, fdL_succ, show w = 4 by omega])
        · have e3 := q1.2.2.1.1.j c2 c1
          refine J_aload_n (i := 0) qX6_digest_55 rfl rfl ?_
          refine J_aload_n (i := 0) qX6_digest_56 rfl rfl ?_
          refine J_getR qX6_digest_57 fX6_32 (by assumption) (by assumption) ?_
          refine J_pushI qX6_digest_60 ?_
          refine J_pushI qX6_digest_61 ?_
          refine J_iload_n (i := 2) qX6_digest_63 rfl rfl ?_
          first | with_reducible refine J_imul_n qX6_digest_64 ?_ | refine J_imul qX6_digest_64 ?_
          first | with_reducible refine J_iadd_n qX6_digest_65 ?_ | refine J_iadd qX6_digest_65 ?_
          refine J_iload_n (i := 1) qX6_digest_66 rfl rfl ?_
          first | with_reducible refine J_iadd_n qX6_digest_67 ?_ | refine J_iadd qX6_digest_67 ?_
          refine J_ialde qX6_digest_68 (by assumption) rfl (by omega) (by (repeat first | with_reducible exact wI_e _ _ _ _ | (with_reducible apply rd_s; focus omega) | (with_reducible apply rd_c; focus omega) | (with_reducible apply rd_k; focus omega) | with_reducible exact rd_e (by omega)); first | done | assumption | rfl) ?_
          refine J_i2l qX6_digest_69 ?_
          refine J_vv1 qX6_digest_70 kX6_336 (by assumption) (m_adds (d := d + 5) hM0 hz1 _) (Nat.le_of_ble_eq_true rfl) (fun ν2 hr => ?_)
          obtain rfl := hr
          refine J_inc2 qX6_digest_73 (Nat.le_of_ble_eq_true rfl) (by first | with_reducible exact nI_inc _ | rfl) rfl ?_
          refine J_goto qX6_digest_76 ?_
          exact ih2 c2 _ hH1.w (by rw [wL_e, fdN_succ])
      exact H2 0 (Nat.zero_le _) ν hH (by rw [hz, fdN_0])
  have L1 : ∀ k, k ≤ 12 → ∀ ν : Mm, FrH ν0 ν → ν.2 198 34 = fdN (cntV s) (lN 17) k → J mX6_digest (d+6) (0, 0) s0 (Kl G (fun q μ' => q = (digestS s).1 ∧ RelM μ' (digestS s).2 ∧ FrM μ μ')) (0, 0) 14 [.ref 198, .int (nI k), .null] [] (G, ν) := by
    refine ind_up (fun k hk ih ν hH hz => ?_)
    obtain ⟨r1, r2⟩ := rel hH
    refine J_iload_n (i := 1) qX6_digest_14 rfl rfl ?_
    refine J_pushI qX6_digest_15 ?_
    first | with_reducible refine J_icmp_ge_n qX6_digest_17 (by omega) (by omega) (fun c1 => ?_) (fun c1 => ?_) | refine J_icmp_ge qX6_digest_17 (fun c1 => ?_) (fun c1 => ?_)
    · refine J_pushI qX6_digest_36 ?_
      refine J_ist1 qX6_digest_37 (Nat.le_of_ble_eq_true rfl) rfl ?_
      refine L2 0 (Nat.zero_le _) ν .null hH ?_
      rw [hz, show k = 12 by omega, fdL_0]
      rfl
    · refine J_aload_n (i := 0) qX6_digest_20 rfl rfl ?_
      refine J_aload_n (i := 0) qX6_digest_21 rfl rfl ?_
      refine J_iload_n (i := 1) qX6_digest_22 rfl rfl ?_
      refine J_vi1 qX6_digest_23 kX6_326 (by assumption) (m_counted (d := d) hM0 r1 (hP0.h hH) c1) (Nat.le_of_ble_eq_true rfl) (fun v1 μ' hr => ?_)
      obtain ⟨rfl, rfl⟩ := hr
      refine J_i2l qX6_digest_26 ?_
      refine J_vv1 qX6_digest_27 kX6_336 (by assumption) (m_adds (d := d + 5) hM0 hz _) (Nat.le_of_ble_eq_true rfl) (fun ν2 hr => ?_)
      obtain rfl := hr
      refine J_inc1 qX6_digest_30 (Nat.le_of_ble_eq_true rfl) (by first | with_reducible exact nI_inc _ | rfl) rfl ?_
      refine J_goto qX6_digest_33 ?_
      exact ih c1 _ hH.w (by rw [wL_e, fdN_succ])
  refine J_pop qX6_digest_11 rfl ?_
  refine J_pushI qX6_digest_12 ?_
  refine J_ist1 qX6_digest_13 (Nat.le_of_ble_eq_true rfl) rfl ?_
  exact L1 0 (Nat.zero_le _) ν0 FrH.rf (by rw [z17, fdN_0])
end MM
