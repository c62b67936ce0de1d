/-! PLAN: its cells, its tables -/
def IsPl (G : Gm) (p : Nat) : Prop := IsO G p 0 ∧ (RF G p 0 (p + 1) ∧ RF G p 1 (p + 14) ∧ RF G p 2 (p + 27) ∧ RF G p 3 (p + 40) ∧ RF G p 4 (p + 53) ∧ RF G p 5 (p + 54) ∧ RF G p 6 (p + 55)) ∧ (IsA G (p + 1) 15 12 ∧ IsA G (p + 14) 15 12 ∧ IsA G (p + 27) 15 12 ∧ IsA G (p + 40) 15 12 ∧ IsA G (p + 53) 10 12 ∧ IsA G (p + 54) 10 12 ∧ IsA G (p + 55) 10 12) ∧
  ∀ i, i < 12 → (RF G (p + 1) i (p + 2 + i) ∧ IsA G (p + 2 + i) 10 12) ∧ (RF G (p + 14) i (p + 15 + i) ∧ IsA G (p + 15 + i) 10 12) ∧ (RF G (p + 27) i (p + 28 + i) ∧ IsA G (p + 28 + i) 10 12) ∧ (RF G (p + 40) i (p + 41 + i) ∧ IsA G (p + 41 + i) 10 12)
theorem b2i_t0 : ¬ b2i true = 0 := by decide
theorem b2i_f0 : b2i false = 0 := by decide
section PL
variable {G : Gm} {μ : Mm} {p b d : Nat} {cs : List Cs} {rw mk : Bool}
theorem l_sortOut (hL : IsPl G p) (hP : IsP G b) (hb : b + 10 < p ∨ p + 55 < b) (hc : AbC μ b cs) (ho : OkC cs) {i j : Nat} (hij : i ≤ j) (hj : j < cs.length) : Sv mX0_sortOut (d+2) [.ref p, .ref b, .int (nI i), .int (nI j), .int (b2i rw), .int (b2i mk)] G μ (fun μ' => μ'.1 (p + 2 + i) j = nI (sortF cs rw mk i j) ∧ μ'.1 (p + 15 + i) j = nI (stepF cs rw mk i j) ∧ Fr μ μ' (fun c k => (c = p + 2 + i ∨ c = p + 15 + i) ∧ k = j)) := by
  have h12 := hc.2.1
  obtain ⟨hO, ⟨r0, r1, r2, r3, r4, r5, r6⟩, ⟨a1, a2, a3, a4, a5, a6, a7⟩, hg⟩ := hL
  obtain ⟨⟨s1, s2⟩, ⟨t1, t2⟩, -, -⟩ := hg i (by omega)
  have hPO := hP.1
  have hcf : ∀ {ν : Mm}, Fr μ ν (fun c k => (c = p + 2 + i ∨ c = p + 15 + i) ∧ k = j) → AbC ν b cs := fun hF => hc.fr hF (fun c k q z => by unfold Pcs at z; omega)
  refine Sv_of (ls := [.ref p, .ref b, .int (nI i), .int (nI j), .int (b2i rw), .int (b2i mk), .null, .null, .null]) (by decide +kernel) (Nat.le_of_ble_eq_true rfl) rfl ?_
  refine J_aload_n (i := 0) qX0_sortOut_0 rfl rfl ?_
  refine J_getR qX0_sortOut_1 fX0_11 (by assumption) (by assumption) ?_
  refine J_iload_n (i := 2) qX0_sortOut_4 rfl rfl ?_
  refine J_aald qX0_sortOut_5 (by assumption) (by decide) (by decide) rfl (by omega) (by first | assumption | exact (by assumption : ∀ _, _) _ (by omega)) ?_
  refine J_iload_n (i := 3) qX0_sortOut_6 rfl rfl ?_
  refine J_pushI qX0_sortOut_7 ?_
  refine J_iast qX0_sortOut_8 (by assumption) rfl (by omega) ?_
  refine J_aload_n (i := 0) qX0_sortOut_9 rfl rfl ?_
  refine J_getR qX0_sortOut_10 fX0_16 (by assumption) (by assumption) ?_
  refine J_iload_n (i := 2) qX0_sortOut_13 rfl rfl ?_
  refine J_aald qX0_sortOut_14 (by assumption) (by decide) (by decide) rfl (by omega) (by first | assumption | exact (by assumption : ∀ _, _) _ (by omega)) ?_
  refine J_iload_n (i := 3) qX0_sortOut_15 rfl rfl ?_
  refine J_pushI qX0_sortOut_16 ?_
  refine J_iast qX0_sortOut_17 (by assumption) rfl (by omega) ?_
  refine J_aload_n (i := 1) qX0_sortOut_18 rfl rfl ?_
  refine J_iload_n (i := 2) qX0_sortOut_19 rfl rfl ?_
  refine J_iload_n (i := 3) qX0_sortOut_20 rfl rfl ?_
  have F1 : Fr μ (wI (wI μ (p + 2 + i) j (nI 0)) (p + 15 + i) j (nI 0)) (fun c k => (c = p + 2 + i ∨ c = p + 15 + i) ∧ k = j) := Fr.w (Fr.w Fr.rf ⟨Or.inl rfl, rfl⟩) ⟨Or.inr rfl, rfl⟩
  refine J_vl2 qX0_sortOut_21 kX0_62 (by assumption) (p_span hP (hcf F1) (i := i) (j := j) (by omega) (by omega)) (Nat.le_of_ble_eq_true rfl) (fun r μ' hr => ?_)
  obtain ⟨rfl, rfl⟩ := hr
  refine J_lst6 qX0_sortOut_24 (Nat.le_of_ble_eq_true rfl) rfl ?_
  refine J_iload_n (i := 2) qX0_sortOut_26 rfl rfl ?_
  refine J_iload_n (i := 3) qX0_sortOut_27 rfl rfl ?_
  first | with_reducible refine J_icmp_ne_n qX0_sortOut_28 (by omega) (by omega) (fun c0 => ?_) (fun c0 => ?_) | refine J_icmp_ne qX0_sortOut_28 (fun c0 => ?_) (fun c0 => ?_)
  · have tail : ∀ (q0 : Bool) (ν : Mm), (rw && rwB cs i j) = q0 → Fr μ ν (fun c k => (c = p + 2 + i ∨ c = p + 15 + i) ∧ k = j) → ν.1 (p + 2 + i) j = nI (if q0 then 2 else 0) → ν.1 (p + 15 + i) j = nI (if q0 then 3 else 0) → J mX0_sortOut (d+2) (0, 0) s0 (Kv G (fun μ' => μ'.1 (p + 2 + i) j = nI (sortF cs rw mk i j) ∧ μ'.1 (p + 15 + i) j = nI (stepF cs rw mk i j) ∧ Fr μ μ' (fun c k => (c = p + 2 + i ∨ c = p + 15 + i) ∧ k = j))) (0, 0) 113 [.ref p, .ref b, .int (nI i), .int (nI j), .int (b2i rw), .int (b2i mk), .long (spanF cs i j), .null, .null] [] (G, ν) := by
      intro q0 ν hq0 hF e1 e2
      have A8 : aimF cs i (j + 1 - i) ≤ 8 := by unfold aimF popF; omega
      have keep : (mk && mkB cs i j) = false ∨ (q0 = true ∧ ¬ aimF cs i (j + 1 - i) < 2) → ν.1 (p + 2 + i) j = nI (sortF cs rw mk i j) ∧ ν.1 (p + 15 + i) j = nI (stepF cs rw mk i j) ∧ Fr μ ν (fun c k => (c = p + 2 + i ∨ c = p + 15 + i) ∧ k = j) := by
        intro hk
        have hs : sortF cs rw mk i j = if q0 then 2 else 0 := by
          unfold sortF
          rw [if_neg c0, hq0]
          rcases hk with hk | ⟨hk1, hk2⟩
          · rw [hk]
            cases q0 <;> simp
          · rw [hk1]
            simp [hk2]
        refine ⟨by rw [e1, hs], ?_, hF⟩
        unfold stepF
        rw [e2, hs]
        cases q0 <;> rfl
      refine J_aload_n (i := 1) qX0_sortOut_113 rfl rfl ?_
      refine J_iload_n (i := 2) qX0_sortOut_114 rfl rfl ?_
      refine J_iload_n (i := 3) qX0_sortOut_115 rfl rfl ?_
      refine J_vi2 qX0_sortOut_116 kX0_77 (by assumption) (p_aimsIn hP (hcf hF) ho hij hj) (Nat.le_of_ble_eq_true rfl) (fun r μ' hr => ?_)
      obtain ⟨rfl, rfl⟩ := hr
      refine J_ist8 qX0_sortOut_119 (Nat.le_of_ble_eq_true rfl) rfl ?_
      refine J_iload (i := 5) qX0_sortOut_121 rfl ?_
      first | with_reducible refine J_if_eq_n qX0_sortOut_123 (by omega) (fun c1 => ?_) (fun c1 => ?_) | refine J_if_eq qX0_sortOut_123 (fun c1 => ?_) (fun c1 => ?_)
      · refine Jv_ret qX0_sortOut_188 ?_
        refine keep (Or.inl ?_)
        cases mk
        · rfl
        · exact absurd c1 b2i_t0
      · have hmk : mk = true := by
          cases mk
          · exact absurd b2i_f0 c1
          · rfl
        refine J_lload (i := 6) qX0_sortOut_126 rfl ?_
        refine J_pushL qX0_sortOut_128 ?_
        refine J_lif_gt qX0_sortOut_131 qX0_sortOut_132 (fun c2 => ?_) (fun c2 => ?_)
        · refine Jv_ret qX0_sortOut_188 ?_
          exact keep (Or.inl (by rw [hmk]; exact decide_eq_false (fun q => q.1 c2)))
        · refine J_iload (i := 8) qX0_sortOut_135 rfl ?_
          refine J_pushI qX0_sortOut_137 ?_
          first | with_reducible refine J_icmp_gt_n qX0_sortOut_138 (by omega) (by omega) (fun c3 => ?_) (fun c3 => ?_) | refine J_icmp_gt qX0_sortOut_138 (fun c3 => ?_) (fun c3 => ?_)
          · refine Jv_ret qX0_sortOut_188 ?_
            exact keep (Or.inl (by rw [hmk]; exact decide_eq_false (fun q => by omega)))
          · have hB : (mk && mkB cs i j) = true := by rw [hmk]; exact decide_eq_true ⟨c2, c3⟩
            have fin : (q0 = false ∨ aimF cs i (j + 1 - i) < 2) → J mX0_sortOut (d+2) (0, 0) s0 (Kv G (fun μ' => μ'.1 (p + 2 + i) j = nI (sortF cs rw mk i j) ∧ μ'.1 (p + 15 + i) j = nI (stepF cs rw mk i j) ∧ Fr μ μ' (fun c k => (c = p + 2 + i ∨ c = p + 15 + i) ∧ k = j))) (0, 0) 167 [.ref p, .ref b, .int (nI i), .int (nI j), .int (b2i rw), .int (b2i mk), .long (spanF cs i j), .null, .int (nI (aimF cs i (j + 1 - i)))] [] (G, ν) := by
              intro hh
              refine J_aload_n (i := 0) qX0_sortOut_167 rfl rfl ?_
              refine J_getR qX0_sortOut_168 fX0_11 (by assumption) (by assumption) ?_
              refine J_iload_n (i := 2) qX0_sortOut_171 rfl rfl ?_
              refine J_aald qX0_sortOut_172 (by assumption) (by decide) (by decide) rfl (by omega) (by first | assumption | exact (by assumption : ∀ _, _) _ (by omega)) ?_
              refine J_iload_n (i := 3) qX0_sortOut_173 rfl rfl ?_
              refine J_pushI qX0_sortOut_174 ?_
              refine J_iast qX0_sortOut_175 (by assumption) rfl (by omega) ?_
              refine J_aload_n (i := 0) qX0_sortOut_176 rfl rfl ?_
              refine J_getR qX0_sortOut_177 fX0_16 (by assumption) (by assumption) ?_
              refine J_iload_n (i := 2) qX0_sortOut_180 rfl rfl ?_
              refine J_aald qX0_sortOut_181 (by assumption) (by decide) (by decide) rfl (by omega) (by first | assumption | exact (by assumption : ∀ _, _) _ (by omega)) ?_
              refine J_iload_n (i := 3) qX0_sortOut_182 rfl rfl ?_
              refine J_pushI qX0_sortOut_183 ?_
              refine J_iload (i := 8) qX0_sortOut_184 rfl ?_
              first | with_reducible refine J_iadd_n qX0_sortOut_186 ?_ | refine J_iadd qX0_sortOut_186 ?_
              refine J_iast qX0_sortOut_187 (by assumption) rfl (by omega) ?_
              refine Jv_ret qX0_sortOut_188 ?_
              have hs : sortF cs rw mk i j = 3 := by
                unfold sortF
                rw [if_neg c0, hq0, hB]
                rcases hh with hh | hh
                · simp [hh]
                · cases q0 <;> simp [hh]
              refine ⟨?_, ?_, Fr.w (Fr.w hF ⟨Or.inl rfl, rfl⟩) ⟨Or.inr rfl, rfl⟩⟩
              · rw [wI_n (by omega), wI_e, hs]
              · unfold stepF
                rw [wI_e, hs]
                rfl
            refine J_aload_n (i := 0) qX0_sortOut_141 rfl rfl ?_
            refine J_getR qX0_sortOut_142 fX0_11 (by assumption) (by assumption) ?_
            refine J_iload_n (i := 2) qX0_sortOut_145 rfl rfl ?_
            refine J_aald qX0_sortOut_146 (by assumption) (by decide) (by decide) rfl (by omega) (by first | assumption | exact (by assumption : ∀ _, _) _ (by omega)) ?_
            refine J_iload_n (i := 3) qX0_sortOut_147 rfl rfl ?_
            refine J_ialde qX0_sortOut_148 (by assumption) rfl (by omega) (by (repeat first | with_reducible exact wI_e _ _ _ _ | (with_reducible apply rd_s; focus omega) | (with_reducible apply rd_c; focus omega) | (with_reducible apply rd_k; focus omega) | with_reducible exact rd_e (by omega)); first | done | assumption | rfl) ?_
            cases q0 with
            | false =>
              refine J_if_eq_n (a := 0) qX0_sortOut_149 (by omega) (fun c => ?_) (fun c => absurd rfl c)
              exact fin (Or.inl rfl)
            | true =>
              refine J_if_eq_n (a := 2) qX0_sortOut_149 (by omega) (fun c => absurd c (by omega)) (fun c => ?_)
              have e2' : ν.1 (p + 15 + i) j = nI 3 := e2
              refine J_pushI qX0_sortOut_152 ?_
              refine J_iload (i := 8) qX0_sortOut_153 rfl ?_
              first | with_reducible refine J_iadd_n qX0_sortOut_155 ?_ | refine J_iadd qX0_sortOut_155 ?_
              refine J_aload_n (i := 0) qX0_sortOut_156 rfl rfl ?_
              refine J_getR qX0_sortOut_157 fX0_16 (by assumption) (by assumption) ?_
              refine J_iload_n (i := 2) qX0_sortOut_160 rfl rfl ?_
              refine J_aald qX0_sortOut_161 (by assumption) (by decide) (by decide) rfl (by omega) (by first | assumption | exact (by assumption : ∀ _, _) _ (by omega)) ?_
              refine J_iload_n (i := 3) qX0_sortOut_162 rfl rfl ?_
              refine J_ialde qX0_sortOut_163 (by assumption) rfl (by omega) (by (repeat first | with_reducible exact wI_e _ _ _ _ | (with_reducible apply rd_s; focus omega) | (with_reducible apply rd_c; focus omega) | (with_reducible apply rd_k; focus omega) | with_reducible exact rd_e (by omega)); first | done | assumption | rfl) ?_
              first | with_reducible refine J_icmp_ge_n qX0_sortOut_164 (by omega) (by omega) (fun c4 => ?_) (fun c4 => ?_) | refine J_icmp_ge qX0_sortOut_164 (fun c4 => ?_) (fun c4 => ?_)
              · refine Jv_ret qX0_sortOut_188 ?_
                exact keep (Or.inr ⟨rfl, by omega⟩)
              · exact fin (Or.inr (by omega))
    have no : (rw && rwB cs i j) = false → J mX0_sortOut (d+2) (0, 0) s0 (Kv G (fun μ' => μ'.1 (p + 2 + i) j = nI (sortF cs rw mk i j) ∧ μ'.1 (p + 15 + i) j = nI (stepF cs rw mk i j) ∧ Fr μ μ' (fun c k => (c = p + 2 + i ∨ c = p + 15 + i) ∧ k = j))) (0, 0) 113 [.ref p, .ref b, .int (nI i), .int (nI j), .int (b2i rw), .int (b2i mk), .long (spanF cs i j), .null, .null] [] (G, wI (wI μ (p + 2 + i) j (nI 0)) (p + 15 + i) j (nI 0)) := fun h => tail false _ h F1 (by rw [wI_n (by omega), wI_e]; rfl) (by rw [wI_e]; rfl)
    refine J_iload (i := 4) qX0_sortOut_65 rfl ?_
    first | with_reducible refine J_if_eq_n qX0_sortOut_67 (by omega) (fun c1 => ?_) (fun c1 => ?_) | refine J_if_eq qX0_sortOut_67 (fun c1 => ?_) (fun c1 => ?_)
    · refine no ?_
      cases rw
      · rfl
      · exact absurd c1 b2i_t0
    · have hrw : rw = true := by
        cases rw
        · exact absurd b2i_f0 c1
        · rfl
      refine J_lload (i := 6) qX0_sortOut_70 rfl ?_
      refine J_pushL qX0_sortOut_72 ?_
      refine J_lif_gt qX0_sortOut_75 qX0_sortOut_76 (fun c2 => ?_) (fun c2 => ?_)
      · exact no (by rw [hrw]; exact decide_eq_false (fun q => q.1 c2))
      · refine J_lload (i := 6) qX0_sortOut_79 rfl ?_
        refine J_pushL qX0_sortOut_81 ?_
        refine J_aload_n (i := 1) qX0_sortOut_84 rfl rfl ?_
        refine J_iload_n (i := 2) qX0_sortOut_85 rfl rfl ?_
        refine J_iload_n (i := 3) qX0_sortOut_86 rfl rfl ?_
        refine J_vl2 qX0_sortOut_87 kX0_74 (by assumption) (p_numbersIn hP (hcf F1) hij hj) (Nat.le_of_ble_eq_true rfl) (fun r μ' hr => ?_)
        obtain ⟨rfl, rfl⟩ := hr
        refine J_lmul qX0_sortOut_90 ?_
        refine J_lif_gt qX0_sortOut_91 qX0_sortOut_92 (fun c3 => ?_) (fun c3 => ?_)
        · exact no (by rw [hrw]; exact decide_eq_false (fun q => q.2 c3))
        · refine J_aload_n (i := 0) qX0_sortOut_95 rfl rfl ?_
          refine J_getR qX0_sortOut_96 fX0_11 (by assumption) (by assumption) ?_
          refine J_iload_n (i := 2) qX0_sortOut_99 rfl rfl ?_
          refine J_aald qX0_sortOut_100 (by assumption) (by decide) (by decide) rfl (by omega) (by first | assumption | exact (by assumption : ∀ _, _) _ (by omega)) ?_
          refine J_iload_n (i := 3) qX0_sortOut_101 rfl rfl ?_
          refine J_pushI qX0_sortOut_102 ?_
          refine J_iast qX0_sortOut_103 (by assumption) rfl (by omega) ?_
          refine J_aload_n (i := 0) qX0_sortOut_104 rfl rfl ?_
          refine J_getR qX0_sortOut_105 fX0_16 (by assumption) (by assumption) ?_
          refine J_iload_n (i := 2) qX0_sortOut_108 rfl rfl ?_
          refine J_aald qX0_sortOut_109 (by assumption) (by decide) (by decide) rfl (by omega) (by first | assumption | exact (by assumption : ∀ _, _) _ (by omega)) ?_
          refine J_iload_n (i := 3) qX0_sortOut_110 rfl rfl ?_
          refine J_pushI qX0_sortOut_111 ?_
          refine J_iast qX0_sortOut_112 (by assumption) rfl (by omega) ?_
          refine tail true _ (by rw [hrw]; exact decide_eq_true ⟨c2, c3⟩) (Fr.w (Fr.w F1 ⟨Or.inl rfl, rfl⟩) ⟨Or.inr rfl, rfl⟩) ?_ ?_
          · rw [wI_n (by omega), wI_e]; rfl
          · rw [wI_e]; rfl
  · have hs1 : sortF cs rw mk i j = (if (cg cs i).1 = (cg cs i).2.1 then 4 else 1) := if_pos c0
    have ht1 : stepF cs rw mk i j = loneF cs i := by rw [← c0]; exact step_own cs rw mk i
    have hsp : spanF cs i j = spanF cs i i := by rw [← c0]
    rw [hsp]
    refine J_aload_n (i := 0) qX0_sortOut_31 rfl rfl ?_
    refine J_getR qX0_sortOut_32 fX0_11 (by assumption) (by assumption) ?_
    refine J_iload_n (i := 2) qX0_sortOut_35 rfl rfl ?_
    refine J_aald qX0_sortOut_36 (by assumption) (by decide) (by decide) rfl (by omega) (by first | assumption | exact (by assumption : ∀ _, _) _ (by omega)) ?_
    refine J_iload_n (i := 3) qX0_sortOut_37 rfl rfl ?_
    refine J_lload (i := 6) qX0_sortOut_38 rfl ?_
    refine J_pushL qX0_sortOut_40 ?_
    have one : ∀ x : Int32, x = nI (sortF cs rw mk i j) → J mX0_sortOut (d+2) (0, 0) s0 (Kv G (fun μ' => μ'.1 (p + 2 + i) j = nI (sortF cs rw mk i j) ∧ μ'.1 (p + 15 + i) j = nI (stepF cs rw mk i j) ∧ Fr μ μ' (fun c k => (c = p + 2 + i ∨ c = p + 15 + i) ∧ k = j))) (0, 0) 50 [.ref p, .ref b, .int (nI i), .int (nI j), .int (b2i rw), .int (b2i mk), .long (spanF cs i i), .null, .null] [.int x, .int (nI j), .ref (p + 2 + i)] (G, wI (wI μ (p + 2 + i) j (nI 0)) (p + 15 + i) j (nI 0)) := by
      intro x hx
      refine J_iast qX0_sortOut_50 (by assumption) rfl (by omega) ?_
      refine J_aload_n (i := 0) qX0_sortOut_51 rfl rfl ?_
      refine J_getR qX0_sortOut_52 fX0_16 (by assumption) (by assumption) ?_
      refine J_iload_n (i := 2) qX0_sortOut_55 rfl rfl ?_
      refine J_aald qX0_sortOut_56 (by assumption) (by decide) (by decide) rfl (by omega) (by first | assumption | exact (by assumption : ∀ _, _) _ (by omega)) ?_
      refine J_iload_n (i := 3) qX0_sortOut_57 rfl rfl ?_
      refine J_aload_n (i := 1) qX0_sortOut_58 rfl rfl ?_
      refine J_iload_n (i := 2) qX0_sortOut_59 rfl rfl ?_
      refine J_vi1 qX0_sortOut_60 kX0_66 (by assumption) (p_loneSteps hP (hcf (Fr.w F1 ⟨Or.inl rfl, rfl⟩)) (i := i) (by omega)) (Nat.le_of_ble_eq_true rfl) (fun r μ' hr => ?_)
      obtain ⟨rfl, rfl⟩ := hr
      refine J_iast qX0_sortOut_63 (by assumption) rfl (by omega) ?_
      refine Jv_ret qX0_sortOut_64 ?_
      refine ⟨?_, ?_, Fr.w (Fr.w F1 ⟨Or.inl rfl, rfl⟩) ⟨Or.inr rfl, rfl⟩⟩
      · rw [wI_n (by omega), wI_e, hx]
      · rw [wI_e, ht1]
    refine J_lif_ne qX0_sortOut_41 qX0_sortOut_42 (fun c1 => ?_) (fun c1 => ?_)
    · refine J_pushI qX0_sortOut_49 ?_
      refine one _ ?_
      rw [hs1, if_neg (fun q => c1 ((span_1 cs i).mpr q))]
    · refine J_pushI qX0_sortOut_45 ?_
      refine J_goto qX0_sortOut_46 ?_
      refine one _ ?_
      rw [hs1, if_pos ((span_1 cs i).mp c1)]
theorem l_choose (hL : IsPl G p) (ho : OkC cs) (h12 : cs.length ≤ 12) {i j : Nat} (hij : i ≤ j) (hj : j < cs.length) (hs : μ.1 (p + 2 + i) j = nI (sortF cs rw mk i j)) (ht : μ.1 (p + 15 + i) j = nI (stepF cs rw mk i j)) (h1 : ∀ m, i ≤ m → m < j → μ.1 (p + 28 + i) m = nI (pcF cs rw mk i m).1) (h2 : ∀ m, i ≤ m → m < j → μ.1 (p + 28 + (m + 1)) j = nI (pcF cs rw mk (m + 1) j).1) : Sv mX0_choose (d) [.ref p, .int (nI i), .int (nI j), .int (nI (wgF cs i (j + 1 - i)))] G μ (fun μ' => μ'.1 (p + 28 + i) j = nI (pcF cs rw mk i j).1 ∧ μ'.1 (p + 41 + i) j = cutV (pcF cs rw mk i j).2 ∧ Fr μ μ' (fun c k => (c = p + 28 + i ∨ c = p + 41 + i) ∧ k = j)) := by
  obtain ⟨hO, ⟨r0, r1, r2, r3, r4, r5, r6⟩, ⟨a1, a2, a3, a4, a5, a6, a7⟩, hg⟩ := hL
  obtain ⟨⟨s1, s2⟩, ⟨t1, t2⟩, ⟨u1, u2⟩, ⟨v1, v2⟩⟩ := hg i (by omega)
  have hw := wgF_le ho i (j + 1 - i) (by omega)
  have hini := ini_le ho h12 rw mk hij hj
  have S8 : sortF cs rw mk i j ≤ 4 := by
    unfold sortF
    split
    · split <;> omega
    · split
      · split <;> omega
      · split <;> omega
  have T9 : stepF cs rw mk i j ≤ 9 := by
    unfold stepF stF
    have : aimF cs i (j + 1 - i) ≤ 8 := by unfold aimF popF; omega
    split <;> omega
  refine Sv_of (ls := [.ref p, .int (nI i), .int (nI j), .int (nI (wgF cs i (j + 1 - i))), .null, .null, .null, .null]) (by decide +kernel) (Nat.le_of_ble_eq_true rfl) rfl ?_
  have H : J mX0_choose (d) (0, 0) s0 (Kv G (fun μ' => μ'.1 (p + 28 + i) j = nI (pcF cs rw mk i j).1 ∧ μ'.1 (p + 41 + i) j = cutV (pcF cs rw mk i j).2 ∧ Fr μ μ' (fun c k => (c = p + 28 + i ∨ c = p + 41 + i) ∧ k = j))) (0, 0) 26 [.ref p, .int (nI i), .int (nI j), .int (nI (wgF cs i (j + 1 - i))), .null, .null, .null, .null] [.int (nI (iniF cs rw mk i j))] (G, μ) := by
    refine J_ist4 qX0_choose_26 (Nat.le_of_ble_eq_true rfl) rfl ?_
    refine J_pushI qX0_choose_28 ?_
    refine J_ist5 qX0_choose_29 (Nat.le_of_ble_eq_true rfl) rfl ?_
    refine J_iload_n (i := 1) qX0_choose_31 rfl rfl ?_
    refine J_ist6 qX0_choose_32 (Nat.le_of_ble_eq_true rfl) rfl ?_
    have H2 : ∀ m, m ≤ j - i → ∀ z : Value, J mX0_choose (d) (0, 0) s0 (Kv G (fun μ' => μ'.1 (p + 28 + i) j = nI (pcF cs rw mk i j).1 ∧ μ'.1 (p + 41 + i) j = cutV (pcF cs rw mk i j).2 ∧ Fr μ μ' (fun c k => (c = p + 28 + i ∨ c = p + 41 + i) ∧ k = j))) (0, 0) 34 [.ref p, .int (nI i), .int (nI j), .int (nI (wgF cs i (j + 1 - i))), .int (nI (chF (wgF cs i (j + 1 - i)) (iniF cs rw mk i j) (fun m => (pcF cs rw mk i m).1) (fun m => (pcF cs rw mk (m + 1) j).1) i m).1), .int (cutV (chF (wgF cs i (j + 1 - i)) (iniF cs rw mk i j) (fun m => (pcF cs rw mk i m).1) (fun m => (pcF cs rw mk (m + 1) j).1) i m).2), .int (nI (i + m)), z] [] (G, μ) := by
      refine ind_up (fun m hm ih z => ?_)
      have hle := chF_le (wgF cs i (j + 1 - i)) (iniF cs rw mk i j) (fun m => (pcF cs rw mk i m).1) (fun m => (pcF cs rw mk (m + 1) j).1) i m
      refine J_iload (i := 6) qX0_choose_34 rfl ?_
      refine J_iload_n (i := 2) qX0_choose_36 rfl rfl ?_
      first | with_reducible refine J_icmp_ge_n qX0_choose_37 (by omega) (by omega) (fun c1 => ?_) (fun c1 => ?_) | refine J_icmp_ge qX0_choose_37 (fun c1 => ?_) (fun c1 => ?_)
      · refine J_aload_n (i := 0) qX0_choose_86 rfl rfl ?_
        refine J_getR qX0_choose_87 fX0_19 (by assumption) (by assumption) ?_
        refine J_iload_n (i := 1) qX0_choose_90 rfl rfl ?_
        refine J_aald qX0_choose_91 (by assumption) (by decide) (by decide) rfl (by omega) (by first | assumption | exact (by assumption : ∀ _, _) _ (by omega)) ?_
        refine J_iload_n (i := 2) qX0_choose_92 rfl rfl ?_
        refine J_iload (i := 4) qX0_choose_93 rfl ?_
        refine J_iast qX0_choose_95 (by assumption) rfl (by omega) ?_
        refine J_aload_n (i := 0) qX0_choose_96 rfl rfl ?_
        refine J_getR qX0_choose_97 fX0_22 (by assumption) (by assumption) ?_
        refine J_iload_n (i := 1) qX0_choose_100 rfl rfl ?_
        refine J_aald qX0_choose_101 (by assumption) (by decide) (by decide) rfl (by omega) (by first | assumption | exact (by assumption : ∀ _, _) _ (by omega)) ?_
        refine J_iload_n (i := 2) qX0_choose_102 rfl rfl ?_
        refine J_iload (i := 5) qX0_choose_103 rfl ?_
        refine J_iast qX0_choose_105 (by assumption) rfl (by omega) ?_
        refine Jv_ret qX0_choose_106 ?_
        have hpc := pcF_eq cs rw mk (i := i) (j := j) (by omega)
        rw [show j - i = m by omega] at hpc
        rw [hpc]
        exact ⟨by rw [wI_n (by omega), wI_e], by rw [wI_e], Fr.w (Fr.w Fr.rf ⟨Or.inl rfl, rfl⟩) ⟨Or.inr rfl, rfl⟩⟩
      · have e1 := h1 (i + m) (by omega) c1
        have e2 := h2 (i + m) (by omega) c1
        have b1 := pc_bd ho h12 rw mk (i := i) (j := i + m) (by omega) (by omega)
        have b2 := pc_bd ho h12 rw mk (i := i + m + 1) (j := j) (by omega) (by omega)
        obtain ⟨-, -, ⟨x1, x2⟩, -⟩ := hg (i + m + 1) (by omega)
        have ih := ih (by omega)
        unfold chF at ih
        refine J_iload_n (i := 3) qX0_choose_40 rfl rfl ?_
        refine J_aload_n (i := 0) qX0_choose_41 rfl rfl ?_
        refine J_getR qX0_choose_42 fX0_19 (by assumption) (by assumption) ?_
        refine J_iload_n (i := 1) qX0_choose_45 rfl rfl ?_
        refine J_aald qX0_choose_46 (by assumption) (by decide) (by decide) rfl (by omega) (by first | assumption | exact (by assumption : ∀ _, _) _ (by omega)) ?_
        refine J_iload (i := 6) qX0_choose_47 rfl ?_
        refine J_ialde qX0_choose_49 (by assumption) rfl (by omega) (by (repeat first | with_reducible exact wI_e _ _ _ _ | (with_reducible apply rd_s; focus omega) | (with_reducible apply rd_c; focus omega) | (with_reducible apply rd_k; focus omega) | with_reducible exact rd_e (by omega)); first | done | assumption | rfl) ?_
        first | with_reducible refine J_iadd_n qX0_choose_50 ?_ | refine J_iadd qX0_choose_50 ?_
        refine J_aload_n (i := 0) qX0_choose_51 rfl rfl ?_
        refine J_getR qX0_choose_52 fX0_19 (by assumption) (by assumption) ?_
        refine J_iload (i := 6) qX0_choose_55 rfl ?_
        refine J_pushI qX0_choose_57 ?_
        first | with_reducible refine J_iadd_n qX0_choose_58 ?_ | refine J_iadd qX0_choose_58 ?_
        refine J_aald qX0_choose_59 (by assumption) (by decide) (by decide) rfl (by omega) (by first | assumption | exact (by assumption : ∀ _, _) _ (by omega)) ?_
        refine J_iload_n (i := 2) qX0_choose_60 rfl rfl ?_
        refine J_ialde qX0_choose_61 (by assumption) rfl (by omega) (by (repeat first | with_reducible exact wI_e _ _ _ _ | (with_reducible apply rd_s; focus omega) | (with_reducible apply rd_c; focus omega) | (with_reducible apply rd_k; focus omega) | with_reducible exact rd_e (by omega)); first | done | assumption | rfl) ?_
        first | with_reducible refine J_iadd_n qX0_choose_62 ?_ | refine J_iadd qX0_choose_62 ?_
        refine J_ist7 qX0_choose_63 (Nat.le_of_ble_eq_true rfl) rfl ?_
        refine J_iload (i := 7) qX0_choose_65 rfl ?_
        refine J_iload (i := 4) qX0_choose_67 rfl ?_
        first | with_reducible refine J_icmp_ge_n qX0_choose_69 (by omega) (by omega) (fun c2 => ?_) (fun c2 => ?_) | refine J_icmp_ge qX0_choose_69 (fun c2 => ?_) (fun c2 => ?_)
        · rw [if_neg (by omega)] at ih
          refine J_inc6 qX0_choose_80 (Nat.le_of_ble_eq_true rfl) (by first | exact nI_inc _ | rfl) rfl ?_
          refine J_goto qX0_choose_83 ?_
          exact ih _
        · rw [if_pos (by omega)] at ih
          refine J_iload (i := 7) qX0_choose_72 rfl ?_
          refine J_ist4 qX0_choose_74 (Nat.le_of_ble_eq_true rfl) rfl ?_
          refine J_iload (i := 6) qX0_choose_76 rfl ?_
          refine J_ist5 qX0_choose_78 (Nat.le_of_ble_eq_true rfl) rfl ?_
          refine J_inc6 qX0_choose_80 (Nat.le_of_ble_eq_true rfl) (by first | exact nI_inc _ | rfl) rfl ?_
          refine J_goto qX0_choose_83 ?_
          exact ih _
    exact H2 0 (Nat.zero_le _) _
  refine J_aload_n (i := 0) qX0_choose_0 rfl rfl ?_
  refine J_getR qX0_choose_1 fX0_11 (by assumption) (by assumption) ?_
  refine J_iload_n (i := 1) qX0_choose_4 rfl rfl ?_
  refine J_aald qX0_choose_5 (by assumption) (by decide) (by decide) rfl (by omega) (by first | assumption | exact (by assumption : ∀ _, _) _ (by omega)) ?_
  refine J_iload_n (i := 2) qX0_choose_6 rfl rfl ?_
  refine J_ialde qX0_choose_7 (by assumption) rfl (by omega) (by (repeat first | with_reducible exact wI_e _ _ _ _ | (with_reducible apply rd_s; focus omega) | (with_reducible apply rd_c; focus omega) | (with_reducible apply rd_k; focus omega) | with_reducible exact rd_e (by omega)); first | done | assumption | rfl) ?_
  first | with_reducible refine J_if_ne_n qX0_choose_8 (by omega) (fun c1 => ?_) (fun c1 => ?_) | refine J_if_ne qX0_choose_8 (fun c1 => ?_) (fun c1 => ?_)
  · refine J_aload_n (i := 0) qX0_choose_16 rfl rfl ?_
    refine J_getR qX0_choose_17 fX0_16 (by assumption) (by assumption) ?_
    refine J_iload_n (i := 1) qX0_choose_20 rfl rfl ?_
    refine J_aald qX0_choose_21 (by assumption) (by decide) (by decide) rfl (by omega) (by first | assumption | exact (by assumption : ∀ _, _) _ (by omega)) ?_
    refine J_iload_n (i := 2) qX0_choose_22 rfl rfl ?_
    refine J_ialde qX0_choose_23 (by assumption) rfl (by omega) (by (repeat first | with_reducible exact wI_e _ _ _ _ | (with_reducible apply rd_s; focus omega) | (with_reducible apply rd_c; focus omega) | (with_reducible apply rd_k; focus omega) | with_reducible exact rd_e (by omega)); first | done | assumption | rfl) ?_
    refine J_iload_n (i := 3) qX0_choose_24 rfl rfl ?_
    first | with_reducible refine J_imul_n qX0_choose_25 ?_ | refine J_imul qX0_choose_25 ?_
    have e : iniF cs rw mk i j = stepF cs rw mk i j * wgF cs i (j + 1 - i) := if_neg c1
    rw [e] at H
    exact H
  · refine J_pushI qX0_choose_11 ?_
    refine J_goto qX0_choose_13 ?_
    have e : iniF cs rw mk i j = 2147483647 := if_pos c1
    rw [e] at H
    exact H
end PL
