/-! THE MODEL: the plan's parts, cut from the left -/
abbrev Pt : Type := Nat × Nat × Nat
def exF (cs : List Cs) (q : Pt) : List Pt := LF cs true true 12 q.1 q.2.1 q.2.2
def exA (cs : List Cs) (l : List Pt) : List Pt := l.flatMap (exF cs)
def InvP (cs : List Cs) (at_ : Nat) (P : List Pt) : Prop := at_ ≤ P.length ∧ prtF cs true true = P.take at_ ++ exA cs (P.drop at_) ∧ ∀ q ∈ P, q.1 ≤ q.2.1 ∧ q.2.1 < cs.length
theorem exA_cons (cs : List Cs) (q : Pt) (l : List Pt) : exA cs (q :: l) = exF cs q ++ exA cs l := rfl
theorem exA_len {cs : List Cs} (h12 : cs.length ≤ 12) : ∀ l : List Pt, (∀ q ∈ l, q.1 ≤ q.2.1 ∧ q.2.1 < cs.length) → l.length ≤ (exA cs l).length
  | [], _ => Nat.zero_le _
  | q :: l, h => by
    have h1 := exA_len h12 l (fun x hx => h x (List.mem_cons_of_mem _ hx))
    have h2 := h q List.mem_cons_self
    have h3 := (LF_len cs true true 12 q.1 q.2.1 q.2.2 h2.1 (by omega) (by omega)).1
    rw [exA_cons, List.length_append, List.length_cons]
    have : (exF cs q).length = (LF cs true true 12 q.1 q.2.1 q.2.2).length := rfl
    omega
theorem pg_get {P : List Pt} {k : Nat} (h : k < P.length) : pg P k = P[k] := by
  unfold pg
  rw [List.getD_eq_getElem?_getD, List.getElem?_eq_getElem h]
  rfl
theorem pg_mem {P : List Pt} {k : Nat} (h : k < P.length) : pg P k ∈ P := by
  rw [pg_get h]
  exact List.getElem_mem h
theorem drop_pg {P : List Pt} {k : Nat} (h : k < P.length) : P.drop k = pg P k :: P.drop (k + 1) := by
  rw [pg_get h]
  exact List.drop_eq_getElem_cons h
theorem take_pg {P : List Pt} {k : Nat} (h : k < P.length) : P.take (k + 1) = P.take k ++ [pg P k] := by
  rw [pg_get h]
  exact List.take_succ_eq_append_getElem h
theorem InvP.len {cs : List Cs} {k : Nat} {P : List Pt} (h : InvP cs k P) (h12 : cs.length ≤ 12) : P.length ≤ (prtF cs true true).length := by
  have h1 := exA_len h12 (P.drop k) (fun q hq => h.2.2 q (List.mem_of_mem_drop hq))
  have h2 := h.1
  rw [h.2.1, List.length_append, List.length_take]
  rw [List.length_drop] at h1
  omega
theorem InvP.no {cs : List Cs} {k : Nat} {P : List Pt} (h : InvP cs k P) (hk : k < P.length) (hc : (pcF cs true true (pg P k).1 (pg P k).2.1).2 = none) : InvP cs (k + 1) P := by
  refine ⟨hk, ?_, h.2.2⟩
  have e : exF cs (pg P k) = [pg P k] := LF_none (f := 11) hc
  rw [h.2.1, drop_pg hk, exA_cons, e, take_pg hk, List.append_assoc]
def splP (P : List Pt) (k c : Nat) : List Pt := P.take k ++ ((pg P k).1, c, (pg P k).2.2 + 1) :: (c + 1, (pg P k).2.1, (pg P k).2.2 + 1) :: P.drop (k + 1)
theorem spl_len {P : List Pt} {k c : Nat} (hk : k < P.length) : (splP P k c).length = P.length + 1 := by
  unfold splP
  rw [List.length_append, List.length_cons, List.length_cons, List.length_take, List.length_drop]
  omega
theorem spl_pg {P : List Pt} {k c : Nat} (hk : k < P.length) (e : Nat) : pg (splP P k c) e = if e < k then pg P e else if e = k then ((pg P k).1, c, (pg P k).2.2 + 1) else if e = k + 1 then (c + 1, (pg P k).2.1, (pg P k).2.2 + 1) else pg P (e - 1) := by
  have tl : (P.take k).length = k := by rw [List.length_take]; omega
  unfold splP
  by_cases c1 : e < k
  · rw [if_pos c1, pg_l (by omega)]
    unfold pg
    rw [List.getD_eq_getElem?_getD, List.getD_eq_getElem?_getD, List.getElem?_take_of_lt c1]
  · rw [if_neg c1, pg_r (by omega), tl]
    by_cases c2 : e = k
    · rw [if_pos c2, c2, Nat.sub_self]; rfl
    · rw [if_neg c2]
      by_cases c3 : e = k + 1
      · rw [if_pos c3, c3, show k + 1 - k = 1 by omega]; rfl
      · rw [if_neg c3]
        obtain ⟨r, hr⟩ : ∃ r, e = k + 2 + r := ⟨e - k - 2, by omega⟩
        subst hr
        rw [show k + 2 + r - k = r + 2 by omega, show k + 2 + r - 1 = k + 1 + r by omega]
        unfold pg
        rw [List.getD_eq_getElem?_getD, List.getD_eq_getElem?_getD, List.getElem?_cons_succ, List.getElem?_cons_succ, List.getElem?_drop]
        rw [List.getD_eq_getElem?_getD]
theorem InvP.so {cs : List Cs} {k c : Nat} {P : List Pt} (h : InvP cs k P) (h12 : cs.length ≤ 12) (hk : k < P.length) (hc : (pcF cs true true (pg P k).1 (pg P k).2.1).2 = some c) : InvP cs k (splP P k c) := by
  have hq := h.2.2 _ (pg_mem hk)
  have hc2 := cut_at (by omega) hc
  have tl : (P.take k).length = k := by rw [List.length_take]; omega
  refine ⟨by rw [spl_len hk]; omega, ?_, fun q hm => ?_⟩
  · have e1 : (splP P k c).take k = P.take k := by
      unfold splP
      rw [List.take_append_of_le_length (by omega), List.take_take, Nat.min_self]
    have e2 : (splP P k c).drop k = ((pg P k).1, c, (pg P k).2.2 + 1) :: (c + 1, (pg P k).2.1, (pg P k).2.2 + 1) :: P.drop (k + 1) := by
      unfold splP
      have := List.drop_left (l₁ := P.take k) (l₂ := ((pg P k).1, c, (pg P k).2.2 + 1) :: (c + 1, (pg P k).2.1, (pg P k).2.2 + 1) :: P.drop (k + 1))
      rw [tl] at this
      exact this
    have e3 : exF cs (pg P k) = exF cs ((pg P k).1, c, (pg P k).2.2 + 1) ++ exF cs (c + 1, (pg P k).2.1, (pg P k).2.2 + 1) := by
      have q1 : exF cs (pg P k) = LF cs true true 11 (pg P k).1 c ((pg P k).2.2 + 1) ++ LF cs true true 11 (c + 1) (pg P k).2.1 ((pg P k).2.2 + 1) := LF_some (f := 11) hc
      rw [q1, LF_ir cs true true 11 12 (pg P k).1 c _ (by omega) (by omega) (by omega), LF_ir cs true true 11 12 (c + 1) (pg P k).2.1 _ (by omega) (by omega) (by omega)]
      rfl
    rw [h.2.1, e1, e2, drop_pg hk, exA_cons, exA_cons, exA_cons, e3, List.append_assoc]
  · unfold splP at hm
    rcases List.mem_append.mp hm with z | z
    · exact h.2.2 q (List.mem_of_mem_take z)
    · rcases List.mem_cons.mp z with z | z
      · rw [z]; exact ⟨hc2.1, by show c < _; omega⟩
      · rcases List.mem_cons.mp z with z | z
        · rw [z]; exact ⟨by show c + 1 ≤ (pg P k).2.1; omega, hq.2⟩
        · exact h.2.2 q (List.mem_of_mem_drop z)
theorem InvP.ini {cs : List Cs} (h : ¬ cs.length = 0) : InvP cs 0 [(0, cs.length - 1, 0)] := by
  refine ⟨Nat.zero_le _, ?_, fun q hq => ?_⟩
  · show _ = LF cs true true 12 0 (cs.length - 1) 0 ++ []
    rw [List.append_nil]
    exact if_neg h
  · rw [List.mem_singleton.mp hq]
    exact ⟨Nat.zero_le _, by show cs.length - 1 < _; omega⟩
theorem InvP.fin {cs : List Cs} {P : List Pt} (h : InvP cs P.length P) : prtF cs true true = P := by
  have e := h.2.1
  rw [List.take_length, List.drop_length] at e
  rw [e]
  exact List.append_nil P
def AtE (ν : Mm) (e : Nat) (q : Pt) : Prop := ν.1 213 e = nI q.1 ∧ ν.1 214 e = nI q.2.1 ∧ ν.1 215 e = nI q.2.2
def TbA (ν : Mm) (cs : List Cs) : Prop := ∀ a c, a ≤ c → c < cs.length → TbM ν cs true true a c
section MM
variable {G : Gm} {μ : Mm} {d : Nat} {s : St} {cs : List Cs}
theorem m_cutOf (hM : LayM G) {k i j : Nat} (hk : k < 12) (hi : i < 12) (hj : j < 12) (h1 : μ.1 213 k = nI i) (h2 : μ.1 214 k = nI j) : Si mX6_cutOf (d) [.ref 198, .int (nI k)] G μ (fun r μ' => μ = μ' ∧ r = μ.1 212 (12 * i + j)) := by
  obtain ⟨mO, ⟨-, -, -, -, -, -, -, -, -, -, -, -, f24, f25, f27, f28, -⟩, ⟨-, -, -, -, -, -, -, -, -, -, -, -, b211, b212, b213, b214, -⟩⟩ := hM
  refine Si_of (ls := [.ref 198, .int (nI k)]) (by decide +kernel) (Nat.le_of_ble_eq_true rfl) rfl ?_
  refine J_aload_n (i := 0) qX6_cutOf_0 rfl rfl ?_
  refine J_getR qX6_cutOf_1 fX6_50 (by assumption) (by assumption) ?_
  refine J_pushI qX6_cutOf_4 ?_
  refine J_aload_n (i := 0) qX6_cutOf_6 rfl rfl ?_
  refine J_getR qX6_cutOf_7 fX6_53 (by assumption) (by assumption) ?_
  refine J_iload_n (i := 1) qX6_cutOf_10 rfl rfl ?_
  refine J_ialde qX6_cutOf_11 (by assumption) rfl (by omega) (by (repeat first | with_reducible exact wI_e _ _ _ _ | (with_reducible apply rd_s; focus omega) | (with_reducible apply rd_c; focus omega) | (with_reducible apply rd_k; focus omega) | with_reducible exact rd_e (by omega)); first | done | assumption | rfl) ?_
  first | with_reducible refine J_imul_n qX6_cutOf_12 ?_ | refine J_imul qX6_cutOf_12 ?_
  refine J_aload_n (i := 0) qX6_cutOf_13 rfl rfl ?_
  refine J_getR qX6_cutOf_14 fX6_56 (by assumption) (by assumption) ?_
  refine J_iload_n (i := 1) qX6_cutOf_17 rfl rfl ?_
  refine J_ialde qX6_cutOf_18 (by assumption) rfl (by omega) (by (repeat first | with_reducible exact wI_e _ _ _ _ | (with_reducible apply rd_s; focus omega) | (with_reducible apply rd_c; focus omega) | (with_reducible apply rd_k; focus omega) | with_reducible exact rd_e (by omega)); first | done | assumption | rfl) ?_
  first | with_reducible refine J_iadd_n qX6_cutOf_19 ?_ | refine J_iadd qX6_cutOf_19 ?_
  refine J_ialde qX6_cutOf_20 (by assumption) rfl (by omega) (by (repeat first | with_reducible exact wI_e _ _ _ _ | (with_reducible apply rd_s; focus omega) | (with_reducible apply rd_c; focus omega) | (with_reducible apply rd_k; focus omega) | with_reducible exact rd_e (by omega)); first | done | assumption | rfl) ?_
  refine Ji_ret qX6_cutOf_21 ?_
  exact ⟨rfl, rfl⟩
theorem m_layPlan (hM : LayM G) (hc : MC μ 206 0 cs) (ho : OkC cs) : Si mX6_layPlan (d+5) [.ref 198] G μ (fun r μ' => r = nI (priceF cs true true) ∧ AtM μ' (prtF cs true true) ∧ μ'.1 198 26 = nI (prtF cs true true).length ∧ TbA μ' cs ∧ Fr μ μ' PlM) := by
  have hM0 := hM
  obtain ⟨mO, ⟨-, -, -, -, -, -, -, f17, -, -, -, -, f24, f25, f27, f28, f29, -⟩, ⟨-, -, -, -, -, -, -, b206, -, -, -, -, b211, b212, b213, b214, b215, -⟩⟩ := hM
  have h12 := hc.2.1
  have pl12 := prt_len (cs := cs) true true h12
  have H : ∀ N at_ P ν v3 v4, 2 * (prtF cs true true).length - at_ - P.length = N → InvP cs at_ P → AtM ν P → ν.1 198 26 = nI P.length → Fr μ ν PlM → TbA ν cs → J mX6_layPlan (d+5) (0, 0) s0 (Ki G (fun r μ' => r = nI (priceF cs true true) ∧ AtM μ' (prtF cs true true) ∧ μ'.1 198 26 = nI (prtF cs true true).length ∧ TbA μ' cs ∧ Fr μ μ' PlM)) (0, 0) 55 [.ref 198, .int (nI (priceF cs true true)), .int (nI at_), v3, v4] [] (G, ν) := by
    intro N
    induction N with
    | zero =>
      intro at_ P ν v3 v4 hN hI hA h26 hF hT
      have h1 := hI.len h12
      have h2 := hI.1
      have e : at_ = P.length := by omega
      subst e
      refine J_iload_n (i := 2) qX6_layPlan_55 rfl rfl ?_
      refine J_aload_n (i := 0) qX6_layPlan_56 rfl rfl ?_
      refine J_getIe qX6_layPlan_57 fX6_274 (by assumption) (by (repeat first | with_reducible exact wI_e _ _ _ _ | (with_reducible apply rd_s; focus omega) | (with_reducible apply rd_c; focus omega) | (with_reducible apply rd_k; focus omega) | with_reducible exact rd_e (by omega)); first | done | assumption | rfl) ?_
      refine J_icmp_ge_n qX6_layPlan_60 (by omega) (by omega) (fun _ => ?_) (fun z => absurd z (Nat.lt_irrefl _))
      refine J_iload_n (i := 1) qX6_layPlan_218 rfl rfl ?_
      refine Ji_ret qX6_layPlan_219 ?_
      rw [hI.fin]
      exact ⟨rfl, hA, h26, hT, hF⟩
    | succ N ih =>
      intro at_ P ν v3 v4 hN hI hA h26 hF hT
      have h1 := hI.len h12
      have h2 := hI.1
      refine J_iload_n (i := 2) qX6_layPlan_55 rfl rfl ?_
      refine J_aload_n (i := 0) qX6_layPlan_56 rfl rfl ?_
      refine J_getIe qX6_layPlan_57 fX6_274 (by assumption) (by (repeat first | with_reducible exact wI_e _ _ _ _ | (with_reducible apply rd_s; focus omega) | (with_reducible apply rd_c; focus omega) | (with_reducible apply rd_k; focus omega) | with_reducible exact rd_e (by omega)); first | done | assumption | rfl) ?_
      refine J_icmp_ge_n qX6_layPlan_60 (by omega) (by omega) (fun c1 => ?_) (fun c1 => ?_)
      · have e : at_ = P.length := by omega
        subst e
        refine J_iload_n (i := 1) qX6_layPlan_218 rfl rfl ?_
        refine Ji_ret qX6_layPlan_219 ?_
        rw [hI.fin]
        exact ⟨rfl, hA, h26, hT, hF⟩
      · have hq := hI.2.2 _ (pg_mem c1)
        obtain ⟨a1, a2, a3⟩ := hA at_ c1
        have hT1 := (hT _ _ hq.1 hq.2).2
        refine J_aload_n (i := 0) qX6_layPlan_63 rfl rfl ?_
        refine J_iload_n (i := 2) qX6_layPlan_64 rfl rfl ?_
        refine J_vi1 qX6_layPlan_65 kX6_277 (by assumption) (m_cutOf (d := d + 4) hM0 (k := at_) (i := (pg P at_).1) (j := (pg P at_).2.1) (by omega) (by omega) (by omega) a1 a2) (Nat.le_of_ble_eq_true rfl) (fun v1 μ' hr => ?_)
        rw [hT1] at hr
        obtain ⟨rfl, rfl⟩ := hr
        cases hcut : (pcF cs true true (pg P at_).1 (pg P at_).2.1).2 with
        | none =>
          have hI2 := hI.no c1 hcut
          refine J_ist3 qX6_layPlan_68 (Nat.le_of_ble_eq_true rfl) rfl ?_
          refine J_iload_n (i := 3) qX6_layPlan_69 rfl rfl ?_
          refine J_pushI qX6_layPlan_70 ?_
          refine J_icmp_ne qX6_layPlan_72 (fun z => absurd rfl z) (fun _ => ?_)
          refine J_inc2 qX6_layPlan_75 (Nat.le_of_ble_eq_true rfl) (by first | with_reducible exact nI_inc _ | rfl) rfl ?_
          refine J_goto qX6_layPlan_78 ?_
          refine J_goto qX6_layPlan_215 ?_
          exact ih (at_ + 1) P ν _ v4 (by omega) hI2 hA h26 hF hT
        | some c =>
          have hI2 := hI.so h12 c1 hcut
          have hcc := cut_at (by omega) hcut
          have sl := spl_len (P := P) (c := c) c1
          have hl2 := hI2.len h12
          refine J_ist3 qX6_layPlan_68 (Nat.le_of_ble_eq_true rfl) rfl ?_
          refine J_iload_n (i := 3) qX6_layPlan_69 rfl rfl ?_
          refine J_pushI qX6_layPlan_70 ?_
          refine J_icmp_ne qX6_layPlan_72 (fun _ => ?_) (fun z => absurd z (nI_m9 (by omega)))
          refine J_aload_n (i := 0) qX6_layPlan_81 rfl rfl ?_
          refine J_getIe qX6_layPlan_82 fX6_274 (by assumption) (by (repeat first | with_reducible exact wI_e _ _ _ _ | (with_reducible apply rd_s; focus omega) | (with_reducible apply rd_c; focus omega) | (with_reducible apply rd_k; focus omega) | with_reducible exact rd_e (by omega)); first | done | assumption | rfl) ?_
          refine J_ist4 qX6_layPlan_85 (Nat.le_of_ble_eq_true rfl) rfl ?_
          have S : ∀ r, at_ + 1 + r ≤ P.length → ∀ ν1 : Mm, Fr ν ν1 (fun c _ => 213 ≤ c ∧ c ≤ 215) → (∀ e, e < at_ + 1 + r → e < P.length → AtE ν1 e (pg P e)) → (∀ e, at_ + 1 + r < e → e ≤ P.length → AtE ν1 e (pg P (e - 1))) → J mX6_layPlan (d+5) (0, 0) s0 (Ki G (fun r μ' => r = nI (priceF cs true true) ∧ AtM μ' (prtF cs true true) ∧ μ'.1 198 26 = nI (prtF cs true true).length ∧ TbA μ' cs ∧ Fr μ μ' PlM)) (0, 0) 87 [.ref 198, .int (nI (priceF cs true true)), .int (nI at_), .int (nI c), .int (nI (at_ + 1 + r))] [] (G, ν1) := by
            intro r
            induction r with
            | zero =>
              intro hr ν1 hF1 hlo hup
              obtain ⟨d1, d2, d3⟩ := hlo at_ (by omega) c1
              have e26 : ν1.1 198 26 = nI P.length := (hF1.1 _ _ (by omega)).trans h26
              refine J_iload (i := 4) qX6_layPlan_87 rfl ?_
              refine J_iload_n (i := 2) qX6_layPlan_89 rfl rfl ?_
              refine J_pushI qX6_layPlan_90 ?_
              first | with_reducible refine J_iadd_n qX6_layPlan_91 ?_ | refine J_iadd qX6_layPlan_91 ?_
              refine J_icmp_le_n qX6_layPlan_92 (by omega) (by omega) (fun _ => ?_) (fun z => absurd z (by omega))
              refine J_aload_n (i := 0) qX6_layPlan_149 rfl rfl ?_
              refine J_getR qX6_layPlan_150 fX6_53 (by assumption) (by assumption) ?_
              refine J_iload_n (i := 2) qX6_layPlan_153 rfl rfl ?_
              refine J_pushI qX6_layPlan_154 ?_
              first | with_reducible refine J_iadd_n qX6_layPlan_155 ?_ | refine J_iadd qX6_layPlan_155 ?_
              refine J_iload_n (i := 3) qX6_layPlan_156 rfl rfl ?_
              refine J_pushI qX6_layPlan_157 ?_
              first | with_reducible refine J_iadd_n qX6_layPlan_158 ?_ | refine J_iadd qX6_layPlan_158 ?_
              refine J_iast qX6_layPlan_159 (by assumption) rfl (by omega) ?_
              refine J_aload_n (i := 0) qX6_layPlan_160 rfl rfl ?_
              refine J_getR qX6_layPlan_161 fX6_56 (by assumption) (by assumption) ?_
              refine J_iload_n (i := 2) qX6_layPlan_164 rfl rfl ?_
              refine J_pushI qX6_layPlan_165 ?_
              first | with_reducible refine J_iadd_n qX6_layPlan_166 ?_ | refine J_iadd qX6_layPlan_166 ?_
              refine J_aload_n (i := 0) qX6_layPlan_167 rfl rfl ?_
              refine J_getR qX6_layPlan_168 fX6_56 (by assumption) (by assumption) ?_
              refine J_iload_n (i := 2) qX6_layPlan_171 rfl rfl ?_
              refine J_ialde qX6_layPlan_172 (by assumption) rfl (by omega) (by (repeat first | with_reducible exact wI_e _ _ _ _ | (with_reducible apply rd_s; focus omega) | (with_reducible apply rd_c; focus omega) | (with_reducible apply rd_k; focus omega) | with_reducible exact rd_e (by omega)); first | done | assumption | rfl) ?_
              refine J_iast qX6_layPlan_173 (by assumption) rfl (by omega) ?_
              refine J_aload_n (i := 0) qX6_layPlan_174 rfl rfl ?_
              refine J_getR qX6_layPlan_175 fX6_56 (by assumption) (by assumption) ?_
              refine J_iload_n (i := 2) qX6_layPlan_178 rfl rfl ?_
              refine J_iload_n (i := 3) qX6_layPlan_179 rfl rfl ?_
              refine J_iast qX6_layPlan_180 (by assumption) rfl (by omega) ?_
              refine J_aload_n (i := 0) qX6_layPlan_181 rfl rfl ?_
              refine J_getR qX6_layPlan_182 fX6_59 (by assumption) (by assumption) ?_
              refine J_iload_n (i := 2) qX6_layPlan_185 rfl rfl ?_
              refine J_dup2 qX6_layPlan_186 rfl rfl ?_
              refine J_ialde qX6_layPlan_187 (by assumption) rfl (by omega) (by (repeat first | with_reducible exact wI_e _ _ _ _ | (with_reducible apply rd_s; focus omega) | (with_reducible apply rd_c; focus omega) | (with_reducible apply rd_k; focus omega) | with_reducible exact rd_e (by omega)); first | done | assumption | rfl) ?_
              refine J_pushI qX6_layPlan_188 ?_
              first | with_reducible refine J_iadd_n qX6_layPlan_189 ?_ | refine J_iadd qX6_layPlan_189 ?_
              refine J_iast qX6_layPlan_190 (by assumption) rfl (by omega) ?_
              refine J_aload_n (i := 0) qX6_layPlan_191 rfl rfl ?_
              refine J_getR qX6_layPlan_192 fX6_59 (by assumption) (by assumption) ?_
              refine J_iload_n (i := 2) qX6_layPlan_195 rfl rfl ?_
              refine J_pushI qX6_layPlan_196 ?_
              first | with_reducible refine J_iadd_n qX6_layPlan_197 ?_ | refine J_iadd qX6_layPlan_197 ?_
              refine J_aload_n (i := 0) qX6_layPlan_198 rfl rfl ?_
              refine J_getR qX6_layPlan_199 fX6_59 (by assumption) (by assumption) ?_
              refine J_iload_n (i := 2) qX6_layPlan_202 rfl rfl ?_
              refine J_ialde qX6_layPlan_203 (by assumption) rfl (by omega) (by (repeat first | with_reducible exact wI_e _ _ _ _ | (with_reducible apply rd_s; focus omega) | (with_reducible apply rd_c; focus omega) | (with_reducible apply rd_k; focus omega) | with_reducible exact rd_e (by omega)); first | done | assumption | rfl) ?_
              refine J_iast qX6_layPlan_204 (by assumption) rfl (by omega) ?_
              refine J_aload_n (i := 0) qX6_layPlan_205 rfl rfl ?_
              refine J_dup qX6_layPlan_206 rfl ?_
              refine J_getIe qX6_layPlan_207 fX6_274 (by assumption) (by (repeat first | with_reducible exact wI_e _ _ _ _ | (with_reducible apply rd_s; focus omega) | (with_reducible apply rd_c; focus omega) | (with_reducible apply rd_k; focus omega) | with_reducible exact rd_e (by omega)); first | done | assumption | rfl) ?_
              refine J_pushI qX6_layPlan_210 ?_
              first | with_reducible refine J_iadd_n qX6_layPlan_211 ?_ | refine J_iadd qX6_layPlan_211 ?_
              refine J_putI qX6_layPlan_212 fX6_274p (by assumption) rfl rfl ?_
              refine J_goto qX6_layPlan_215 ?_
              refine ih at_ (splP P at_ c) _ _ _ (by rw [sl]; omega) hI2 (fun e he => ?_) (by rw [wI_e, sl]) ?_ (fun x y z1 z2 => ?_)
              · rw [sl] at he
                rw [spl_pg c1]
                by_cases q1 : e < at_
                · rw [if_pos q1]
                  obtain ⟨y1, y2, y3⟩ := hlo e (by omega) (by omega)
                  refine ⟨?_, ?_, ?_⟩
                  · rw [wI_n (by omega), wI_n (by omega), wI_n (by omega), wI_n (by omega), wI_n (by omega), wI_n (by omega)]; exact y1
                  · rw [wI_n (by omega), wI_n (by omega), wI_n (by omega), wI_n (by omega), wI_n (by omega), wI_n (by omega)]; exact y2
                  · rw [wI_n (by omega), wI_n (by omega), wI_n (by omega), wI_n (by omega), wI_n (by omega), wI_n (by omega)]; exact y3
                · rw [if_neg q1]
                  by_cases q2 : e = at_
                  · rw [if_pos q2]
                    subst q2
                    refine ⟨?_, ?_, ?_⟩
                    · rw [wI_n (by omega), wI_n (by omega), wI_n (by omega), wI_n (by omega), wI_n (by omega), wI_n (by omega)]; exact d1
                    · rw [wI_n (by omega), wI_n (by omega), wI_n (by omega), wI_e]
                    · rw [wI_n (by omega), wI_n (by omega), wI_e]
                  · rw [if_neg q2]
                    by_cases q3 : e = at_ + 1
                    · rw [if_pos q3]
                      subst q3
                      refine ⟨?_, ?_, ?_⟩
                      · rw [wI_n (by omega), wI_n (by omega), wI_n (by omega), wI_n (by omega), wI_n (by omega), wI_e]
                      · rw [wI_n (by omega), wI_n (by omega), wI_n (by omega), wI_n (by omega), wI_e]
                      · rw [wI_n (by omega), wI_e]
                    · rw [if_neg q3]
                      obtain ⟨y1, y2, y3⟩ := hup e (by omega) (by omega)
                      refine ⟨?_, ?_, ?_⟩
                      · rw [wI_n (by omega), wI_n (by omega), wI_n (by omega), wI_n (by omega), wI_n (by omega), wI_n (by omega)]; exact y1
                      · rw [wI_n (by omega), wI_n (by omega), wI_n (by omega), wI_n (by omega), wI_n (by omega), wI_n (by omega)]; exact y2
                      · rw [wI_n (by omega), wI_n (by omega), wI_n (by omega), wI_n (by omega), wI_n (by omega), wI_n (by omega)]; exact y3
              · have hF3 : Fr μ ν1 PlM := hF.tr (hF1.mono (fun c k z => Or.inl (by omega)))
                exact Fr.w (Fr.w (Fr.w (Fr.w (Fr.w (Fr.w hF3 (Or.inl (by omega))) (Or.inl (by omega))) (Or.inl (by omega))) (Or.inl (by omega))) (Or.inl (by omega))) (Or.inr ⟨rfl, rfl⟩)
              · obtain ⟨t1, t2⟩ := hT x y z1 z2
                refine ⟨?_, ?_⟩
                · rw [wI_n (by omega), wI_n (by omega), wI_n (by omega), wI_n (by omega), wI_n (by omega), wI_n (by omega), hF1.1 _ _ (by omega)]; exact t1
                · rw [wI_n (by omega), wI_n (by omega), wI_n (by omega), wI_n (by omega), wI_n (by omega), wI_n (by omega), hF1.1 _ _ (by omega)]; exact t2
            | succ r ihr =>
              intro hr ν1 hF1 hlo hup
              rw [show at_ + 1 + (r + 1) = at_ + 1 + r + 1 by omega] at hr hlo hup ⊢
              obtain ⟨d1, d2, d3⟩ := hlo (at_ + 1 + r) (by omega) (by omega)
              have d1' : ν1.1 213 (at_ + 1 + r + 1 - 1) = nI (pg P (at_ + 1 + r)).1 := d1
              have d2' : ν1.1 214 (at_ + 1 + r + 1 - 1) = nI (pg P (at_ + 1 + r)).2.1 := d2
              have d3' : ν1.1 215 (at_ + 1 + r + 1 - 1) = nI (pg P (at_ + 1 + r)).2.2 := d3
              refine J_iload (i := 4) qX6_layPlan_87 rfl ?_
              refine J_iload_n (i := 2) qX6_layPlan_89 rfl rfl ?_
              refine J_pushI qX6_layPlan_90 ?_
              first | with_reducible refine J_iadd_n qX6_layPlan_91 ?_ | refine J_iadd qX6_layPlan_91 ?_
              refine J_icmp_le_n qX6_layPlan_92 (by omega) (by omega) (fun z => absurd z (by omega)) (fun _ => ?_)
              refine J_aload_n (i := 0) qX6_layPlan_95 rfl rfl ?_
              refine J_getR qX6_layPlan_96 fX6_53 (by assumption) (by assumption) ?_
              refine J_iload (i := 4) qX6_layPlan_99 rfl ?_
              refine J_aload_n (i := 0) qX6_layPlan_101 rfl rfl ?_
              refine J_getR qX6_layPlan_102 fX6_53 (by assumption) (by assumption) ?_
              refine J_iload (i := 4) qX6_layPlan_105 rfl ?_
              refine J_pushI qX6_layPlan_107 ?_
              first | with_reducible refine J_isub_n qX6_layPlan_108 (by omega) ?_ | refine J_isub qX6_layPlan_108 ?_
              refine J_ialde qX6_layPlan_109 (by assumption) rfl (by omega) (by (repeat first | with_reducible exact wI_e _ _ _ _ | (with_reducible apply rd_s; focus omega) | (with_reducible apply rd_c; focus omega) | (with_reducible apply rd_k; focus omega) | with_reducible exact rd_e (by omega)); first | done | assumption | rfl) ?_
              refine J_iast qX6_layPlan_110 (by assumption) rfl (by omega) ?_
              refine J_aload_n (i := 0) qX6_layPlan_111 rfl rfl ?_
              refine J_getR qX6_layPlan_112 fX6_56 (by assumption) (by assumption) ?_
              refine J_iload (i := 4) qX6_layPlan_115 rfl ?_
              refine J_aload_n (i := 0) qX6_layPlan_117 rfl rfl ?_
              refine J_getR qX6_layPlan_118 fX6_56 (by assumption) (by assumption) ?_
              refine J_iload (i := 4) qX6_layPlan_121 rfl ?_
              refine J_pushI qX6_layPlan_123 ?_
              first | with_reducible refine J_isub_n qX6_layPlan_124 (by omega) ?_ | refine J_isub qX6_layPlan_124 ?_
              refine J_ialde qX6_layPlan_125 (by assumption) rfl (by omega) (by (repeat first | with_reducible exact wI_e _ _ _ _ | (with_reducible apply rd_s; focus omega) | (with_reducible apply rd_c; focus omega) | (with_reducible apply rd_k; focus omega) | with_reducible exact rd_e (by omega)); first | done | assumption | rfl) ?_
              refine J_iast qX6_layPlan_126 (by assumption) rfl (by omega) ?_
              refine J_aload_n (i := 0) qX6_layPlan_127 rfl rfl ?_
              refine J_getR qX6_layPlan_128 fX6_59 (by assumption) (by assumption) ?_
              refine J_iload (i := 4) qX6_layPlan_131 rfl ?_
              refine J_aload_n (i := 0) qX6_layPlan_133 rfl rfl ?_
              refine J_getR qX6_layPlan_134 fX6_59 (by assumption) (by assumption) ?_
              refine J_iload (i := 4) qX6_layPlan_137 rfl ?_
              refine J_pushI qX6_layPlan_139 ?_
              first | with_reducible refine J_isub_n qX6_layPlan_140 (by omega) ?_ | refine J_isub qX6_layPlan_140 ?_
              refine J_ialde qX6_layPlan_141 (by assumption) rfl (by omega) (by (repeat first | with_reducible exact wI_e _ _ _ _ | (with_reducible apply rd_s; focus omega) | (with_reducible apply rd_c; focus omega) | (with_reducible apply rd_k; focus omega) | with_reducible exact rd_e (by omega)); first | done | assumption | rfl) ?_
              refine J_iast qX6_layPlan_142 (by assumption) rfl (by omega) ?_
              refine J_inc4 qX6_layPlan_143 (Nat.le_of_ble_eq_true rfl) (by first | with_reducible exact nI_dec _ | rfl) rfl ?_
              refine J_goto qX6_layPlan_146 ?_
              refine ihr (by omega) _ (Fr.w (Fr.w (Fr.w hF1 (by omega)) (by omega)) (by omega)) (fun e h3 h4 => ?_) (fun e h3 h4 => ?_)
              · obtain ⟨y1, y2, y3⟩ := hlo e (by omega) h4
                refine ⟨?_, ?_, ?_⟩
                · rw [wI_n (by omega), wI_n (by omega), wI_n (by omega)]; exact y1
                · rw [wI_n (by omega), wI_n (by omega), wI_n (by omega)]; exact y2
                · rw [wI_n (by omega), wI_n (by omega), wI_n (by omega)]; exact y3
              · by_cases q : e = at_ + 1 + r + 1
                · subst q
                  refine ⟨?_, ?_, ?_⟩
                  · rw [wI_n (by omega), wI_n (by omega), wI_e]; rfl
                  · rw [wI_n (by omega), wI_e]; rfl
                  · rw [wI_e]; rfl
                · obtain ⟨y1, y2, y3⟩ := hup e (by omega) h4
                  refine ⟨?_, ?_, ?_⟩
                  · rw [wI_n (by omega), wI_n (by omega), wI_n (by omega)]; exact y1
                  · rw [wI_n (by omega), wI_n (by omega), wI_n (by omega)]; exact y2
                  · rw [wI_n (by omega), wI_n (by omega), wI_n (by omega)]; exact y3
          have h5 := S (P.length - (at_ + 1)) (by omega) ν Fr.rf (fun e _ he => hA e he) (fun e h3 h4 => absurd h3 (by omega))
          rw [show at_ + 1 + (P.length - (at_ + 1)) = P.length by omega] at h5
          exact h5
  refine Si_of (ls := [.ref 198, .null, .null, .null, .null]) (by decide +kernel) (Nat.le_of_ble_eq_true rfl) rfl ?_
  refine J_aload_n (i := 0) qX6_layPlan_0 rfl rfl ?_
  refine J_pushI qX6_layPlan_1 ?_
  refine J_vi1 qX6_layPlan_3 kX6_271 (by assumption) (m_layCosts (d := d) hM0 hc ho (al := 12) (by omega) (rw := true) (mk := true) (by decide) (by decide)) (Nat.le_of_ble_eq_true rfl) (fun v1 ν hr => ?_)
  obtain ⟨rfl, hT, hF⟩ := hr
  have e0 : ν.1 206 0 = nI cs.length := (hF.1 _ _ (by omega)).trans hc.n0
  have hF1 : Fr μ ν PlM := hF.mono (fun c k z => Or.inl (by omega))
  refine J_ist1 qX6_layPlan_6 (Nat.le_of_ble_eq_true rfl) rfl ?_
  refine J_aload_n (i := 0) qX6_layPlan_7 rfl rfl ?_
  refine J_aload_n (i := 0) qX6_layPlan_8 rfl rfl ?_
  refine J_getR qX6_layPlan_9 fX6_32 (by assumption) (by assumption) ?_
  refine J_pushI qX6_layPlan_12 ?_
  refine J_ialde qX6_layPlan_13 (by assumption) rfl (by omega) (by (repeat first | with_reducible exact wI_e _ _ _ _ | (with_reducible apply rd_s; focus omega) | (with_reducible apply rd_c; focus omega) | (with_reducible apply rd_k; focus omega) | with_reducible exact rd_e (by omega)); first | done | assumption | rfl) ?_
  refine J_if_le_n qX6_layPlan_14 (by omega) (fun c0 => ?_) (fun c0 => ?_)
  · have eP : prtF cs true true = [] := if_pos c0
    refine J_pushI qX6_layPlan_21 ?_
    refine J_putI qX6_layPlan_22 fX6_274p (by assumption) rfl rfl ?_
    refine J_aload_n (i := 0) qX6_layPlan_25 rfl rfl ?_
    refine J_getR qX6_layPlan_26 fX6_53 (by assumption) (by assumption) ?_
    refine J_pushI qX6_layPlan_29 ?_
    refine J_pushI qX6_layPlan_30 ?_
    refine J_iast qX6_layPlan_31 (by assumption) rfl (by omega) ?_
    refine J_aload_n (i := 0) qX6_layPlan_32 rfl rfl ?_
    refine J_getR qX6_layPlan_33 fX6_56 (by assumption) (by assumption) ?_
    refine J_pushI qX6_layPlan_36 ?_
    refine J_aload_n (i := 0) qX6_layPlan_37 rfl rfl ?_
    refine J_getR qX6_layPlan_38 fX6_32 (by assumption) (by assumption) ?_
    refine J_pushI qX6_layPlan_41 ?_
    refine J_ialde qX6_layPlan_42 (by assumption) rfl (by omega) (by (repeat first | with_reducible exact wI_e _ _ _ _ | (with_reducible apply rd_s; focus omega) | (with_reducible apply rd_c; focus omega) | (with_reducible apply rd_k; focus omega) | with_reducible exact rd_e (by omega)); first | done | assumption | rfl) ?_
    refine J_pushI qX6_layPlan_43 ?_
    refine J_isub qX6_layPlan_44 ?_
    refine J_iast qX6_layPlan_45 (by assumption) rfl (by omega) ?_
    refine J_aload_n (i := 0) qX6_layPlan_46 rfl rfl ?_
    refine J_getR qX6_layPlan_47 fX6_59 (by assumption) (by assumption) ?_
    refine J_pushI qX6_layPlan_50 ?_
    refine J_pushI qX6_layPlan_51 ?_
    refine J_iast qX6_layPlan_52 (by assumption) rfl (by omega) ?_
    refine J_pushI qX6_layPlan_53 ?_
    refine J_ist2 qX6_layPlan_54 (Nat.le_of_ble_eq_true rfl) rfl ?_
    have h5 := H 0 0 [] (wI (wI (wI (wI ν 198 26 (nI 0)) 213 0 (nI 0)) 214 0 (nI cs.length - nI 1)) 215 0 (nI 0)) .null .null (by rw [eP]; rfl) ⟨Nat.zero_le _, by rw [eP]; rfl, fun q hq => absurd hq List.not_mem_nil⟩ (fun e he => absurd he (Nat.not_lt_zero e)) (by rw [wI_n (by omega), wI_n (by omega), wI_n (by omega), wI_e]; rfl) (Fr.w (Fr.w (Fr.w (Fr.w hF1 (Or.inr ⟨rfl, rfl⟩)) (Or.inl (by omega))) (Or.inl (by omega))) (Or.inl (by omega))) (fun x y z1 z2 => absurd z2 (by omega))
    exact h5
  · refine J_pushI qX6_layPlan_17 ?_
    refine J_goto qX6_layPlan_18 ?_
    refine J_putI qX6_layPlan_22 fX6_274p (by assumption) rfl rfl ?_
    refine J_aload_n (i := 0) qX6_layPlan_25 rfl rfl ?_
    refine J_getR qX6_layPlan_26 fX6_53 (by assumption) (by assumption) ?_
    refine J_pushI qX6_layPlan_29 ?_
    refine J_pushI qX6_layPlan_30 ?_
    refine J_iast qX6_layPlan_31 (by assumption) rfl (by omega) ?_
    refine J_aload_n (i := 0) qX6_layPlan_32 rfl rfl ?_
    refine J_getR qX6_layPlan_33 fX6_56 (by assumption) (by assumption) ?_
    refine J_pushI qX6_layPlan_36 ?_
    refine J_aload_n (i := 0) qX6_layPlan_37 rfl rfl ?_
    refine J_getR qX6_layPlan_38 fX6_32 (by assumption) (by assumption) ?_
    refine J_pushI qX6_layPlan_41 ?_
    refine J_ialde qX6_layPlan_42 (by assumption) rfl (by omega) (by (repeat first | with_reducible exact wI_e _ _ _ _ | (with_reducible apply rd_s; focus omega) | (with_reducible apply rd_c; focus omega) | (with_reducible apply rd_k; focus omega) | with_reducible exact rd_e (by omega)); first | done | assumption | rfl) ?_
    refine J_pushI qX6_layPlan_43 ?_
    refine J_isub qX6_layPlan_44 ?_
    rw [subl, show lv cs.length = nI (cs.length - 1) by
      match cs.length, c0 with
      | n + 1, _ => rfl]
    refine J_iast qX6_layPlan_45 (by assumption) rfl (by omega) ?_
    refine J_aload_n (i := 0) qX6_layPlan_46 rfl rfl ?_
    refine J_getR qX6_layPlan_47 fX6_59 (by assumption) (by assumption) ?_
    refine J_pushI qX6_layPlan_50 ?_
    refine J_pushI qX6_layPlan_51 ?_
    refine J_iast qX6_layPlan_52 (by assumption) rfl (by omega) ?_
    refine J_pushI qX6_layPlan_53 ?_
    refine J_ist2 qX6_layPlan_54 (Nat.le_of_ble_eq_true rfl) rfl ?_
    refine H _ 0 [(0, cs.length - 1, 0)] _ .null .null rfl (InvP.ini (by omega)) (fun e he => ?_) (by rw [wI_n (by omega), wI_n (by omega), wI_n (by omega), wI_e]; rfl) (Fr.w (Fr.w (Fr.w (Fr.w hF1 (Or.inr ⟨rfl, rfl⟩)) (Or.inl (by omega))) (Or.inl (by omega))) (Or.inl (by omega))) (fun x y z1 z2 => ?_)
    · have e1 : e = 0 := by
        have : e < 1 := he
        omega
      subst e1
      refine ⟨?_, ?_, ?_⟩
      · rw [wI_n (by omega), wI_n (by omega), wI_e]; rfl
      · rw [wI_n (by omega), wI_e]; rfl
      · rw [wI_e]; rfl
    · obtain ⟨t1, t2⟩ := hT x y z1 z2
      refine ⟨?_, ?_⟩
      · rw [wI_n (by omega), wI_n (by omega), wI_n (by omega), wI_n (by omega)]; exact t1
      · rw [wI_n (by omega), wI_n (by omega), wI_n (by omega), wI_n (by omega)]; exact t2
end MM
