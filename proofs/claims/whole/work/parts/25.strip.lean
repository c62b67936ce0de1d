/-! a Program taken from another; Math; STRIPS -/
theorem neg1_ne : ¬ (0 : Int32) ≤ -1 := by decide
section PR
variable {G : Gm} {μ : Mm} {b d : Nat} {cs : List Cs} {hs : List (List Cs)}
theorem p_take (hP : IsP G b) {b2 : Nat} (hP2 : IsP G b2) (hb : b + 10 < b2 ∨ b2 + 10 < b) (hc : AbC μ b2 cs) (hh : AbH μ b2 cs hs) : Sv mX1_take (d+1) [.ref b, .ref b2] G μ (fun μ' => AbC μ' b cs ∧ AbH μ' b cs hs ∧ μ'.1 b 5 = μ.1 b2 5 ∧ Fr μ μ' (fun c k => b ≤ c ∧ c ≤ b + 10)) := by
  obtain ⟨hO, ⟨r0, r1, r2, r3⟩, ⟨r6, r7, r8, r9, r10, r11⟩, ⟨a1, a2, a3, a4⟩, ⟨a5, a6, a7, a8, a9, a10⟩⟩ := hP
  obtain ⟨zO, ⟨z0, z1, z2, z3⟩, ⟨z6, z7, z8, z9, z10, z11⟩, ⟨y1, y2, y3, y4⟩, ⟨y5, y6, y7, y8, y9, y10⟩⟩ := hP2
  have hj := hc.j
  have hn := hc.1
  have h12 := hc.2.1
  have hd := hh.1
  have h40 := hh.2.1
  refine Sv_of (ls := [.ref b, .ref b2]) (by decide +kernel) (Nat.le_of_ble_eq_true rfl) rfl ?_
  refine J_aload_n (i := 0) qX1_take_0 rfl rfl ?_
  refine J_aload_n (i := 1) qX1_take_1 rfl rfl ?_
  refine J_getIe qX1_take_2 fX1_24 (by assumption) (by (repeat first | with_reducible exact wI_e _ _ _ _ | (with_reducible apply rd_s; focus omega) | (with_reducible apply rd_c; focus omega) | (with_reducible apply rd_k; focus omega) | with_reducible exact rd_e (by omega)); first | done | assumption | rfl) ?_
  refine J_putI qX1_take_5 fX1_24p (by assumption) rfl rfl ?_
  refine J_aload_n (i := 0) qX1_take_8 rfl rfl ?_
  refine J_aload_n (i := 1) qX1_take_9 rfl rfl ?_
  refine J_getIe qX1_take_10 fX1_28 (by assumption) (by (repeat first | with_reducible exact wI_e _ _ _ _ | (with_reducible apply rd_s; focus omega) | (with_reducible apply rd_c; focus omega) | (with_reducible apply rd_k; focus omega) | with_reducible exact rd_e (by omega)); first | done | assumption | rfl) ?_
  refine J_putI qX1_take_13 fX1_28p (by assumption) rfl rfl ?_
  refine J_aload_n (i := 0) qX1_take_16 rfl rfl ?_
  refine J_aload_n (i := 1) qX1_take_17 rfl rfl ?_
  refine J_getIe qX1_take_18 fX1_49 (by assumption) (by (repeat first | with_reducible exact wI_e _ _ _ _ | (with_reducible apply rd_s; focus omega) | (with_reducible apply rd_c; focus omega) | (with_reducible apply rd_k; focus omega) | with_reducible exact rd_e (by omega)); first | done | assumption | rfl) ?_
  refine J_putI qX1_take_21 fX1_49p (by assumption) rfl rfl ?_
  refine J_aload_n (i := 1) qX1_take_24 rfl rfl ?_
  refine J_getR qX1_take_25 fX1_9 (by assumption) (by assumption) ?_
  refine J_pushI qX1_take_28 ?_
  refine J_aload_n (i := 0) qX1_take_29 rfl rfl ?_
  refine J_getR qX1_take_30 fX1_9 (by assumption) (by assumption) ?_
  refine J_pushI qX1_take_33 ?_
  refine J_aload_n (i := 0) qX1_take_34 rfl rfl ?_
  refine J_getIe qX1_take_35 fX1_24 (by assumption) (by (repeat first | with_reducible exact wI_e _ _ _ _ | (with_reducible apply rd_s; focus omega) | (with_reducible apply rd_c; focus omega) | (with_reducible apply rd_k; focus omega) | with_reducible exact rd_e (by omega)); first | done | assumption | rfl) ?_
  refine J_acpy qX1_take_38 acX1_52 (by assumption) (by assumption) (by omega) (by omega) (Nat.le_of_ble_eq_true rfl) ?_
  refine J_aload_n (i := 1) qX1_take_41 rfl rfl ?_
  refine J_getR qX1_take_42 fX1_15 (by assumption) (by assumption) ?_
  refine J_pushI qX1_take_45 ?_
  refine J_aload_n (i := 0) qX1_take_46 rfl rfl ?_
  refine J_getR qX1_take_47 fX1_15 (by assumption) (by assumption) ?_
  refine J_pushI qX1_take_50 ?_
  refine J_aload_n (i := 0) qX1_take_51 rfl rfl ?_
  refine J_getIe qX1_take_52 fX1_24 (by assumption) (by (repeat first | with_reducible exact wI_e _ _ _ _ | (with_reducible apply rd_s; focus omega) | (with_reducible apply rd_c; focus omega) | (with_reducible apply rd_k; focus omega) | with_reducible exact rd_e (by omega)); first | done | assumption | rfl) ?_
  refine J_acpy qX1_take_55 acX1_52 (by assumption) (by assumption) (by omega) (by omega) (Nat.le_of_ble_eq_true rfl) ?_
  refine J_aload_n (i := 1) qX1_take_58 rfl rfl ?_
  refine J_getR qX1_take_59 fX1_18 (by assumption) (by assumption) ?_
  refine J_pushI qX1_take_62 ?_
  refine J_aload_n (i := 0) qX1_take_63 rfl rfl ?_
  refine J_getR qX1_take_64 fX1_18 (by assumption) (by assumption) ?_
  refine J_pushI qX1_take_67 ?_
  refine J_aload_n (i := 0) qX1_take_68 rfl rfl ?_
  refine J_getIe qX1_take_69 fX1_24 (by assumption) (by (repeat first | with_reducible exact wI_e _ _ _ _ | (with_reducible apply rd_s; focus omega) | (with_reducible apply rd_c; focus omega) | (with_reducible apply rd_k; focus omega) | with_reducible exact rd_e (by omega)); first | done | assumption | rfl) ?_
  refine J_acpy qX1_take_72 acX1_52 (by assumption) (by assumption) (by omega) (by omega) (Nat.le_of_ble_eq_true rfl) ?_
  refine J_aload_n (i := 1) qX1_take_75 rfl rfl ?_
  refine J_getR qX1_take_76 fX1_21 (by assumption) (by assumption) ?_
  refine J_pushI qX1_take_79 ?_
  refine J_aload_n (i := 0) qX1_take_80 rfl rfl ?_
  refine J_getR qX1_take_81 fX1_21 (by assumption) (by assumption) ?_
  refine J_pushI qX1_take_84 ?_
  refine J_aload_n (i := 0) qX1_take_85 rfl rfl ?_
  refine J_getIe qX1_take_86 fX1_24 (by assumption) (by (repeat first | with_reducible exact wI_e _ _ _ _ | (with_reducible apply rd_s; focus omega) | (with_reducible apply rd_c; focus omega) | (with_reducible apply rd_k; focus omega) | with_reducible exact rd_e (by omega)); first | done | assumption | rfl) ?_
  refine J_acpy qX1_take_89 acX1_52 (by assumption) (by assumption) (by omega) (by omega) (Nat.le_of_ble_eq_true rfl) ?_
  refine J_aload_n (i := 1) qX1_take_92 rfl rfl ?_
  refine J_getR qX1_take_93 fX1_31 (by assumption) (by assumption) ?_
  refine J_pushI qX1_take_96 ?_
  refine J_aload_n (i := 0) qX1_take_97 rfl rfl ?_
  refine J_getR qX1_take_98 fX1_31 (by assumption) (by assumption) ?_
  refine J_pushI qX1_take_101 ?_
  refine J_aload_n (i := 0) qX1_take_102 rfl rfl ?_
  refine J_getIe qX1_take_103 fX1_49 (by assumption) (by (repeat first | with_reducible exact wI_e _ _ _ _ | (with_reducible apply rd_s; focus omega) | (with_reducible apply rd_c; focus omega) | (with_reducible apply rd_k; focus omega) | with_reducible exact rd_e (by omega)); first | done | assumption | rfl) ?_
  refine J_acpy qX1_take_106 acX1_52 (by assumption) (by assumption) (by omega) (by omega) (Nat.le_of_ble_eq_true rfl) ?_
  refine J_aload_n (i := 1) qX1_take_109 rfl rfl ?_
  refine J_getR qX1_take_110 fX1_34 (by assumption) (by assumption) ?_
  refine J_pushI qX1_take_113 ?_
  refine J_aload_n (i := 0) qX1_take_114 rfl rfl ?_
  refine J_getR qX1_take_115 fX1_34 (by assumption) (by assumption) ?_
  refine J_pushI qX1_take_118 ?_
  refine J_aload_n (i := 0) qX1_take_119 rfl rfl ?_
  refine J_getIe qX1_take_120 fX1_49 (by assumption) (by (repeat first | with_reducible exact wI_e _ _ _ _ | (with_reducible apply rd_s; focus omega) | (with_reducible apply rd_c; focus omega) | (with_reducible apply rd_k; focus omega) | with_reducible exact rd_e (by omega)); first | done | assumption | rfl) ?_
  refine J_acpy qX1_take_123 acX1_52 (by assumption) (by assumption) (by omega) (by omega) (Nat.le_of_ble_eq_true rfl) ?_
  refine J_aload_n (i := 1) qX1_take_126 rfl rfl ?_
  refine J_getR qX1_take_127 fX1_37 (by assumption) (by assumption) ?_
  refine J_pushI qX1_take_130 ?_
  refine J_aload_n (i := 0) qX1_take_131 rfl rfl ?_
  refine J_getR qX1_take_132 fX1_37 (by assumption) (by assumption) ?_
  refine J_pushI qX1_take_135 ?_
  refine J_aload_n (i := 0) qX1_take_136 rfl rfl ?_
  refine J_getIe qX1_take_137 fX1_49 (by assumption) (by (repeat first | with_reducible exact wI_e _ _ _ _ | (with_reducible apply rd_s; focus omega) | (with_reducible apply rd_c; focus omega) | (with_reducible apply rd_k; focus omega) | with_reducible exact rd_e (by omega)); first | done | assumption | rfl) ?_
  refine J_acpy qX1_take_140 acX1_52 (by assumption) (by assumption) (by omega) (by omega) (Nat.le_of_ble_eq_true rfl) ?_
  refine J_aload_n (i := 1) qX1_take_143 rfl rfl ?_
  refine J_getR qX1_take_144 fX1_40 (by assumption) (by assumption) ?_
  refine J_pushI qX1_take_147 ?_
  refine J_aload_n (i := 0) qX1_take_148 rfl rfl ?_
  refine J_getR qX1_take_149 fX1_40 (by assumption) (by assumption) ?_
  refine J_pushI qX1_take_152 ?_
  refine J_aload_n (i := 0) qX1_take_153 rfl rfl ?_
  refine J_getIe qX1_take_154 fX1_49 (by assumption) (by (repeat first | with_reducible exact wI_e _ _ _ _ | (with_reducible apply rd_s; focus omega) | (with_reducible apply rd_c; focus omega) | (with_reducible apply rd_k; focus omega) | with_reducible exact rd_e (by omega)); first | done | assumption | rfl) ?_
  refine J_acpy qX1_take_157 acX1_52 (by assumption) (by assumption) (by omega) (by omega) (Nat.le_of_ble_eq_true rfl) ?_
  refine J_aload_n (i := 1) qX1_take_160 rfl rfl ?_
  refine J_getR qX1_take_161 fX1_43 (by assumption) (by assumption) ?_
  refine J_pushI qX1_take_164 ?_
  refine J_aload_n (i := 0) qX1_take_165 rfl rfl ?_
  refine J_getR qX1_take_166 fX1_43 (by assumption) (by assumption) ?_
  refine J_pushI qX1_take_169 ?_
  refine J_aload_n (i := 0) qX1_take_170 rfl rfl ?_
  refine J_getIe qX1_take_171 fX1_49 (by assumption) (by (repeat first | with_reducible exact wI_e _ _ _ _ | (with_reducible apply rd_s; focus omega) | (with_reducible apply rd_c; focus omega) | (with_reducible apply rd_k; focus omega) | with_reducible exact rd_e (by omega)); first | done | assumption | rfl) ?_
  refine J_acpy qX1_take_174 acX1_52 (by assumption) (by assumption) (by omega) (by omega) (Nat.le_of_ble_eq_true rfl) ?_
  refine J_aload_n (i := 1) qX1_take_177 rfl rfl ?_
  refine J_getR qX1_take_178 fX1_46 (by assumption) (by assumption) ?_
  refine J_pushI qX1_take_181 ?_
  refine J_aload_n (i := 0) qX1_take_182 rfl rfl ?_
  refine J_getR qX1_take_183 fX1_46 (by assumption) (by assumption) ?_
  refine J_pushI qX1_take_186 ?_
  refine J_aload_n (i := 0) qX1_take_187 rfl rfl ?_
  refine J_getIe qX1_take_188 fX1_49 (by assumption) (by (repeat first | with_reducible exact wI_e _ _ _ _ | (with_reducible apply rd_s; focus omega) | (with_reducible apply rd_c; focus omega) | (with_reducible apply rd_k; focus omega) | with_reducible exact rd_e (by omega)); first | done | assumption | rfl) ?_
  refine J_acpy qX1_take_191 acX1_52 (by assumption) (by assumption) (by omega) (by omega) (Nat.le_of_ble_eq_true rfl) ?_
  refine Jv_ret qX1_take_194 ?_
  refine ⟨AbC.of ?_ h12 (fun j hj4 k hk => ?_), ⟨?_, h40, fun e he => (hh.2.2 e he).cg (fun j hj6 => ?_)⟩, ?_, ⟨fun c k h => ?_, rfl⟩⟩
  · iterate 10 rw [cpI_n (by omega)]
    rw [wI_n (by omega), wI_n (by omega), wI_e]
  · match j, hj4 with
    | 0, _ =>
      iterate 9 rw [cpI_n (by omega)]
      rw [cpI_e (Nat.zero_le _) (by omega), wI_n (by omega), wI_n (by omega), wI_n (by omega), show 0 + (k - 0) = k by omega]
      exact hj 0 (by omega) k hk
    | 1, _ =>
      iterate 8 rw [cpI_n (by omega)]
      rw [cpI_e (Nat.zero_le _) (by omega), cpI_n (by omega), wI_n (by omega), wI_n (by omega), wI_n (by omega), show 0 + (k - 0) = k by omega]
      exact hj 1 (by omega) k hk
    | 2, _ =>
      iterate 7 rw [cpI_n (by omega)]
      rw [cpI_e (Nat.zero_le _) (by omega)]
      iterate 2 rw [cpI_n (by omega)]
      rw [wI_n (by omega), wI_n (by omega), wI_n (by omega), show 0 + (k - 0) = k by omega]
      exact hj 2 (by omega) k hk
    | 3, _ =>
      iterate 6 rw [cpI_n (by omega)]
      rw [cpI_e (Nat.zero_le _) (by omega)]
      iterate 3 rw [cpI_n (by omega)]
      rw [wI_n (by omega), wI_n (by omega), wI_n (by omega), show 0 + (k - 0) = k by omega]
      exact hj 3 (by omega) k hk
  · iterate 10 rw [cpI_n (by omega)]
    rw [wI_e]
  · match j, hj6 with
    | 0, _ =>
      iterate 5 rw [cpI_n (by omega)]
      rw [cpI_e (Nat.zero_le _) (by omega)]
      iterate 4 rw [cpI_n (by omega)]
      rw [wI_n (by omega), wI_n (by omega), wI_n (by omega), show 0 + (e - 0) = e by omega]
    | 1, _ =>
      iterate 4 rw [cpI_n (by omega)]
      rw [cpI_e (Nat.zero_le _) (by omega)]
      iterate 5 rw [cpI_n (by omega)]
      rw [wI_n (by omega), wI_n (by omega), wI_n (by omega), show 0 + (e - 0) = e by omega]
    | 2, _ =>
      iterate 3 rw [cpI_n (by omega)]
      rw [cpI_e (Nat.zero_le _) (by omega)]
      iterate 6 rw [cpI_n (by omega)]
      rw [wI_n (by omega), wI_n (by omega), wI_n (by omega), show 0 + (e - 0) = e by omega]
    | 3, _ =>
      iterate 2 rw [cpI_n (by omega)]
      rw [cpI_e (Nat.zero_le _) (by omega)]
      iterate 7 rw [cpI_n (by omega)]
      rw [wI_n (by omega), wI_n (by omega), wI_n (by omega), show 0 + (e - 0) = e by omega]
    | 4, _ =>
      rw [cpI_n (by omega)]
      rw [cpI_e (Nat.zero_le _) (by omega)]
      iterate 8 rw [cpI_n (by omega)]
      rw [wI_n (by omega), wI_n (by omega), wI_n (by omega), show 0 + (e - 0) = e by omega]
    | 5, _ =>
      rw [cpI_e (Nat.zero_le _) (by omega)]
      iterate 9 rw [cpI_n (by omega)]
      rw [wI_n (by omega), wI_n (by omega), wI_n (by omega), show 0 + (e - 0) = e by omega]
  · iterate 10 rw [cpI_n (by omega)]
    rw [wI_n (by omega), wI_e]
  · iterate 10 rw [cpI_n (by omega)]
    rw [wI_n (by omega), wI_n (by omega), wI_n (by omega)]
theorem J_mmax {mi : MI} {d : Nat} {sc : Nat × (Nat → Int32)} {K : Option Value → Wd → Prop} {pc nx idx : Nat} {ls st : List Value} {w : Wd} {x y : Int32} (h : Dc mi pc (.invokestatic idx) 3 nx) (hl : CS mi.1.cls idx mJ9_max_7cf53 2) (hst : (st.map fun v => v.category).sum ≤ 8) (k : J mi d (0, 0) sc K (0, 0) nx ls (.int (if x < y then y else x) :: st) w) : J mi d (0, 0) sc K (0, 0) pc ls (.int y :: .int x :: st) w := by
  obtain ⟨hd, rfl⟩ := h
  obtain ⟨l1, l2, -, -, l3, l4⟩ := hl
  intro p l e R s m args below meth c H locs D tc ad A lr Q hC hR hE hL hret
  have hts := hC.2.2.2.2.2.1
  have e1 : ((st.map (trV ad)).map fun v => v.category).sum ≤ 8 := by rw [tr_cats]; exact hst
  have e2 := hR.2.1
  exact va_mmax hC.1 hC.2.1 (hC.2.2.2.1.trans hL.1.symm) hC.2.2.2.2.1 (hts _ l1) (hts _ l2) (hts _ l4) (hts _ l3) (Nat.le_trans (by omega) hR.1) (by omega) (Nat.zero_le _) (Nat.zero_le _) hd (k p l e R s m args below meth c H locs D tc ad A lr Q hC hR hE hL hret)
theorem J_mmin {mi : MI} {d : Nat} {sc : Nat × (Nat → Int32)} {K : Option Value → Wd → Prop} {pc nx idx : Nat} {ls st : List Value} {w : Wd} {x y : Int32} (h : Dc mi pc (.invokestatic idx) 3 nx) (hl : CS mi.1.cls idx mJ9_min_7cf53 2) (hst : (st.map fun v => v.category).sum ≤ 8) (k : J mi d (0, 0) sc K (0, 0) nx ls (.int (if y < x then y else x) :: st) w) : J mi d (0, 0) sc K (0, 0) pc ls (.int y :: .int x :: st) w := by
  obtain ⟨hd, rfl⟩ := h
  obtain ⟨l1, l2, -, -, l3, l4⟩ := hl
  intro p l e R s m args below meth c H locs D tc ad A lr Q hC hR hE hL hret
  have hts := hC.2.2.2.2.2.1
  have e1 : ((st.map (trV ad)).map fun v => v.category).sum ≤ 8 := by rw [tr_cats]; exact hst
  have e2 := hR.2.1
  exact va_mmin hC.1 hC.2.1 (hC.2.2.2.1.trans hL.1.symm) hC.2.2.2.2.1 (hts _ l1) (hts _ l2) (hts _ l4) (hts _ l3) (Nat.le_trans (by omega) hR.1) (by omega) (Nat.zero_le _) (Nat.zero_le _) hd (k p l e R s m args below meth c H locs D tc ad A lr Q hC hR hE hL hret)
theorem J_mabsl {mi : MI} {d : Nat} {sc : Nat × (Nat → Int32)} {K : Option Value → Wd → Prop} {pc nx idx : Nat} {ls st : List Value} {w : Wd} {x : Int64} (h : Dc mi pc (.invokestatic idx) 3 nx) (hl : CS mi.1.cls idx mJ9_abs_067f4 1) (hst : (st.map fun v => v.category).sum ≤ 8) (k : J mi d (0, 0) sc K (0, 0) nx ls (.long (if 0 < x then x else -x) :: st) w) : J mi d (0, 0) sc K (0, 0) pc ls (.long x :: st) w := by
  obtain ⟨hd, rfl⟩ := h
  obtain ⟨l1, l2, -, -, l3, l4⟩ := hl
  intro p l e R s m args below meth c H locs D tc ad A lr Q hC hR hE hL hret
  have hts := hC.2.2.2.2.2.1
  have e1 : ((st.map (trV ad)).map fun v => v.category).sum ≤ 8 := by rw [tr_cats]; exact hst
  have e2 := hR.2.1
  exact va_mabs_long hC.1 hC.2.1 (hC.2.2.2.1.trans hL.1.symm) hC.2.2.2.2.1 (hts _ l1) (hts _ l2) (hts _ l4) (hts _ l3) (Nat.le_trans (by omega) hR.1) (by omega) (Nat.zero_le _) (Nat.zero_le _) hd (k p l e R s m args below meth c H locs D tc ad A lr Q hC hR hE hL hret)
end PR
/-- a Strip's cells -/
def IsS (G : Gm) (c N : Nat) : Prop := IsO G c 3 ∧ RF G c 0 (c + 1) ∧ IsA G (c + 1) 10 N
def AbL (μ : Mm) (c N : Nat) (l : List Int32) : Prop := μ.1 c 1 = nI l.length ∧ l.length ≤ N ∧ ∀ k, k < l.length → μ.1 (c + 1) k = l.getD k 0
def AbS (μ : Mm) (c N : Nat) (o : Option (List Int32)) : Prop := match o with
  | none => μ.1 c 1 = -1
  | some l => AbL μ c N l
def Pst (c : Nat) (q k : Nat) : Prop := (q = c ∧ k = 1) ∨ q = c + 1
theorem AbS.fr {μ μ' : Mm} {c N : Nat} {o : Option (List Int32)} {P : Nat → Nat → Prop} (h : AbS μ c N o) (hF : Fr μ μ' P) (hP : ∀ q k, P q k → ¬ Pst c q k) : AbS μ' c N o := by
  have e1 : μ'.1 c 1 = μ.1 c 1 := hF.1 _ _ (fun q => hP _ _ q (Or.inl ⟨rfl, rfl⟩))
  match o, h with
  | none, h => exact e1.trans h
  | some l, h => exact ⟨e1.trans h.1, h.2.1, fun k hk => (hF.1 _ _ (fun q => hP _ _ q (Or.inr rfl))).trans (h.2.2 k hk)⟩
def fromB (L : Nat) (i n : Int32) : Bool := decide (0 ≤ i.toInt ∧ 0 ≤ n.toInt ∧ i.toInt + n.toInt ≤ L)
def sumF (l : List Int32) : Nat → Int64
  | 0 => 0
  | k + 1 => sumF l k + (l.getD k 0).toInt64
theorem i32_0le (x : Int32) : 0 ≤ x ↔ 0 ≤ x.toInt := by rw [Int32.le_iff_toInt_le]; rfl
theorem i32_lt0 (x : Int32) : x < 0 ↔ x.toInt < 0 := by rw [Int32.lt_iff_toInt_lt]; rfl
theorem rng (x : Int32) : -2147483648 ≤ x.toInt ∧ x.toInt < 2147483648 := ⟨Int32.le_toInt x, Int32.toInt_lt x⟩
theorem subI {x y : Int32} (h1 : -2147483648 ≤ x.toInt - y.toInt) (h2 : x.toInt - y.toInt < 2147483648) : (x - y).toInt = x.toInt - y.toInt := by
  rw [Int32.toInt_sub]
  exact Int.bmod_eq_of_le (by omega) (by omega)
section ST
variable {G : Gm} {μ : Mm} {c d N : Nat} {l : List Int32} {o : Option (List Int32)}
theorem s_isMissing (hS : IsS G c N) (hN : N ≤ 120) (h : AbS μ c N o) : Si mX3_isMissing (d) [.ref c] G μ (fun r μ' => μ = μ' ∧ r = b2i o.isNone) := by
  obtain ⟨hO, hr, ha⟩ := hS
  refine Si_of (ls := [.ref c]) (by decide +kernel) (Nat.le_of_ble_eq_true rfl) rfl ?_
  match o, h with
  | none, h =>
    have h : μ.1 c 1 = -1 := h
    refine J_aload_n (i := 0) qX3_isMissing_0 rfl rfl ?_
    refine J_getIe qX3_isMissing_1 fX3_7 (by assumption) (by (repeat first | with_reducible exact wI_e _ _ _ _ | (with_reducible apply rd_s; focus omega) | (with_reducible apply rd_c; focus omega) | (with_reducible apply rd_k; focus omega) | with_reducible exact rd_e (by omega)); first | done | assumption | rfl) ?_
    refine J_if_ge qX3_isMissing_4 (fun c => absurd c neg1_ne) (fun c => ?_)
    refine J_pushI qX3_isMissing_7 ?_
    refine J_goto qX3_isMissing_8 ?_
    refine Jz_ret qX3_isMissing_12 (by first | exact Or.inl rfl | exact Or.inr rfl | assumption) ?_
    exact ⟨rfl, rfl⟩
  | some l, h =>
    obtain ⟨h1, h2, h3⟩ := h
    refine J_aload_n (i := 0) qX3_isMissing_0 rfl rfl ?_
    refine J_getIe qX3_isMissing_1 fX3_7 (by assumption) (by (repeat first | with_reducible exact wI_e _ _ _ _ | (with_reducible apply rd_s; focus omega) | (with_reducible apply rd_c; focus omega) | (with_reducible apply rd_k; focus omega) | with_reducible exact rd_e (by omega)); first | done | assumption | rfl) ?_
    first | with_reducible refine J_if_ge_n qX3_isMissing_4 (by omega) ?_ | refine J_if_ge qX3_isMissing_4 (fun c => ?_) (fun c => ?_)
    refine J_pushI qX3_isMissing_11 ?_
    refine Jz_ret qX3_isMissing_12 (by first | exact Or.inl rfl | exact Or.inr rfl | assumption) ?_
    exact ⟨rfl, rfl⟩
theorem s_has (hS : IsS G c N) (hN : N ≤ 120) (h : AbL μ c N l) (i : Int32) : Si mX3_has (d) [.ref c, .int i] G μ (fun r μ' => μ = μ' ∧ r = b2i (hasB l.length i)) := by
  obtain ⟨hO, hr, ha⟩ := hS
  obtain ⟨h1, h2, h3⟩ := h
  refine Si_of (ls := [.ref c, .int i]) (by decide +kernel) (Nat.le_of_ble_eq_true rfl) rfl ?_
  refine J_iload_n (i := 1) qX3_has_0 rfl rfl ?_
  first | with_reducible refine J_if_lt_n qX3_has_1 (by omega) ?_ | refine J_if_lt qX3_has_1 (fun c1 => ?_) (fun c1 => ?_)
  · refine J_pushI qX3_has_16 ?_
    refine Jz_ret qX3_has_17 (by first | exact Or.inl rfl | exact Or.inr rfl | assumption) ?_
    exact ⟨rfl, b2i_f (decide_eq_false (fun q => absurd q.1 (Int32.not_le.mpr c1)))⟩
  · refine J_iload_n (i := 1) qX3_has_4 rfl rfl ?_
    refine J_aload_n (i := 0) qX3_has_5 rfl rfl ?_
    refine J_getIe qX3_has_6 fX3_7 (by assumption) (by (repeat first | with_reducible exact wI_e _ _ _ _ | (with_reducible apply rd_s; focus omega) | (with_reducible apply rd_c; focus omega) | (with_reducible apply rd_k; focus omega) | with_reducible exact rd_e (by omega)); first | done | assumption | rfl) ?_
    first | with_reducible refine J_icmp_ge_n qX3_has_9 (by omega) (by omega) (fun c2 => ?_) (fun c2 => ?_) | refine J_icmp_ge qX3_has_9 (fun c2 => ?_) (fun c2 => ?_)
    · refine J_pushI qX3_has_16 ?_
      refine Jz_ret qX3_has_17 (by first | exact Or.inl rfl | exact Or.inr rfl | assumption) ?_
      exact ⟨rfl, b2i_f (decide_eq_false (fun q => absurd q.2 (Int32.not_lt.mpr c2)))⟩
    · refine J_pushI qX3_has_12 ?_
      refine J_goto qX3_has_13 ?_
      refine Jz_ret qX3_has_17 (by first | exact Or.inl rfl | exact Or.inr rfl | assumption) ?_
      exact ⟨rfl, b2i_t (decide_eq_true ⟨i32_nlt c1, i32_nle c2⟩)⟩
theorem s_hasFrom (hS : IsS G c N) (hN : N ≤ 120) (h : AbL μ c N l) (i n : Int32) : Si mX3_hasFrom (d) [.ref c, .int i, .int n] G μ (fun r μ' => μ = μ' ∧ r = b2i (fromB l.length i n)) := by
  obtain ⟨hO, hr, ha⟩ := hS
  obtain ⟨h1, h2, h3⟩ := h
  have hL : (nI l.length).toInt = l.length := nI_toInt (by omega)
  have ri := rng i
  have rn := rng n
  refine Si_of (ls := [.ref c, .int i, .int n]) (by decide +kernel) (Nat.le_of_ble_eq_true rfl) rfl ?_
  have no : ¬ (0 ≤ i.toInt ∧ 0 ≤ n.toInt ∧ i.toInt + n.toInt ≤ l.length) → J mX3_hasFrom (d) (0, 0) s0 (Ki G (fun r μ' => μ = μ' ∧ r = b2i (fromB l.length i n))) (0, 0) 30 [.ref c, .int i, .int n] [] (G, μ) := fun hno => by
    refine J_pushI qX3_hasFrom_30 ?_
    refine Jz_ret qX3_hasFrom_31 (by first | exact Or.inl rfl | exact Or.inr rfl | assumption) ?_
    exact ⟨rfl, b2i_f (decide_eq_false hno)⟩
  refine J_iload_n (i := 1) qX3_hasFrom_0 rfl rfl ?_
  first | with_reducible refine J_if_lt_n qX3_hasFrom_1 (by omega) ?_ | refine J_if_lt qX3_hasFrom_1 (fun c1 => ?_) (fun c1 => ?_)
  · exact no (fun q => by have := (i32_lt0 i).mp c1; omega)
  · refine J_iload_n (i := 2) qX3_hasFrom_4 rfl rfl ?_
    first | with_reducible refine J_if_lt_n qX3_hasFrom_5 (by omega) ?_ | refine J_if_lt qX3_hasFrom_5 (fun c2 => ?_) (fun c2 => ?_)
    · exact no (fun q => by have := (i32_lt0 n).mp c2; omega)
    · rw [i32_lt0] at c1 c2
      refine J_iload_n (i := 1) qX3_hasFrom_8 rfl rfl ?_
      refine J_aload_n (i := 0) qX3_hasFrom_9 rfl rfl ?_
      refine J_getIe qX3_hasFrom_10 fX3_7 (by assumption) (by (repeat first | with_reducible exact wI_e _ _ _ _ | (with_reducible apply rd_s; focus omega) | (with_reducible apply rd_c; focus omega) | (with_reducible apply rd_k; focus omega) | with_reducible exact rd_e (by omega)); first | done | assumption | rfl) ?_
      first | with_reducible refine J_icmp_gt_n qX3_hasFrom_13 (by omega) (by omega) (fun c3 => ?_) (fun c3 => ?_) | refine J_icmp_gt qX3_hasFrom_13 (fun c3 => ?_) (fun c3 => ?_)
      · exact no (fun q => by rw [Int32.lt_iff_toInt_lt, hL] at c3; omega)
      · rw [Int32.lt_iff_toInt_lt, hL] at c3
        have hs : (nI l.length - i).toInt = l.length - i.toInt := by rw [subI (by omega) (by omega), hL]
        refine J_iload_n (i := 2) qX3_hasFrom_16 rfl rfl ?_
        refine J_aload_n (i := 0) qX3_hasFrom_17 rfl rfl ?_
        refine J_getIe qX3_hasFrom_18 fX3_7 (by assumption) (by (repeat first | with_reducible exact wI_e _ _ _ _ | (with_reducible apply rd_s; focus omega) | (with_reducible apply rd_c; focus omega) | (with_reducible apply rd_k; focus omega) | with_reducible exact rd_e (by omega)); first | done | assumption | rfl) ?_
        refine J_iload_n (i := 1) qX3_hasFrom_21 rfl rfl ?_
        first | with_reducible refine J_isub_n qX3_hasFrom_22 (by omega) ?_ | refine J_isub qX3_hasFrom_22 ?_
        first | with_reducible refine J_icmp_gt_n qX3_hasFrom_23 (by omega) (by omega) (fun c4 => ?_) (fun c4 => ?_) | refine J_icmp_gt qX3_hasFrom_23 (fun c4 => ?_) (fun c4 => ?_)
        · exact no (fun q => by rw [Int32.lt_iff_toInt_lt, hs] at c4; omega)
        · rw [Int32.lt_iff_toInt_lt, hs] at c4
          refine J_pushI qX3_hasFrom_26 ?_
          refine J_goto qX3_hasFrom_27 ?_
          refine Jz_ret qX3_hasFrom_31 (by first | exact Or.inl rfl | exact Or.inr rfl | assumption) ?_
          exact ⟨rfl, b2i_t (decide_eq_true ⟨by omega, by omega, by omega⟩)⟩
theorem gd_rep {n k : Nat} {v : Int32} (h : k < n) : (List.replicate n v).getD k 0 = v := by
  rw [List.getD_eq_getElem?_getD, List.getElem?_replicate, if_pos h]
  rfl
theorem s_fill (hS : IsS G c N) (hN : N ≤ 120) {n : Nat} (hn : n ≤ N) (v : Int32) : Sv mX3_fill (d+1) [.ref c, .int (nI n), .int v] G μ (fun μ' => AbL μ' c N (List.replicate n v) ∧ Fr μ μ' (Pst c)) := by
  obtain ⟨hO, hr, ha⟩ := hS
  refine Sv_of (ls := [.ref c, .int (nI n), .int v, .null]) (by decide +kernel) (Nat.le_of_ble_eq_true rfl) rfl ?_
  refine J_aload_n (i := 0) qX3_fill_0 rfl rfl ?_
  refine J_iload_n (i := 1) qX3_fill_1 rfl rfl ?_
  refine J_pushI qX3_fill_2 ?_
  refine J_mmax qX3_fill_3 kX3_13 (Nat.le_of_ble_eq_true rfl) ?_
  rw [if_neg (show ¬ nI n < nI 0 from nI_pos (by omega))]
  refine J_aload_n (i := 0) qX3_fill_6 rfl rfl ?_
  refine J_getR qX3_fill_7 fX3_19 (by assumption) (by assumption) ?_
  refine J_alen qX3_fill_10 (by assumption) (by decide) (by decide) ?_
  refine J_mmin qX3_fill_11 kX3_23 (Nat.le_of_ble_eq_true rfl) ?_
  rw [if_neg (nI_nlt hn (by omega))]
  refine J_putI qX3_fill_14 fX3_7p (by assumption) rfl rfl ?_
  refine J_pushI qX3_fill_17 ?_
  refine J_ist3 qX3_fill_18 (Nat.le_of_ble_eq_true rfl) rfl ?_
  have H : ∀ k, k ≤ n → ∀ ν : Mm, Fr μ ν (Pst c) → ν.1 c 1 = nI n → (∀ j, j < k → ν.1 (c + 1) j = v) → J mX3_fill (d+1) (0, 0) s0 (Kv G (fun μ' => AbL μ' c N (List.replicate n v) ∧ Fr μ μ' (Pst c))) (0, 0) 19 [.ref c, .int (nI n), .int v, .int (nI k)] [] (G, ν) := by
    refine ind_up (fun k hk ih ν hF h1 hinv => ?_)
    refine J_iload_n (i := 3) qX3_fill_19 rfl rfl ?_
    refine J_aload_n (i := 0) qX3_fill_20 rfl rfl ?_
    refine J_getIe qX3_fill_21 fX3_7 (by assumption) (by (repeat first | with_reducible exact wI_e _ _ _ _ | (with_reducible apply rd_s; focus omega) | (with_reducible apply rd_c; focus omega) | (with_reducible apply rd_k; focus omega) | with_reducible exact rd_e (by omega)); first | done | assumption | rfl) ?_
    first | with_reducible refine J_icmp_ge_n qX3_fill_24 (by omega) (by omega) (fun c1 => ?_) (fun c1 => ?_) | refine J_icmp_ge qX3_fill_24 (fun c1 => ?_) (fun c1 => ?_)
    · refine Jv_ret qX3_fill_40 ?_
      refine ⟨⟨by rw [h1]; simp, by simp; omega, fun j hj => ?_⟩, hF⟩
      simp at hj
      rw [gd_rep hj]
      exact hinv j (by omega)
    · refine J_aload_n (i := 0) qX3_fill_27 rfl rfl ?_
      refine J_getR qX3_fill_28 fX3_19 (by assumption) (by assumption) ?_
      refine J_iload_n (i := 3) qX3_fill_31 rfl rfl ?_
      refine J_iload_n (i := 2) qX3_fill_32 rfl rfl ?_
      refine J_iast qX3_fill_33 (by assumption) rfl (by omega) ?_
      refine J_inc3 qX3_fill_34 (Nat.le_of_ble_eq_true rfl) (by first | exact nI_inc _ | rfl) rfl ?_
      refine J_goto qX3_fill_37 ?_
      refine ih c1 _ (hF.w (Or.inr rfl)) ?_ (fun j hj => ?_)
      · rw [wI_n (by omega)]; exact h1
      · by_cases e : j = k
        · subst e; exact wI_e _ _ _ _
        · rw [wI_n (by omega)]; exact hinv j (by omega)
  exact H 0 (Nat.zero_le _) _ (Fr.w Fr.rf (Or.inl ⟨rfl, rfl⟩)) (wI_e _ _ _ _) (fun j hj => absurd hj (Nat.not_lt_zero j))
theorem s_drop (hS : IsS G c N) : Sv mX3_drop (d) [.ref c] G μ (fun μ' => wI μ c 1 (-1) = μ') := by
  obtain ⟨hO, hr, ha⟩ := hS
  refine Sv_of (ls := [.ref c]) (by decide +kernel) (Nat.le_of_ble_eq_true rfl) rfl ?_
  refine J_aload_n (i := 0) qX3_drop_0 rfl rfl ?_
  refine J_pushI qX3_drop_1 ?_
  refine J_putI qX3_drop_2 fX3_7p (by assumption) rfl rfl ?_
  refine Jv_ret qX3_drop_5 ?_
  rfl
theorem s_sum (hS : IsS G c N) (hN : N ≤ 120) (h : AbL μ c N l) : Sl mX3_sum (d) [.ref c] G μ (fun r μ' => μ = μ' ∧ r = sumF l l.length) := by
  obtain ⟨hO, hr, ha⟩ := hS
  obtain ⟨h1, h2, h3⟩ := h
  refine Sl_of (ls := [.ref c, .null, .null, .null]) (by decide +kernel) (Nat.le_of_ble_eq_true rfl) rfl ?_
  refine J_pushL qX3_sum_0 ?_
  refine J_lst1 qX3_sum_1 (Nat.le_of_ble_eq_true rfl) rfl ?_
  refine J_pushI qX3_sum_2 ?_
  refine J_ist3 qX3_sum_3 (Nat.le_of_ble_eq_true rfl) rfl ?_
  refine ind_up (n := l.length) (P := fun k => J mX3_sum (d) (0, 0) s0 (Kl G (fun r μ' => μ = μ' ∧ r = sumF l l.length)) (0, 0) 4 [.ref c, .long (sumF l k), .null, .int (nI k)] [] (G, μ)) (fun k hk ih => ?_) 0 (Nat.zero_le _)
  refine J_iload_n (i := 3) qX3_sum_4 rfl rfl ?_
  refine J_aload_n (i := 0) qX3_sum_5 rfl rfl ?_
  refine J_getIe qX3_sum_6 fX3_7 (by assumption) (by (repeat first | with_reducible exact wI_e _ _ _ _ | (with_reducible apply rd_s; focus omega) | (with_reducible apply rd_c; focus omega) | (with_reducible apply rd_k; focus omega) | with_reducible exact rd_e (by omega)); first | done | assumption | rfl) ?_
  first | with_reducible refine J_icmp_ge_n qX3_sum_9 (by omega) (by omega) (fun c1 => ?_) (fun c1 => ?_) | refine J_icmp_ge qX3_sum_9 (fun c1 => ?_) (fun c1 => ?_)
  · refine J_lload_n (i := 1) qX3_sum_28 rfl rfl ?_
    refine Jl_ret qX3_sum_29 ?_
    exact ⟨rfl, by rw [show k = l.length by omega]⟩
  · have e := h3 k c1
    refine J_lload_n (i := 1) qX3_sum_12 rfl rfl ?_
    refine J_aload_n (i := 0) qX3_sum_13 rfl rfl ?_
    refine J_getR qX3_sum_14 fX3_19 (by assumption) (by assumption) ?_
    refine J_iload_n (i := 3) qX3_sum_17 rfl rfl ?_
    refine J_ialde qX3_sum_18 (by assumption) rfl (by omega) (by (repeat first | with_reducible exact wI_e _ _ _ _ | (with_reducible apply rd_s; focus omega) | (with_reducible apply rd_c; focus omega) | (with_reducible apply rd_k; focus omega) | with_reducible exact rd_e (by omega)); first | done | assumption | rfl) ?_
    refine J_i2l qX3_sum_19 ?_
    refine J_ladd qX3_sum_20 ?_
    refine J_lst1 qX3_sum_21 (Nat.le_of_ble_eq_true rfl) rfl ?_
    refine J_inc3 qX3_sum_22 (Nat.le_of_ble_eq_true rfl) (by first | exact nI_inc _ | rfl) rfl ?_
    refine J_goto qX3_sum_25 ?_
    exact ih c1
end ST
