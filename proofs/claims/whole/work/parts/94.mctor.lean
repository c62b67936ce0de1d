/-! the model's constructor -/
theorem oiX6 : OI RX6 3 := ⟨lw_gm (by decide +kernel) rfl, lw_gm (by decide +kernel) rfl, lw_gm (by decide +kernel) rfl⟩
def xm0 : List Ce := xk 3 ++ [(6, clN 6, List.replicate (clN 6) none)]
def xm1 : List Ce := xm0 ++ [(10, 6, [])]
def xm2 : List Ce := xm1.set 198 (6, clN 6, [none, none, none, none, none, none, none, none, none, none, none, none, none, none, none, none, none, none, none, none, none, none, none, none, none, none, none, none, none, none, none, none, none, none, none].set 2 (some 199))
def xm3 : List Ce := xm2 ++ [(10, 6, [])]
def xm4 : List Ce := xm3.set 198 (6, clN 6, [none, none, some 199, none, none, none, none, none, none, none, none, none, none, none, none, none, none, none, none, none, none, none, none, none, none, none, none, none, none, none, none, none, none, none, none].set 3 (some 200))
def xm5 : List Ce := xm4 ++ [(10, 240, [])]
def xm6 : List Ce := xm5.set 198 (6, clN 6, [none, none, some 199, some 200, none, none, none, none, none, none, none, none, none, none, none, none, none, none, none, none, none, none, none, none, none, none, none, none, none, none, none, none, none, none, none].set 4 (some 201))
def xm7 : List Ce := xm6 ++ [(10, 40, [])]
def xm8 : List Ce := xm7.set 198 (6, clN 6, [none, none, some 199, some 200, some 201, none, none, none, none, none, none, none, none, none, none, none, none, none, none, none, none, none, none, none, none, none, none, none, none, none, none, none, none, none, none].set 5 (some 202))
def xm9 : List Ce := xm8 ++ [(10, 4, [])]
def xm10 : List Ce := xm9.set 198 (6, clN 6, [none, none, some 199, some 200, some 201, some 202, none, none, none, none, none, none, none, none, none, none, none, none, none, none, none, none, none, none, none, none, none, none, none, none, none, none, none, none, none].set 6 (some 203))
def xm11 : List Ce := xm10 ++ [(11, 480, [])]
def xm12 : List Ce := xm11.set 198 (6, clN 6, [none, none, some 199, some 200, some 201, some 202, some 203, none, none, none, none, none, none, none, none, none, none, none, none, none, none, none, none, none, none, none, none, none, none, none, none, none, none, none, none].set 7 (some 204))
def xm13 : List Ce := xm12 ++ [(10, 49, [])]
def xm14 : List Ce := xm13.set 198 (6, clN 6, [none, none, some 199, some 200, some 201, some 202, some 203, some 204, none, none, none, none, none, none, none, none, none, none, none, none, none, none, none, none, none, none, none, none, none, none, none, none, none, none, none].set 15 (some 205))
def xm15 : List Ce := xm14 ++ [(10, 49, [])]
def xm16 : List Ce := xm15.set 198 (6, clN 6, [none, none, some 199, some 200, some 201, some 202, some 203, some 204, none, none, none, none, none, none, none, some 205, none, none, none, none, none, none, none, none, none, none, none, none, none, none, none, none, none, none, none].set 17 (some 206))
def xm17 : List Ce := xm16 ++ [(11, 120, [])]
def xm18 : List Ce := xm17.set 198 (6, clN 6, [none, none, some 199, some 200, some 201, some 202, some 203, some 204, none, none, none, none, none, none, none, some 205, none, some 206, none, none, none, none, none, none, none, none, none, none, none, none, none, none, none, none, none].set 19 (some 207))
def xm19 : List Ce := xm18 ++ [(10, 1960, [])]
def xm20 : List Ce := xm19.set 198 (6, clN 6, [none, none, some 199, some 200, some 201, some 202, some 203, some 204, none, none, none, none, none, none, none, some 205, none, some 206, none, some 207, none, none, none, none, none, none, none, none, none, none, none, none, none, none, none].set 21 (some 208))
def xm21 : List Ce := xm20 ++ [(10, 3, [])]
def xm22 : List Ce := xm21.set 198 (6, clN 6, [none, none, some 199, some 200, some 201, some 202, some 203, some 204, none, none, none, none, none, none, none, some 205, none, some 206, none, some 207, none, some 208, none, none, none, none, none, none, none, none, none, none, none, none, none].set 22 (some 209))
def xm23 : List Ce := xm22 ++ [(10, 6027, [])]
def xm24 : List Ce := xm23.set 198 (6, clN 6, [none, none, some 199, some 200, some 201, some 202, some 203, some 204, none, none, none, none, none, none, none, some 205, none, some 206, none, some 207, none, some 208, some 209, none, none, none, none, none, none, none, none, none, none, none, none].set 23 (some 210))
def xm25 : List Ce := xm24 ++ [(10, 144, [])]
def xm26 : List Ce := xm25.set 198 (6, clN 6, [none, none, some 199, some 200, some 201, some 202, some 203, some 204, none, none, none, none, none, none, none, some 205, none, some 206, none, some 207, none, some 208, some 209, some 210, none, none, none, none, none, none, none, none, none, none, none].set 24 (some 211))
def xm27 : List Ce := xm26 ++ [(10, 144, [])]
def xm28 : List Ce := xm27.set 198 (6, clN 6, [none, none, some 199, some 200, some 201, some 202, some 203, some 204, none, none, none, none, none, none, none, some 205, none, some 206, none, some 207, none, some 208, some 209, some 210, some 211, none, none, none, none, none, none, none, none, none, none].set 25 (some 212))
def xm29 : List Ce := xm28 ++ [(10, 12, [])]
def xm30 : List Ce := xm29.set 198 (6, clN 6, [none, none, some 199, some 200, some 201, some 202, some 203, some 204, none, none, none, none, none, none, none, some 205, none, some 206, none, some 207, none, some 208, some 209, some 210, some 211, some 212, none, none, none, none, none, none, none, none, none].set 27 (some 213))
def xm31 : List Ce := xm30 ++ [(10, 12, [])]
def xm32 : List Ce := xm31.set 198 (6, clN 6, [none, none, some 199, some 200, some 201, some 202, some 203, some 204, none, none, none, none, none, none, none, some 205, none, some 206, none, some 207, none, some 208, some 209, some 210, some 211, some 212, none, some 213, none, none, none, none, none, none, none].set 28 (some 214))
def xm33 : List Ce := xm32 ++ [(10, 12, [])]
def xm34 : List Ce := xm33.set 198 (6, clN 6, [none, none, some 199, some 200, some 201, some 202, some 203, some 204, none, none, none, none, none, none, none, some 205, none, some 206, none, some 207, none, some 208, some 209, some 210, some 211, some 212, none, some 213, some 214, none, none, none, none, none, none].set 29 (some 215))
def xm35 : List Ce := xm34 ++ [(10, 12, [])]
def xm36 : List Ce := xm35.set 198 (6, clN 6, [none, none, some 199, some 200, some 201, some 202, some 203, some 204, none, none, none, none, none, none, none, some 205, none, some 206, none, some 207, none, some 208, some 209, some 210, some 211, some 212, none, some 213, some 214, some 215, none, none, none, none, none].set 32 (some 216))
def xm37 : List Ce := xm36 ++ [(10, 12, [])]
def xm38 : List Ce := xm37.set 198 (6, clN 6, [none, none, some 199, some 200, some 201, some 202, some 203, some 204, none, none, none, none, none, none, none, some 205, none, some 206, none, some 207, none, some 208, some 209, some 210, some 211, some 212, none, some 213, some 214, some 215, none, none, some 216, none, none].set 33 (some 217))
def xEnd : List Ce := xm38
theorem xe_O : IsO (gL xEnd) 198 6 := isO_L (rs := [none, none, some 199, some 200, some 201, some 202, some 203, some 204, none, none, none, none, none, none, none, some 205, none, some 206, none, some 207, none, some 208, some 209, some 210, some 211, some 212, none, some 213, some 214, some 215, none, none, some 216, some 217, none]) (by decide +kernel)
/-- nothing but what the loops lay: a sizes, b sizes of TEXTS, c of what is KEPT -/
def Pn (a b c : Nat) (μ μ' : Mm) : Prop := (∀ i, i < a → μ'.1 200 i = -1) ∧ (∀ i, i < b → μ'.1 203 i = -1) ∧ (∀ i, i < c → μ'.1 209 i = -1) ∧ (∀ q k, q ≠ 200 → q ≠ 203 → q ≠ 209 → μ'.1 q k = μ.1 q k) ∧ μ'.2 = μ.2
theorem Pn.n1 {a b c : Nat} {μ μ' : Mm} (h : Pn a b c μ μ') : Pn (a + 1) b c μ (wI μ' 200 a (-1)) := by
  refine ⟨fun i hi => ?_, fun i hi => (wI_n (by omega)).trans (h.2.1 i hi), fun i hi => (wI_n (by omega)).trans (h.2.2.1 i hi), fun q k h1 h2 h3 => (wI_n (by omega)).trans (h.2.2.2.1 q k h1 h2 h3), h.2.2.2.2⟩
  rcases Nat.lt_succ_iff_lt_or_eq.mp hi with hi | rfl
  · exact (wI_n (by omega)).trans (h.1 i hi)
  · exact wI_e _ _ _ _
theorem Pn.n2 {a b c : Nat} {μ μ' : Mm} (h : Pn a b c μ μ') : Pn a (b + 1) c μ (wI μ' 203 b (-1)) := by
  refine ⟨fun i hi => (wI_n (by omega)).trans (h.1 i hi), fun i hi => ?_, fun i hi => (wI_n (by omega)).trans (h.2.2.1 i hi), fun q k h1 h2 h3 => (wI_n (by omega)).trans (h.2.2.2.1 q k h1 h2 h3), h.2.2.2.2⟩
  rcases Nat.lt_succ_iff_lt_or_eq.mp hi with hi | rfl
  · exact (wI_n (by omega)).trans (h.2.1 i hi)
  · exact wI_e _ _ _ _
theorem Pn.n3 {a b c : Nat} {μ μ' : Mm} (h : Pn a b c μ μ') : Pn a b (c + 1) μ (wI μ' 209 c (-1)) := by
  refine ⟨fun i hi => (wI_n (by omega)).trans (h.1 i hi), fun i hi => (wI_n (by omega)).trans (h.2.1 i hi), fun i hi => ?_, fun q k h1 h2 h3 => (wI_n (by omega)).trans (h.2.2.2.1 q k h1 h2 h3), h.2.2.2.2⟩
  rcases Nat.lt_succ_iff_lt_or_eq.mp hi with hi | rfl
  · exact (wI_n (by omega)).trans (h.2.2.1 i hi)
  · exact wI_e _ _ _ _
def Kmd (μ : Mm) : Option Value → Wd → Prop := fun v w' => v = none ∧ ∃ μ', w' = (gL xEnd, μ') ∧ Pn 6 4 3 μ μ'
theorem lm_k {d : Nat} {μ : Mm} {cs : Nat × Nat} (h1 : cs.1 ≤ 19) (h2 : cs.2 ≤ 9332) : ∀ (f r : Nat) (μ1 : Mm), 3 - r = f → r ≤ 3 → Pn 6 4 r μ μ1 → J mX6_init d (19, 9332) s0 (Kmd μ) cs 203 [.ref 198, .int (nI r)] [] (gL xEnd, μ1) := by
  have hO := xe_O
  have hF : RF (gL xEnd) 198 22 209 := rF_L (e := (6, clN 6, [none, none, some 199, some 200, some 201, some 202, some 203, some 204, none, none, none, none, none, none, none, some 205, none, some 206, none, some 207, none, some 208, some 209, some 210, some 211, some 212, none, some 213, some 214, some 215, none, none, some 216, some 217, none])) (by decide +kernel) rfl
  have hA : IsA (gL xEnd) 209 10 3 := isA_L (rs := []) (by decide +kernel) (by decide)
  intro f
  induction f with
  | zero =>
    intro r μ1 hf hr hp
    have hr6 : r = 3 := by omega
    subst hr6
    refine J_iload_n (i := 1) qX6_init_203 rfl rfl ?_
    refine J_pushI qX6_init_204 ?_
    refine J_icmp_ge_n qX6_init_205 (by omega) (by omega) (fun c => ?_) (fun c => absurd c (Nat.lt_irrefl _))
    exact J_vret qX6_init_221.1 qX6_init_221.2 h1 h2 ⟨rfl, μ1, rfl, hp⟩
  | succ f ih =>
    intro r μ1 hf hr hp
    have hlt : r < 3 := by omega
    refine J_iload_n (i := 1) qX6_init_203 rfl rfl ?_
    refine J_pushI qX6_init_204 ?_
    refine J_icmp_ge_n qX6_init_205 (by omega) (by omega) (fun c => absurd hlt (by omega)) (fun c => ?_)
    refine J_aload_n (i := 0) qX6_init_208 rfl rfl ?_
    refine J_getR qX6_init_209 fX6_41 hO hF ?_
    refine J_iload_n (i := 1) qX6_init_212 rfl rfl ?_
    refine J_pushI qX6_init_213 ?_
    refine J_iast qX6_init_214 hA rfl hlt ?_
    refine J_inc1 qX6_init_215 (Nat.le_of_ble_eq_true rfl) (by first | with_reducible exact nI_inc _ | rfl) rfl ?_
    refine J_goto qX6_init_218 ?_
    exact ih (r + 1) _ (by omega) hlt hp.n3
theorem lm_t {d : Nat} {μ : Mm} {cs : Nat × Nat} (h1 : cs.1 ≤ 19) (h2 : cs.2 ≤ 9332) : ∀ (f r : Nat) (μ1 : Mm), 4 - r = f → r ≤ 4 → Pn 6 r 0 μ μ1 → J mX6_init d (19, 9332) s0 (Kmd μ) cs 183 [.ref 198, .int (nI r)] [] (gL xEnd, μ1) := by
  have hO := xe_O
  have hF : RF (gL xEnd) 198 6 203 := rF_L (e := (6, clN 6, [none, none, some 199, some 200, some 201, some 202, some 203, some 204, none, none, none, none, none, none, none, some 205, none, some 206, none, some 207, none, some 208, some 209, some 210, some 211, some 212, none, some 213, some 214, some 215, none, none, some 216, some 217, none])) (by decide +kernel) rfl
  have hA : IsA (gL xEnd) 203 10 4 := isA_L (rs := []) (by decide +kernel) (by decide)
  intro f
  induction f with
  | zero =>
    intro r μ1 hf hr hp
    have hr6 : r = 4 := by omega
    subst hr6
    refine J_iload_n (i := 1) qX6_init_183 rfl rfl ?_
    refine J_pushI qX6_init_184 ?_
    refine J_icmp_ge_n qX6_init_185 (by omega) (by omega) (fun c => ?_) (fun c => absurd c (Nat.lt_irrefl _))
    refine J_pushI qX6_init_201 ?_
    refine J_ist1 qX6_init_202 (Nat.le_of_ble_eq_true rfl) rfl ?_
    exact lm_k h1 h2 3 0 μ1 rfl (by decide) hp
  | succ f ih =>
    intro r μ1 hf hr hp
    have hlt : r < 4 := by omega
    refine J_iload_n (i := 1) qX6_init_183 rfl rfl ?_
    refine J_pushI qX6_init_184 ?_
    refine J_icmp_ge_n qX6_init_185 (by omega) (by omega) (fun c => absurd hlt (by omega)) (fun c => ?_)
    refine J_aload_n (i := 0) qX6_init_188 rfl rfl ?_
    refine J_getR qX6_init_189 fX6_22 hO hF ?_
    refine J_iload_n (i := 1) qX6_init_192 rfl rfl ?_
    refine J_pushI qX6_init_193 ?_
    refine J_iast qX6_init_194 hA rfl hlt ?_
    refine J_inc1 qX6_init_195 (Nat.le_of_ble_eq_true rfl) (by first | with_reducible exact nI_inc _ | rfl) rfl ?_
    refine J_goto qX6_init_198 ?_
    exact ih (r + 1) _ (by omega) hlt hp.n2
theorem lm_r {d : Nat} {μ : Mm} {cs : Nat × Nat} (h1 : cs.1 ≤ 19) (h2 : cs.2 ≤ 9332) : ∀ (f r : Nat) (μ1 : Mm), 6 - r = f → r ≤ 6 → Pn r 0 0 μ μ1 → J mX6_init d (19, 9332) s0 (Kmd μ) cs 162 [.ref 198, .int (nI r)] [] (gL xEnd, μ1) := by
  have hO := xe_O
  have hF : RF (gL xEnd) 198 3 200 := rF_L (e := (6, clN 6, [none, none, some 199, some 200, some 201, some 202, some 203, some 204, none, none, none, none, none, none, none, some 205, none, some 206, none, some 207, none, some 208, some 209, some 210, some 211, some 212, none, some 213, some 214, some 215, none, none, some 216, some 217, none])) (by decide +kernel) rfl
  have hA : IsA (gL xEnd) 200 10 6 := isA_L (rs := []) (by decide +kernel) (by decide)
  intro f
  induction f with
  | zero =>
    intro r μ1 hf hr hp
    have hr6 : r = 6 := by omega
    subst hr6
    refine J_iload_n (i := 1) qX6_init_162 rfl rfl ?_
    refine J_pushI qX6_init_163 ?_
    refine J_icmp_ge_n qX6_init_165 (by omega) (by omega) (fun c => ?_) (fun c => absurd c (Nat.lt_irrefl _))
    refine J_pushI qX6_init_181 ?_
    refine J_ist1 qX6_init_182 (Nat.le_of_ble_eq_true rfl) rfl ?_
    exact lm_t h1 h2 4 0 μ1 rfl (by decide) hp
  | succ f ih =>
    intro r μ1 hf hr hp
    have hlt : r < 6 := by omega
    refine J_iload_n (i := 1) qX6_init_162 rfl rfl ?_
    refine J_pushI qX6_init_163 ?_
    refine J_icmp_ge_n qX6_init_165 (by omega) (by omega) (fun c => absurd hlt (by omega)) (fun c => ?_)
    refine J_aload_n (i := 0) qX6_init_168 rfl rfl ?_
    refine J_getR qX6_init_169 fX6_13 hO hF ?_
    refine J_iload_n (i := 1) qX6_init_172 rfl rfl ?_
    refine J_pushI qX6_init_173 ?_
    refine J_iast qX6_init_174 hA rfl hlt ?_
    refine J_inc1 qX6_init_175 (Nat.le_of_ble_eq_true rfl) (by first | with_reducible exact nI_inc _ | rfl) rfl ?_
    refine J_goto qX6_init_178 ?_
    exact ih (r + 1) _ (by omega) hlt hp.n1
theorem ct_m {d : Nat} {μ : Mm} (hz : Zr μ 198) : C mX6_init d (19, 9332) [.ref 198] (gL (xk 3 ++ [(6, clN 6, List.replicate (clN 6) none)]), μ) (Kmd μ) := by
  refine C_of_J (ls := [.ref 198, .null]) (by decide +kernel) (Nat.le_of_ble_eq_true rfl) rfl ?_
  show J mX6_init d (19, 9332) s0 (Kmd μ) (0, 0) 0 [.ref 198, .null] [] (gL xm0, μ)
  refine J_aload_n (i := 0) qX6_init_0 rfl rfl ?_
  refine J_oinit qX6_init_1 oiX6 (Nat.le_of_ble_eq_true rfl) ?_
  refine J_aload_n (i := 0) qX6_init_4 rfl rfl ?_
  refine J_pushI qX6_init_5 ?_
  refine A_newA (X := xm0) (X' := xm1) (r := 199) (n := 6) qX6_init_7 na_i rfl (by decide) (by decide +kernel) (by decide +kernel) (by decide) (hz.le (by decide)) (old_b (by rfl)) (by decide) (by decide) rfl ?_
  refine J_putR (X := xm1) (X' := xm2) (a := 198) (r := 199) (rs := [none, none, none, none, none, none, none, none, none, none, none, none, none, none, none, none, none, none, none, none, none, none, none, none, none, none, none, none, none, none, none, none, none, none, none]) qX6_init_9 ⟨fX6_9, rfl, rfl, rfl⟩ (by decide +kernel) (by decide) rfl ?_
  refine J_aload_n (i := 0) qX6_init_12 rfl rfl ?_
  refine J_pushI qX6_init_13 ?_
  refine A_newA (X := xm2) (X' := xm3) (r := 200) (n := 6) qX6_init_15 na_i rfl (by decide) (by decide +kernel) (by decide +kernel) (by decide) (hz.le (by decide)) (old_b (by rfl)) (by decide) (by decide) rfl ?_
  refine J_putR (X := xm3) (X' := xm4) (a := 198) (r := 200) (rs := [none, none, some 199, none, none, none, none, none, none, none, none, none, none, none, none, none, none, none, none, none, none, none, none, none, none, none, none, none, none, none, none, none, none, none, none]) qX6_init_17 ⟨fX6_13, rfl, rfl, rfl⟩ (by decide +kernel) (by decide) rfl ?_
  refine J_aload_n (i := 0) qX6_init_20 rfl rfl ?_
  refine J_pushI qX6_init_21 ?_
  refine A_newA (X := xm4) (X' := xm5) (r := 201) (n := 240) qX6_init_24 na_i rfl (by decide) (by decide +kernel) (by decide +kernel) (by decide) (hz.le (by decide)) (old_b (by rfl)) (by decide) (by decide) rfl ?_
  refine J_putR (X := xm5) (X' := xm6) (a := 198) (r := 201) (rs := [none, none, some 199, some 200, none, none, none, none, none, none, none, none, none, none, none, none, none, none, none, none, none, none, none, none, none, none, none, none, none, none, none, none, none, none, none]) qX6_init_26 ⟨fX6_16, rfl, rfl, rfl⟩ (by decide +kernel) (by decide) rfl ?_
  refine J_aload_n (i := 0) qX6_init_29 rfl rfl ?_
  refine J_pushI qX6_init_30 ?_
  refine A_newA (X := xm6) (X' := xm7) (r := 202) (n := 40) qX6_init_32 na_i rfl (by decide) (by decide +kernel) (by decide +kernel) (by decide) (hz.le (by decide)) (old_b (by rfl)) (by decide) (by decide) rfl ?_
  refine J_putR (X := xm7) (X' := xm8) (a := 198) (r := 202) (rs := [none, none, some 199, some 200, some 201, none, none, none, none, none, none, none, none, none, none, none, none, none, none, none, none, none, none, none, none, none, none, none, none, none, none, none, none, none, none]) qX6_init_34 ⟨fX6_19, rfl, rfl, rfl⟩ (by decide +kernel) (by decide) rfl ?_
  refine J_aload_n (i := 0) qX6_init_37 rfl rfl ?_
  refine J_pushI qX6_init_38 ?_
  refine A_newA (X := xm8) (X' := xm9) (r := 203) (n := 4) qX6_init_39 na_i rfl (by decide) (by decide +kernel) (by decide +kernel) (by decide) (hz.le (by decide)) (old_b (by rfl)) (by decide) (by decide) rfl ?_
  refine J_putR (X := xm9) (X' := xm10) (a := 198) (r := 203) (rs := [none, none, some 199, some 200, some 201, some 202, none, none, none, none, none, none, none, none, none, none, none, none, none, none, none, none, none, none, none, none, none, none, none, none, none, none, none, none, none]) qX6_init_41 ⟨fX6_22, rfl, rfl, rfl⟩ (by decide +kernel) (by decide) rfl ?_
  refine J_aload_n (i := 0) qX6_init_44 rfl rfl ?_
  refine J_pushI qX6_init_45 ?_
  refine A_newA (X := xm10) (X' := xm11) (r := 204) (n := 480) qX6_init_48 na_b rfl (by decide) (by decide +kernel) (by decide +kernel) (by decide) (hz.le (by decide)) (old_b (by rfl)) (by decide) (by decide) rfl ?_
  refine J_putR (X := xm11) (X' := xm12) (a := 198) (r := 204) (rs := [none, none, some 199, some 200, some 201, some 202, some 203, none, none, none, none, none, none, none, none, none, none, none, none, none, none, none, none, none, none, none, none, none, none, none, none, none, none, none, none]) qX6_init_50 ⟨fX6_25, rfl, rfl, rfl⟩ (by decide +kernel) (by decide) rfl ?_
  refine J_aload_n (i := 0) qX6_init_53 rfl rfl ?_
  refine J_pushI qX6_init_54 ?_
  refine A_newA (X := xm12) (X' := xm13) (r := 205) (n := 49) qX6_init_56 na_i rfl (by decide) (by decide +kernel) (by decide +kernel) (by decide) (hz.le (by decide)) (old_b (by rfl)) (by decide) (by decide) rfl ?_
  refine J_putR (X := xm13) (X' := xm14) (a := 198) (r := 205) (rs := [none, none, some 199, some 200, some 201, some 202, some 203, some 204, none, none, none, none, none, none, none, none, none, none, none, none, none, none, none, none, none, none, none, none, none, none, none, none, none, none, none]) qX6_init_58 ⟨fX6_29, rfl, rfl, rfl⟩ (by decide +kernel) (by decide) rfl ?_
  refine J_aload_n (i := 0) qX6_init_61 rfl rfl ?_
  refine J_pushI qX6_init_62 ?_
  refine A_newA (X := xm14) (X' := xm15) (r := 206) (n := 49) qX6_init_64 na_i rfl (by decide) (by decide +kernel) (by decide +kernel) (by decide) (hz.le (by decide)) (old_b (by rfl)) (by decide) (by decide) rfl ?_
  refine J_putR (X := xm15) (X' := xm16) (a := 198) (r := 206) (rs := [none, none, some 199, some 200, some 201, some 202, some 203, some 204, none, none, none, none, none, none, none, some 205, none, none, none, none, none, none, none, none, none, none, none, none, none, none, none, none, none, none, none]) qX6_init_66 ⟨fX6_32, rfl, rfl, rfl⟩ (by decide +kernel) (by decide) rfl ?_
  refine J_aload_n (i := 0) qX6_init_69 rfl rfl ?_
  refine J_pushI qX6_init_70 ?_
  refine A_newA (X := xm16) (X' := xm17) (r := 207) (n := 120) qX6_init_72 na_b rfl (by decide) (by decide +kernel) (by decide +kernel) (by decide) (hz.le (by decide)) (old_b (by rfl)) (by decide) (by decide) rfl ?_
  refine J_putR (X := xm17) (X' := xm18) (a := 198) (r := 207) (rs := [none, none, some 199, some 200, some 201, some 202, some 203, some 204, none, none, none, none, none, none, none, some 205, none, some 206, none, none, none, none, none, none, none, none, none, none, none, none, none, none, none, none, none]) qX6_init_74 ⟨fX6_35, rfl, rfl, rfl⟩ (by decide +kernel) (by decide) rfl ?_
  refine J_aload_n (i := 0) qX6_init_77 rfl rfl ?_
  refine J_pushI qX6_init_78 ?_
  refine A_newA (X := xm18) (X' := xm19) (r := 208) (n := 1960) qX6_init_81 na_i rfl (by decide) (by decide +kernel) (by decide +kernel) (by decide) (hz.le (by decide)) (old_b (by rfl)) (by decide) (by decide) rfl ?_
  refine J_putR (X := xm19) (X' := xm20) (a := 198) (r := 208) (rs := [none, none, some 199, some 200, some 201, some 202, some 203, some 204, none, none, none, none, none, none, none, some 205, none, some 206, none, some 207, none, none, none, none, none, none, none, none, none, none, none, none, none, none, none]) qX6_init_83 ⟨fX6_38, rfl, rfl, rfl⟩ (by decide +kernel) (by decide) rfl ?_
  refine J_aload_n (i := 0) qX6_init_86 rfl rfl ?_
  refine J_pushI qX6_init_87 ?_
  refine A_newA (X := xm20) (X' := xm21) (r := 209) (n := 3) qX6_init_88 na_i rfl (by decide) (by decide +kernel) (by decide +kernel) (by decide) (hz.le (by decide)) (old_b (by rfl)) (by decide) (by decide) rfl ?_
  refine J_putR (X := xm21) (X' := xm22) (a := 198) (r := 209) (rs := [none, none, some 199, some 200, some 201, some 202, some 203, some 204, none, none, none, none, none, none, none, some 205, none, some 206, none, some 207, none, some 208, none, none, none, none, none, none, none, none, none, none, none, none, none]) qX6_init_90 ⟨fX6_41, rfl, rfl, rfl⟩ (by decide +kernel) (by decide) rfl ?_
  refine J_aload_n (i := 0) qX6_init_93 rfl rfl ?_
  refine J_pushI qX6_init_94 ?_
  refine A_newA (X := xm22) (X' := xm23) (r := 210) (n := 6027) qX6_init_97 na_i rfl (by decide) (by decide +kernel) (by decide +kernel) (by decide) (hz.le (by decide)) (old_b (by rfl)) (by decide) (by decide) rfl ?_
  refine J_putR (X := xm23) (X' := xm24) (a := 198) (r := 210) (rs := [none, none, some 199, some 200, some 201, some 202, some 203, some 204, none, none, none, none, none, none, none, some 205, none, some 206, none, some 207, none, some 208, some 209, none, none, none, none, none, none, none, none, none, none, none, none]) qX6_init_99 ⟨fX6_44, rfl, rfl, rfl⟩ (by decide +kernel) (by decide) rfl ?_
  refine J_aload_n (i := 0) qX6_init_102 rfl rfl ?_
  refine J_pushI qX6_init_103 ?_
  refine A_newA (X := xm24) (X' := xm25) (r := 211) (n := 144) qX6_init_106 na_i rfl (by decide) (by decide +kernel) (by decide +kernel) (by decide) (hz.le (by decide)) (old_b (by rfl)) (by decide) (by decide) rfl ?_
  refine J_putR (X := xm25) (X' := xm26) (a := 198) (r := 211) (rs := [none, none, some 199, some 200, some 201, some 202, some 203, some 204, none, none, none, none, none, none, none, some 205, none, some 206, none, some 207, none, some 208, some 209, some 210, none, none, none, none, none, none, none, none, none, none, none]) qX6_init_108 ⟨fX6_47, rfl, rfl, rfl⟩ (by decide +kernel) (by decide) rfl ?_
  refine J_aload_n (i := 0) qX6_init_111 rfl rfl ?_
  refine J_pushI qX6_init_112 ?_
  refine A_newA (X := xm26) (X' := xm27) (r := 212) (n := 144) qX6_init_115 na_i rfl (by decide) (by decide +kernel) (by decide +kernel) (by decide) (hz.le (by decide)) (old_b (by rfl)) (by decide) (by decide) rfl ?_
  refine J_putR (X := xm27) (X' := xm28) (a := 198) (r := 212) (rs := [none, none, some 199, some 200, some 201, some 202, some 203, some 204, none, none, none, none, none, none, none, some 205, none, some 206, none, some 207, none, some 208, some 209, some 210, some 211, none, none, none, none, none, none, none, none, none, none]) qX6_init_117 ⟨fX6_50, rfl, rfl, rfl⟩ (by decide +kernel) (by decide) rfl ?_
  refine J_aload_n (i := 0) qX6_init_120 rfl rfl ?_
  refine J_pushI qX6_init_121 ?_
  refine A_newA (X := xm28) (X' := xm29) (r := 213) (n := 12) qX6_init_123 na_i rfl (by decide) (by decide +kernel) (by decide +kernel) (by decide) (hz.le (by decide)) (old_b (by rfl)) (by decide) (by decide) rfl ?_
  refine J_putR (X := xm29) (X' := xm30) (a := 198) (r := 213) (rs := [none, none, some 199, some 200, some 201, some 202, some 203, some 204, none, none, none, none, none, none, none, some 205, none, some 206, none, some 207, none, some 208, some 209, some 210, some 211, some 212, none, none, none, none, none, none, none, none, none]) qX6_init_125 ⟨fX6_53, rfl, rfl, rfl⟩ (by decide +kernel) (by decide) rfl ?_
  refine J_aload_n (i := 0) qX6_init_128 rfl rfl ?_
  refine J_pushI qX6_init_129 ?_
  refine A_newA (X := xm30) (X' := xm31) (r := 214) (n := 12) qX6_init_131 na_i rfl (by decide) (by decide +kernel) (by decide +kernel) (by decide) (hz.le (by decide)) (old_b (by rfl)) (by decide) (by decide) rfl ?_
  refine J_putR (X := xm31) (X' := xm32) (a := 198) (r := 214) (rs := [none, none, some 199, some 200, some 201, some 202, some 203, some 204, none, none, none, none, none, none, none, some 205, none, some 206, none, some 207, none, some 208, some 209, some 210, some 211, some 212, none, some 213, none, none, none, none, none, none, none]) qX6_init_133 ⟨fX6_56, rfl, rfl, rfl⟩ (by decide +kernel) (by decide) rfl ?_
  refine J_aload_n (i := 0) qX6_init_136 rfl rfl ?_
  refine J_pushI qX6_init_137 ?_
  refine A_newA (X := xm32) (X' := xm33) (r := 215) (n := 12) qX6_init_139 na_i rfl (by decide) (by decide +kernel) (by decide +kernel) (by decide) (hz.le (by decide)) (old_b (by rfl)) (by decide) (by decide) rfl ?_
  refine J_putR (X := xm33) (X' := xm34) (a := 198) (r := 215) (rs := [none, none, some 199, some 200, some 201, some 202, some 203, some 204, none, none, none, none, none, none, none, some 205, none, some 206, none, some 207, none, some 208, some 209, some 210, some 211, some 212, none, some 213, some 214, none, none, none, none, none, none]) qX6_init_141 ⟨fX6_59, rfl, rfl, rfl⟩ (by decide +kernel) (by decide) rfl ?_
  refine J_aload_n (i := 0) qX6_init_144 rfl rfl ?_
  refine J_pushI qX6_init_145 ?_
  refine A_newA (X := xm34) (X' := xm35) (r := 216) (n := 12) qX6_init_147 na_i rfl (by decide) (by decide +kernel) (by decide +kernel) (by decide) (hz.le (by decide)) (old_b (by rfl)) (by decide) (by decide) rfl ?_
  refine J_putR (X := xm35) (X' := xm36) (a := 198) (r := 216) (rs := [none, none, some 199, some 200, some 201, some 202, some 203, some 204, none, none, none, none, none, none, none, some 205, none, some 206, none, some 207, none, some 208, some 209, some 210, some 211, some 212, none, some 213, some 214, some 215, none, none, none, none, none]) qX6_init_149 ⟨fX6_62, rfl, rfl, rfl⟩ (by decide +kernel) (by decide) rfl ?_
  refine J_aload_n (i := 0) qX6_init_152 rfl rfl ?_
  refine J_pushI qX6_init_153 ?_
  refine A_newA (X := xm36) (X' := xm37) (r := 217) (n := 12) qX6_init_155 na_i rfl (by decide) (by decide +kernel) (by decide +kernel) (by decide) (hz.le (by decide)) (old_b (by rfl)) (by decide) (by decide) rfl ?_
  refine J_putR (X := xm37) (X' := xm38) (a := 198) (r := 217) (rs := [none, none, some 199, some 200, some 201, some 202, some 203, some 204, none, none, none, none, none, none, none, some 205, none, some 206, none, some 207, none, some 208, some 209, some 210, some 211, some 212, none, some 213, some 214, some 215, none, none, some 216, none, none]) qX6_init_157 ⟨fX6_65, rfl, rfl, rfl⟩ (by decide +kernel) (by decide) rfl ?_
  refine J_pushI qX6_init_160 ?_
  refine J_ist1 qX6_init_161 (Nat.le_of_ble_eq_true rfl) rfl ?_
  exact lm_r (by decide) (by decide) 6 0 μ rfl (by decide) ⟨fun i hi => absurd hi (Nat.not_lt_zero _), fun i hi => absurd hi (Nat.not_lt_zero _), fun i hi => absurd hi (Nat.not_lt_zero _), fun _ _ _ _ _ => rfl, rfl⟩
