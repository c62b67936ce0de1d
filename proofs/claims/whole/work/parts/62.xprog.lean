/-! COMPONENT: fault, program, write -/
theorem tl_er {T : List Int32} {p e : Nat} (hp : p ≤ T.length) (h : tlF T p = .error e) : e ≤ T.length := by
  have h1 := tkE_ge hp
  have h2 := tkE_ge h1.2
  have s0 := tkS_le hp
  have s1 := tkS_le h1.2
  have s2 := tkS_le h2.2
  unfold tlF at h
  split at h
  · cases h; omega
  · split at h
    · cases h; omega
    · split at h
      · cases h
      · cases h; omega
theorem nb_er {T : List Int32} {p e : Nat} {cs : List Cs} {sp : Bool} (hp : p ≤ T.length) (h : nbF T p cs sp = .error e) : e ≤ T.length := by
  have h1 := tkE_ge hp
  have s0 := tkS_le hp
  have s1 := tkS_le h1.2
  unfold nbF at h
  split at h
  · cases h; omega
  · split at h
    · cases h; omega
    · split at h
      · cases h
      · split at h
        · cases h; omega
        · split at h
          · cases h; omega
          · cases h
theorem nm_er {T : List Int32} {p e : Nat} {cs : List Cs} (hp : p ≤ T.length) (h : nmF T p cs = .error e) : e ≤ T.length := by
  have s0 := tkS_le hp
  unfold nmF at h
  split at h
  · split at h
    · cases h; omega
    · cases h
  · cases h; omega
theorem rs_er {T : List Int32} {s p e : Nat} {rt : Bool} (hp : p ≤ T.length) (hs : s ≤ T.length) (h : rsF T s p rt = .error e) : e ≤ T.length := by
  have h1 := tkE_ge hp
  have s0 := tkS_le hp
  have s1 := tkS_le h1.2
  unfold rsF at h
  split at h
  · cases h; omega
  · split at h
    · cases h; omega
    · split at h
      · cases h
      · cases h; omega
theorem stm_er {T : List Int32} {p e : Nat} {cs : List Cs} {rt : Bool} {rest : Nat} (hp : p ≤ T.length) (h : stmF T p cs rt rest = .error e) : e ≤ T.length := by
  have h1 := tkE_ge hp
  have s0 := tkS_le hp
  unfold stmF at h
  split at h
  · split at h
    · split at h
      · rename_i e1 h2
        cases h
        exact rs_er h1.2 s0.2 h2
      · cases h
    · split at h
      · split at h
        · rename_i e1 h2
          cases h
          split at h2
          · exact nm_er h1.2 h2
          · exact nb_er h1.2 h2
        · rename_i x h2
          have hx : x.2.2 ≤ T.length := by
            split at h2
            · exact (nm_ge h1.2 h2).2
            · exact (nb_ge h1.2 h2).2
          split at h
          · rename_i e1 h3
            cases h
            exact tl_er hx h3
          · cases h
      · cases h; omega
  · cases h; omega
theorem pr_er {T : List Int32} : ∀ (f : Nat) {p e : Nat} {cs : List Cs} {rt : Bool} {rest : Nat}, p ≤ T.length → prF T f p cs rt rest = .error e → e ≤ T.length
  | 0, p, e, cs, rt, rest, hp, h => by
    have s0 := tkS_le hp
    cases h
    omega
  | f + 1, p, e, cs, rt, rest, hp, h => by
    by_cases c : tkK T p = 0
    · rw [prF_end c] at h; cases h
    · cases hs : stmF T p cs rt rest with
      | error e1 =>
        rw [prF_err c hs] at h
        cases h
        exact stm_er hp hs
      | ok x =>
        rw [prF_ok c hs] at h
        exact pr_er f (stm_gt hp hs).2 h
theorem par_er {T : List Int32} {e : Nat} (h : parF T = .error e) : e ≤ T.length := pr_er 121 (Nat.zero_le _) h
theorem nI_m9 {m : Nat} (h : m < 2147483648) : ¬ nI m = -9 := fun q => by
  have := congrArg Int32.toInt q
  rw [nI_toInt h, show (-9 : Int32).toInt = -9 from rfl] at this
  omega
def fltV (T : List Int32) : Int32 := match parF T with
  | .error e => nI e
  | .ok _ => -9
theorem fltV_e {T : List Int32} {e : Nat} (h : parF T = .error e) : fltV T = nI e := by unfold fltV; rw [h]
theorem fltV_o {T : List Int32} {x : List Cs × Nat} (h : parF T = .ok x) : fltV T = -9 := by unfold fltV; rw [h]
def faultS (s : St) (t : Int32) : Int32 × St :=
  if hasB 4 t = false then (-1, s) else match sTx s (ix t) with
    | none => (-3, uFnd s 1)
    | some T => (fltV T, s)
def uNew (s : St) (cs : List Cs) (rest : Nat) : St := ((cs, []), rest, sRw s, sTx s, fun _ => none, sAk s, sMk s, sLt s, sTm s)
def prgV (s : St) (T : List Int32) : Int32 × St := match parF T with
  | .error _ => (-4, s)
  | .ok x => (nI x.1.length, uNew s x.1 x.2)
theorem prgV_e {s : St} {T : List Int32} {e : Nat} (h : parF T = .error e) : prgV s T = (-4, s) := by unfold prgV; rw [h]
theorem prgV_o {s : St} {T : List Int32} {x : List Cs × Nat} (h : parF T = .ok x) : prgV s T = (nI x.1.length, uNew s x.1 x.2) := by unfold prgV; rw [h]
def programS (s : St) (t : Int32) : Int32 × St :=
  if hasB 4 t = false then (-1, s) else match sTx s (ix t) with
    | none => (-3, uFnd s 1)
    | some T => prgV s T
def writeS (s : St) (t : Int32) : Int32 × St :=
  if hasB 4 t = false then (-1, s) else if 120 < (outB (sP s).1 (sR s)).length then (-6, s) else (nI (outB (sP s).1 (sR s)).length, uTxt s (ix t) (some (outB (sP s).1 (sR s))))
theorem outB_len (cs : List Cs) (rest : Nat) (h : cs.length ≤ 12) : (outB cs rest).length ≤ 800 := by
  unfold outB rstB
  have h1 := outA_len cs cs.length
  have h2 := nmB_len (nI rest)
  have h3 := wordS_len 0 (by omega)
  rw [List.length_append]
  split
  · simp; omega
  · rw [List.length_append, List.length_append]
    simp only [List.length_cons, List.length_nil]
    omega
section XX
variable {s : St} {j : Nat} {l : List Int32}
theorem faultS_n (hb : hasB 4 (nI j) = true) (hj : j < 4) (ho : sTx s j = none) : faultS s (nI j) = (-3, uFnd s 1) := by
  unfold faultS; rw [if_neg (by rw [hb]; decide), ix_n (by omega), ho]
theorem faultS_s (hb : hasB 4 (nI j) = true) (hj : j < 4) (ho : sTx s j = some l) : faultS s (nI j) = (fltV l, s) := by
  unfold faultS; rw [if_neg (by rw [hb]; decide), ix_n (by omega), ho]
theorem programS_n (hb : hasB 4 (nI j) = true) (hj : j < 4) (ho : sTx s j = none) : programS s (nI j) = (-3, uFnd s 1) := by
  unfold programS; rw [if_neg (by rw [hb]; decide), ix_n (by omega), ho]
theorem programS_s (hb : hasB 4 (nI j) = true) (hj : j < 4) (ho : sTx s j = some l) : programS s (nI j) = prgV s l := by
  unfold programS; rw [if_neg (by rw [hb]; decide), ix_n (by omega), ho]
end XX
theorem RelX.z {μ μ' : Mm} {s : St} (h : RelX μ s) (hF : FrZ 27 16 μ μ') : RelX μ' s ∧ FrX μ μ' := h.free (fun c k z => hF.1 _ _ (by omega)) (fun c k z => hF.2 _ _ (by omega))
theorem AbH.nil {μ : Mm} {b : Nat} {cs : List Cs} (h : μ.1 b 12 = nI 0) : AbH μ b cs [] := ⟨h, Nat.zero_le _, fun e he => absurd he (Nat.not_lt_zero e)⟩
/-- a new PROGRAM: kept ones go -/
theorem RelX.new {μ μ' : Mm} {s : St} {cs : List Cs} {rest : Nat} (h : RelX μ s) (hF : ∀ c k, ¬ ((3 ≤ c ∧ c ≤ 13) ∨ c = 15 ∨ (c = 0 ∧ k = 11)) → μ'.1 c k = μ.1 c k) (hG : μ'.2 = μ.2) (hX : XP μ' 3 (cs, []) rest) (h15 : ∀ k, k < 3 → μ'.1 15 k = nI 0) (h11 : μ'.1 0 11 = nI 1) (hr : rest < 10) : RelX μ' (uNew s cs rest) ∧ FrX μ μ' := by
  obtain ⟨h1, h2, h3, h4, h5, h6, h7⟩ := (RelX_eq μ s).mp h
  have ag : ∀ lo hi, 15 < lo → Ag μ μ' lo hi := fun lo hi a c k x y => hF _ _ (by omega)
  refine ⟨(RelX_eq _ _).mpr ⟨h1.ag (ag _ _ (by omega)), h2.ag (ag _ _ (by omega)), hX, fun k hk => h15 k hk, ⟨?_, ?_, ?_, fun g hg => ?_⟩, Or.inl h11, hr⟩, fun c k hc => hF _ _ (by omega), fun c k hc => by rw [hG]⟩
  · rw [hF _ _ (by omega)]; exact h5.1
  · rw [hG]; exact h5.2.1
  · rw [hF _ _ (by omega)]; exact h5.2.2.1
  · rw [hF _ _ (by omega)]; exact h5.2.2.2 g hg
section XX
variable {G : Gm} {μ : Mm} {d : Nat} {s : St}
theorem x_fault (hL : LayX G) (h : RelX μ s) (r : Int32) : Si mX5_fault (d+7) [.ref 0, .int r] G μ (fun q μ' => q = (faultS s r).1 ∧ RelX μ' (faultS s r).2 ∧ FrX μ μ') := by
  have hL0 := hL
  obtain ⟨hO, ⟨q0, q1, q2, q3, q4, q5, q6, q7, q8, q9, q10⟩, ⟨a1, a2, a3, a4, a5⟩, -, htx, -, hp3, hp16, hrd, -⟩ := hL
  refine Si_of (ls := [.ref 0, .int r]) (by decide +kernel) (Nat.le_of_ble_eq_true rfl) rfl ?_
  refine J_iload_n (i := 1) qX5_fault_0 rfl rfl ?_
  refine J_si1 qX5_fault_1 kX5_124 (x_isText r) (Nat.le_of_ble_eq_true rfl) (fun v1 μ' hr => ?_)
  obtain ⟨rfl, rfl⟩ := hr
  cases hb : hasB 4 r with
  | false =>
    first | refine J_if_ne qX5_fault_4 (fun c => absurd b2i_f0 c) (fun _ => ?_) | refine J_if_ne qX5_fault_4 (fun _ => ?_) (fun c => absurd c b2i_t0)
    refine J_pushI qX5_fault_7 ?_
    refine Ji_ret qX5_fault_8 ?_
    rw [show faultS s r = (-1, s) from if_pos hb]
    exact ⟨rfl, h, FrX.rf⟩
  | true =>
    first | refine J_if_ne qX5_fault_4 (fun c => absurd b2i_f0 c) (fun _ => ?_) | refine J_if_ne qX5_fault_4 (fun _ => ?_) (fun c => absurd c b2i_t0)
    obtain ⟨j, hj, rfl⟩ := hasB_of (by omega) hb
    obtain ⟨w1, w2⟩ := htx j hj
    have w3 := w2.1
    have hA := h.2.1 j hj
    refine J_aload_n (i := 0) qX5_fault_9 rfl rfl ?_
    refine J_getR qX5_fault_10 fX5_15 (by assumption) (by assumption) ?_
    refine J_iload_n (i := 1) qX5_fault_13 rfl rfl ?_
    refine J_aald qX5_fault_14 (by assumption) (by decide) (by decide) rfl (by omega) (by first | assumption | exact (by assumption : ∀ _, _) _ (by omega)) ?_
    refine J_vi0 qX5_fault_15 kX5_94 (by assumption) (s_isMissing (d := d + 6) w2 (by omega) hA) (Nat.le_of_ble_eq_true rfl) (fun v1 μ' hr => ?_)
    obtain ⟨rfl, rfl⟩ := hr
    cases hm : sTx s j with
    | none =>
      refine J_if_eq qX5_fault_18 (fun c => absurd c b2i_t0) (fun c => ?_)
      rw [faultS_n hb hj hm]
      refine J_aload_n (i := 0) qX5_fault_21 rfl rfl ?_
      refine J_pushI qX5_fault_22 ?_
      refine J_vi1 qX5_fault_23 kX5_86 (by assumption) (x_found (d := d + 6) hL0 h (f := 1) (by omega)) (Nat.le_of_ble_eq_true rfl) (fun v1 ν hr => ?_)
      refine Ji_ret qX5_fault_26 ?_
      exact hr
    | some l =>
      refine J_if_eq qX5_fault_18 (fun c => ?_) (fun c => absurd b2i_f0 c)
      rw [hm] at hA
      rw [faultS_s hb hj hm]
      have hrO := hrd.1
      refine J_aload_n (i := 0) qX5_fault_27 rfl rfl ?_
      refine J_getR qX5_fault_28 fX5_39 (by assumption) (by assumption) ?_
      refine J_aload_n (i := 0) qX5_fault_31 rfl rfl ?_
      refine J_getR qX5_fault_32 fX5_15 (by assumption) (by assumption) ?_
      refine J_iload_n (i := 1) qX5_fault_35 rfl rfl ?_
      refine J_aald qX5_fault_36 (by assumption) (by decide) (by decide) rfl (by omega) (by first | assumption | exact (by assumption : ∀ _, _) _ (by omega)) ?_
      refine J_aload_n (i := 0) qX5_fault_37 rfl rfl ?_
      refine J_getR qX5_fault_38 fX5_33 (by assumption) (by assumption) ?_
      refine J_vi2 qX5_fault_41 kX5_127 (by assumption) (r_read (d := d) hrd hp16 w2 (by omega) (by omega) hA) (Nat.le_of_ble_eq_true rfl) (fun v1 ν hr => ?_)
      obtain ⟨g1, g2⟩ := hr
      refine Ji_ret qX5_fault_44 ?_
      refine ⟨?_, h.z g2⟩
      cases hp : parF l with
      | error e => rw [hp] at g1; rw [fltV_e hp]; exact g1
      | ok x => rw [hp] at g1; rw [fltV_o hp]; exact g1.1
theorem x_program (hL : LayX G) (h : RelX μ s) (r : Int32) : Si mX5_program (d+7) [.ref 0, .int r] G μ (fun q μ' => q = (programS s r).1 ∧ RelX μ' (programS s r).2 ∧ FrX μ μ') := by
  have hL0 := hL
  obtain ⟨hO, ⟨q0, q1, q2, q3, q4, q5, q6, q7, q8, q9, q10⟩, ⟨a1, a2, a3, a4, a5⟩, -, htx, -, hp3, hp16, hrd, -⟩ := hL
  refine Si_of (ls := [.ref 0, .int r, .null]) (by decide +kernel) (Nat.le_of_ble_eq_true rfl) rfl ?_
  refine J_iload_n (i := 1) qX5_program_0 rfl rfl ?_
  refine J_si1 qX5_program_1 kX5_124 (x_isText r) (Nat.le_of_ble_eq_true rfl) (fun v1 μ' hr => ?_)
  obtain ⟨rfl, rfl⟩ := hr
  cases hb : hasB 4 r with
  | false =>
    first | refine J_if_ne qX5_program_4 (fun c => absurd b2i_f0 c) (fun _ => ?_) | refine J_if_ne qX5_program_4 (fun _ => ?_) (fun c => absurd c b2i_t0)
    refine J_pushI qX5_program_7 ?_
    refine Ji_ret qX5_program_8 ?_
    rw [show programS s r = (-1, s) from if_pos hb]
    exact ⟨rfl, h, FrX.rf⟩
  | true =>
    first | refine J_if_ne qX5_program_4 (fun c => absurd b2i_f0 c) (fun _ => ?_) | refine J_if_ne qX5_program_4 (fun _ => ?_) (fun c => absurd c b2i_t0)
    obtain ⟨j, hj, rfl⟩ := hasB_of (by omega) hb
    obtain ⟨w1, w2⟩ := htx j hj
    have w3 := w2.1
    have hA := h.2.1 j hj
    refine J_aload_n (i := 0) qX5_program_9 rfl rfl ?_
    refine J_getR qX5_program_10 fX5_15 (by assumption) (by assumption) ?_
    refine J_iload_n (i := 1) qX5_program_13 rfl rfl ?_
    refine J_aald qX5_program_14 (by assumption) (by decide) (by decide) rfl (by omega) (by first | assumption | exact (by assumption : ∀ _, _) _ (by omega)) ?_
    refine J_vi0 qX5_program_15 kX5_94 (by assumption) (s_isMissing (d := d + 6) w2 (by omega) hA) (Nat.le_of_ble_eq_true rfl) (fun v1 μ' hr => ?_)
    obtain ⟨rfl, rfl⟩ := hr
    cases hm : sTx s j with
    | none =>
      refine J_if_eq qX5_program_18 (fun c => absurd c b2i_t0) (fun c => ?_)
      rw [programS_n hb hj hm]
      refine J_aload_n (i := 0) qX5_program_21 rfl rfl ?_
      refine J_pushI qX5_program_22 ?_
      refine J_vi1 qX5_program_23 kX5_86 (by assumption) (x_found (d := d + 6) hL0 h (f := 1) (by omega)) (Nat.le_of_ble_eq_true rfl) (fun v1 ν hr => ?_)
      refine Ji_ret qX5_program_26 ?_
      exact hr
    | some l =>
      refine J_if_eq qX5_program_18 (fun c => ?_) (fun c => absurd b2i_f0 c)
      rw [hm] at hA
      have hrO := hrd.1
      have l120 := hA.2.1
      refine J_aload_n (i := 0) qX5_program_27 rfl rfl ?_
      refine J_getR qX5_program_28 fX5_39 (by assumption) (by assumption) ?_
      refine J_aload_n (i := 0) qX5_program_31 rfl rfl ?_
      refine J_getR qX5_program_32 fX5_15 (by assumption) (by assumption) ?_
      refine J_iload_n (i := 1) qX5_program_35 rfl rfl ?_
      refine J_aald qX5_program_36 (by assumption) (by decide) (by decide) rfl (by omega) (by first | assumption | exact (by assumption : ∀ _, _) _ (by omega)) ?_
      refine J_aload_n (i := 0) qX5_program_37 rfl rfl ?_
      refine J_getR qX5_program_38 fX5_33 (by assumption) (by assumption) ?_
      refine J_vi2 qX5_program_41 kX5_127 (by assumption) (r_read (d := d) hrd hp16 w2 (by omega) (by omega) hA) (Nat.le_of_ble_eq_true rfl) (fun v1 ν hr => ?_)
      obtain ⟨g1, g2⟩ := hr
      cases hp : parF l with
      | error e =>
        rw [hp] at g1
        have hel := par_er hp
        rw [show v1 = nI e from g1, programS_s hb hj hm, prgV_e hp]
        refine J_pushI qX5_program_44 ?_
        refine J_icmp_eq qX5_program_46 (fun c => absurd c (nI_m9 (by omega))) (fun _ => ?_)
        refine J_pushI qX5_program_49 ?_
        refine Ji_ret qX5_program_51 ?_
        exact ⟨rfl, h.z g2⟩
      | ok x =>
        rw [hp] at g1
        obtain ⟨rfl, hD⟩ := g1
        refine J_pushI qX5_program_44 ?_
        refine J_icmp_eq qX5_program_46 (fun _ => ?_) (fun c => absurd rfl c)
        obtain ⟨d1, d2, d3, d4, d5⟩ := hD
        obtain ⟨b1, b2⟩ := h.z g2
        have hpo := hp3.1
        refine J_aload_n (i := 0) qX5_program_52 rfl rfl ?_
        refine J_getR qX5_program_53 fX5_21 (by assumption) (by assumption) ?_
        refine J_aload_n (i := 0) qX5_program_56 rfl rfl ?_
        refine J_getR qX5_program_57 fX5_33 (by assumption) (by assumption) ?_
        refine J_vv1 qX5_program_60 kX5_131 (by assumption) (p_take (d := d + 5) hp3 hp16 (by omega) d1 (AbH.nil d5)) (Nat.le_of_ble_eq_true rfl) (fun ν1 hr => ?_)
        obtain ⟨t1, t2, t3, t4⟩ := hr
        refine J_pushI qX5_program_63 ?_
        refine J_ist2 qX5_program_64 (Nat.le_of_ble_eq_true rfl) rfl ?_
        have H : ∀ k, k ≤ 3 → ∀ ν2 : Mm, (∀ c q, ¬ c = 15 → ν2.1 c q = ν1.1 c q) → ν2.2 = ν1.2 → (∀ q, q < k → ν2.1 15 q = nI 0) → J mX5_program (d+7) (0, 0) s0 (Ki G (fun q μ' => q = (programS s (nI j)).1 ∧ RelX μ' (programS s (nI j)).2 ∧ FrX μ μ')) (0, 0) 65 [.ref 0, .int (nI j), .int (nI k)] [] (G, ν2) := by
          refine ind_up (fun k hk ih ν2 hF hG hz => ?_)
          refine J_iload_n (i := 2) qX5_program_65 rfl rfl ?_
          refine J_pushI qX5_program_66 ?_
          first | with_reducible refine J_icmp_ge_n qX5_program_67 (by omega) (by omega) (fun c1 => ?_) (fun c1 => ?_) | refine J_icmp_ge qX5_program_67 (fun c1 => ?_) (fun c1 => ?_)
          · have e3 : ν2.1 3 4 = nI x.1.length := (hF _ _ (by omega)).trans t1.1
            refine J_aload_n (i := 0) qX5_program_83 rfl rfl ?_
            refine J_pushI qX5_program_84 ?_
            refine J_putI qX5_program_85 fX5_64p (by assumption) rfl rfl ?_
            refine J_aload_n (i := 0) qX5_program_88 rfl rfl ?_
            refine J_getR qX5_program_89 fX5_21 (by assumption) (by assumption) ?_
            refine J_getIe qX5_program_92 fX5_135 (by assumption) (by (repeat first | with_reducible exact wI_e _ _ _ _ | (with_reducible apply rd_s; focus omega) | (with_reducible apply rd_c; focus omega) | (with_reducible apply rd_k; focus omega) | with_reducible exact rd_e (by omega)); first | done | assumption | rfl) ?_
            refine Ji_ret qX5_program_95 ?_
            rw [programS_s hb hj hm, prgV_o hp]
            have hF1 : ∀ c q, ¬ ((3 ≤ c ∧ c ≤ 13) ∨ c = 15 ∨ (c = 0 ∧ q = 11)) → (wI ν2 0 11 (nI 1)).1 c q = ν.1 c q := fun c q z => by rw [wI_n (by omega), hF _ _ (by omega), t4.1 _ _ (by omega)]
            have agx : Ag ν1 (wI ν2 0 11 (nI 1)) 3 13 := fun c q z y => by rw [wI_n (by omega), hF _ _ (by omega)]
            obtain ⟨u1, u2⟩ := b1.new (cs := x.1) (rest := x.2) (μ' := wI ν2 0 11 (nI 1)) hF1 (by show ν2.2 = ν.2; rw [hG, t4.2]) ⟨t1.ag agx, t2.ag agx, ⟨d2, d1.2.1, Nat.zero_le _, fun _ q => absurd q List.not_mem_nil⟩, by rw [agx _ _ (by omega) (by omega), t3]; exact d3⟩ (fun k hk => by rw [wI_n (by omega)]; exact hz k (by omega)) (wI_e _ _ _ _) d4
            exact ⟨rfl, u1, b2.tr u2⟩
          · refine J_aload_n (i := 0) qX5_program_70 rfl rfl ?_
            refine J_getR qX5_program_71 fX5_29 (by assumption) (by assumption) ?_
            refine J_iload_n (i := 2) qX5_program_74 rfl rfl ?_
            refine J_pushI qX5_program_75 ?_
            first | refine J_bast qX5_program_76 (by assumption) rfl (by omega) ?_ | refine J_zast qX5_program_76 (by assumption) rfl (by omega) rfl ?_
            refine J_inc2 qX5_program_77 (Nat.le_of_ble_eq_true rfl) (by first | with_reducible exact nI_inc _ | rfl) rfl ?_
            refine J_goto qX5_program_80 ?_
            exact ih c1 _ (fun c q z => by rw [wI_n (by omega)]; exact hF c q z) hG (fun q hq => by
              by_cases e : q = k
              · rw [e]; exact wI_e _ _ _ _
              · rw [wI_n (by omega)]; exact hz q (by omega))
        exact H 0 (Nat.zero_le _) ν1 (fun _ _ _ => rfl) rfl (fun q hq => absurd hq (Nat.not_lt_zero q))
theorem x_write (hL : LayX G) (h : RelX μ s) (r : Int32) : Si mX5_write (d+6) [.ref 0, .int r] G μ (fun q μ' => q = (writeS s r).1 ∧ RelX μ' (writeS s r).2 ∧ FrX μ μ') := by
  have hL0 := hL
  obtain ⟨hO, ⟨q0, q1, q2, q3, q4, q5, q6, q7, q8, q9, q10⟩, ⟨a1, a2, a3, a4, a5⟩, -, htx, -, hp3, hp16, hrd, hwr, -⟩ := hL
  refine Si_of (ls := [.ref 0, .int r, .null]) (by decide +kernel) (Nat.le_of_ble_eq_true rfl) rfl ?_
  refine J_iload_n (i := 1) qX5_write_0 rfl rfl ?_
  refine J_si1 qX5_write_1 kX5_124 (x_isText r) (Nat.le_of_ble_eq_true rfl) (fun v1 μ' hr => ?_)
  obtain ⟨rfl, rfl⟩ := hr
  cases hb : hasB 4 r with
  | false =>
    first | refine J_if_ne qX5_write_4 (fun c => absurd b2i_f0 c) (fun _ => ?_) | refine J_if_ne qX5_write_4 (fun _ => ?_) (fun c => absurd c b2i_t0)
    refine J_pushI qX5_write_7 ?_
    refine Ji_ret qX5_write_8 ?_
    rw [show writeS s r = (-1, s) from if_pos hb]
    exact ⟨rfl, h, FrX.rf⟩
  | true =>
    first | refine J_if_ne qX5_write_4 (fun c => absurd b2i_f0 c) (fun _ => ?_) | refine J_if_ne qX5_write_4 (fun _ => ?_) (fun c => absurd c b2i_t0)
    rw [show writeS s r = if 120 < (outB (sP s).1 (sR s)).length then (-6, s) else (nI (outB (sP s).1 (sR s)).length, uTxt s (ix r) (some (outB (sP s).1 (sR s)))) from if_neg (by rw [hb]; decide)]
    obtain ⟨j, hj, rfl⟩ := hasB_of (by omega) hb
    obtain ⟨w1, w2⟩ := htx j hj
    have w3 := w2.1
    have w4 := w2.2.1
    have w5 := w2.2.2
    have hX := h.2.2.1
    have ol := outB_len (sP s).1 (sR s) hX.2.2.1.2.1
    have y1 := hwr.1
    have y2 := hwr.2.1
    have y3 := hwr.2.2.2.1
    generalize ho : outB (sP s).1 (sR s) = o at ol ⊢
    refine J_aload_n (i := 0) qX5_write_9 rfl rfl ?_
    refine J_getR qX5_write_10 fX5_46 (by assumption) (by assumption) ?_
    refine J_aload_n (i := 0) qX5_write_13 rfl rfl ?_
    refine J_getR qX5_write_14 fX5_21 (by assumption) (by assumption) ?_
    refine J_vi1 qX5_write_17 kX5_136 (by assumption) (w_out (d := d) hwr hp3 (by omega) hX.1 hX.2.2.2 h.2.2.2.2.2.2) (Nat.le_of_ble_eq_true rfl) (fun v1 ν hr => ?_)
    rw [ho] at hr
    obtain ⟨rfl, g1, g2⟩ := hr
    refine J_ist2 qX5_write_20 (Nat.le_of_ble_eq_true rfl) rfl ?_
    refine J_iload_n (i := 2) qX5_write_21 rfl rfl ?_
    refine J_pushI qX5_write_22 ?_
    first | with_reducible refine J_icmp_le_n qX5_write_24 (by omega) (by omega) (fun c1 => ?_) (fun c1 => ?_) | refine J_icmp_le qX5_write_24 (fun c1 => ?_) (fun c1 => ?_)
    · rw [if_neg (by omega), ix_n (by omega)]
      refine J_aload_n (i := 0) qX5_write_30 rfl rfl ?_
      refine J_getR qX5_write_31 fX5_15 (by assumption) (by assumption) ?_
      refine J_iload_n (i := 1) qX5_write_34 rfl rfl ?_
      refine J_aald qX5_write_35 (by assumption) (by decide) (by decide) rfl (by omega) (by first | assumption | exact (by assumption : ∀ _, _) _ (by omega)) ?_
      refine J_iload_n (i := 2) qX5_write_36 rfl rfl ?_
      refine J_pushI qX5_write_37 ?_
      refine J_vv2 qX5_write_39 kX5_90 (by assumption) (s_fill (d := d + 4) w2 (by omega) (n := o.length) (by omega) (nI 32)) (Nat.le_of_ble_eq_true rfl) (fun ν1 hr => ?_)
      obtain ⟨t1, t2⟩ := hr
      refine J_aload_n (i := 0) qX5_write_42 rfl rfl ?_
      refine J_getR qX5_write_43 fX5_46 (by assumption) (by assumption) ?_
      refine J_getR qX5_write_46 fX5_140 (by assumption) (by assumption) ?_
      refine J_pushI qX5_write_49 ?_
      refine J_aload_n (i := 0) qX5_write_50 rfl rfl ?_
      refine J_getR qX5_write_51 fX5_15 (by assumption) (by assumption) ?_
      refine J_iload_n (i := 1) qX5_write_54 rfl rfl ?_
      refine J_aald qX5_write_55 (by assumption) (by decide) (by decide) rfl (by omega) (by first | assumption | exact (by assumption : ∀ _, _) _ (by omega)) ?_
      refine J_getR qX5_write_56 fX5_101 (by assumption) (by assumption) ?_
      refine J_pushI qX5_write_59 ?_
      refine J_iload_n (i := 2) qX5_write_60 rfl rfl ?_
      refine J_acpy qX5_write_61 acX5_111 (by assumption) (by assumption) (by omega) (by omega) (Nat.le_of_ble_eq_true rfl) ?_
      refine J_iload_n (i := 2) qX5_write_64 rfl rfl ?_
      refine Ji_ret qX5_write_65 ?_
      refine ⟨rfl, h.txt (fun c k z => ?_) ?_ hj ⟨?_, by omega, fun k hk => ?_⟩⟩
      · rw [cpI_n (fun y => z (Or.inl (Or.inr y.1))), t2.1 _ _ (fun y => z (Or.inl y)), g2.1 _ _ (fun y => z (Or.inr (by unfold Pw at y; omega)))]
      · show ν1.2 = μ.2
        rw [t2.2, g2.2]
      · rw [cpI_n (by omega), t1.1, List.length_replicate]
      · rw [cpI_e (Nat.zero_le _) (by omega), t2.1 _ _ (fun y => by unfold Pst at y; omega), show 0 + (k - 0) = k by omega]
        exact g1.2 k hk (by omega)
    · rw [if_pos c1]
      refine J_pushI qX5_write_27 ?_
      refine Ji_ret qX5_write_29 ?_
      exact ⟨rfl, h.free (fun c k z => g2.1 _ _ (fun y => z (by unfold Pw at y; omega))) (fun c k z => by rw [g2.2])⟩
end XX
