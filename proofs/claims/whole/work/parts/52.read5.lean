/-! READER: a whole text -/
def prF (T : List Int32) : Nat → Nat → List Cs → Bool → Nat → Except Nat (List Cs × Nat)
  | 0, p, _, _, _ => .error (tkS T p)
  | f + 1, p, cs, rt, rest => if tkK T p = 0 then .ok (cs, rest) else match stmF T p cs rt rest with
    | .error e => .error e
    | .ok x => prF T f x.2.2.2 x.1 x.2.1 x.2.2.1
def parF (T : List Int32) : Except Nat (List Cs × Nat) := prF T 121 0 [] false 0
theorem prF_end {T : List Int32} {f p : Nat} {cs : List Cs} {rt : Bool} {rest : Nat} (h : tkK T p = 0) : prF T (f + 1) p cs rt rest = .ok (cs, rest) := if_pos h
theorem prF_err {T : List Int32} {f p e : Nat} {cs : List Cs} {rt : Bool} {rest : Nat} (h : ¬ tkK T p = 0) (hs : stmF T p cs rt rest = .error e) : prF T (f + 1) p cs rt rest = .error e := by
  show (if tkK T p = 0 then Except.ok (cs, rest) else match stmF T p cs rt rest with
    | .error e => .error e
    | .ok x => prF T f x.2.2.2 x.1 x.2.1 x.2.2.1) = _
  rw [if_neg h, hs]
theorem prF_ok {T : List Int32} {f p : Nat} {cs : List Cs} {rt : Bool} {rest : Nat} {x : List Cs × Bool × Nat × Nat} (h : ¬ tkK T p = 0) (hs : stmF T p cs rt rest = .ok x) : prF T (f + 1) p cs rt rest = prF T f x.2.2.2 x.1 x.2.1 x.2.2.1 := by
  show (if tkK T p = 0 then Except.ok (cs, rest) else match stmF T p cs rt rest with
    | .error e => .error e
    | .ok x => prF T f x.2.2.2 x.1 x.2.1 x.2.2.1) = _
  rw [if_neg h, hs]
theorem tkE_w {T : List Int32} {p : Nat} (hp : p ≤ T.length) (h : tkK T p = 1) : p < tkE T p := by
  have h0 := tkS_le hp
  unfold tkK kdA at h
  by_cases c0 : T.length ≤ tkS T p
  · rw [if_pos c0] at h; omega
  · rw [if_neg c0] at h
    by_cases c1 : isLet T (tkS T p) = true
    · unfold tkE enA2
      rw [if_neg c0, if_pos c1, over_yes (by omega) c1]
      have := over_ge T isLet (tkS T p + 1)
      omega
    · rw [if_neg c1] at h
      by_cases c2 : (negB T (tkS T p) || isFig T (tkS T p)) = true
      · rw [if_pos c2] at h; split at h <;> omega
      · rw [if_neg c2] at h; split at h <;> omega
theorem tkE_ge {T : List Int32} {p : Nat} (hp : p ≤ T.length) : p ≤ tkE T p ∧ tkE T p ≤ T.length := by
  have h0 := tkS_le hp
  have h1 := tkE_le hp
  omega
theorem tl_ge {T : List Int32} {p : Nat} (hp : p ≤ T.length) {y : Nat × Nat × Nat} (h : tlF T p = .ok y) : p ≤ y.2.2 ∧ y.2.2 ≤ T.length := by
  have h1 := tkE_ge hp
  have h2 := tkE_ge h1.2
  have h3 := tkE_ge h2.2
  unfold tlF at h
  split at h
  · cases h
  · split at h
    · cases h
    · split at h
      · cases h; exact ⟨by dsimp only; omega, h3.2⟩
      · cases h
theorem nb_ge {T : List Int32} {p : Nat} {cs : List Cs} {sp : Bool} (hp : p ≤ T.length) {y : Int32 × Int32 × Nat} (h : nbF T p cs sp = .ok y) : p ≤ y.2.2 ∧ y.2.2 ≤ T.length := by
  have h1 := tkE_ge hp
  have h2 := tkE_ge h1.2
  unfold nbF at h
  split at h
  · cases h
  · split at h
    · cases h
    · split at h
      · cases h; exact ⟨by dsimp only; omega, h1.2⟩
      · split at h
        · cases h
        · split at h
          · cases h
          · cases h; exact ⟨by dsimp only; omega, h2.2⟩
theorem nm_ge {T : List Int32} {p : Nat} {cs : List Cs} (hp : p ≤ T.length) {y : Int32 × Int32 × Nat} (h : nmF T p cs = .ok y) : p ≤ y.2.2 ∧ y.2.2 ≤ T.length := by
  have h1 := tkE_ge hp
  unfold nmF at h
  split at h
  · split at h
    · cases h
    · cases h; exact h1
  · cases h
theorem rs_ge {T : List Int32} {s p : Nat} {rt : Bool} (hp : p ≤ T.length) {y : Nat × Nat} (h : rsF T s p rt = .ok y) : p ≤ y.2 ∧ y.2 ≤ T.length := by
  have h1 := tkE_ge hp
  have h2 := tkE_ge h1.2
  unfold rsF at h
  split at h
  · cases h
  · split at h
    · cases h
    · split at h
      · cases h; exact ⟨by dsimp only; omega, h2.2⟩
      · cases h
theorem stm_gt {T : List Int32} {p : Nat} {cs : List Cs} {rt : Bool} {rest : Nat} (hp : p ≤ T.length) {x : List Cs × Bool × Nat × Nat} (h : stmF T p cs rt rest = .ok x) : p < x.2.2.2 ∧ x.2.2.2 ≤ T.length := by
  have h1 := tkE_ge hp
  unfold stmF at h
  split at h
  · rename_i hk
    have h2 := tkE_w hp hk
    split at h
    · split at h
      · cases h
      · rename_i y hy
        have h3 := rs_ge h1.2 hy
        cases h
        exact ⟨by show p < y.2; omega, h3.2⟩
    · split at h
      · split at h
        · cases h
        · rename_i y hy
          have h3 : tkE T p ≤ y.2.2 ∧ y.2.2 ≤ T.length := by
            split at hy
            · exact nm_ge h1.2 hy
            · exact nb_ge h1.2 hy
          split at h
          · cases h
          · rename_i z hz
            have h4 := tl_ge h3.2 hz
            cases h
            exact ⟨by show p < z.2.2; omega, h4.2⟩
      · cases h
  · cases h
/-- what a reading of a text may change -/
def FrZ (q b : Nat) (μ μ' : Mm) : Prop := (∀ c k, ¬ (c = q ∨ c = q + 1 ∨ (b ≤ c ∧ c ≤ b + 10)) → μ'.1 c k = μ.1 c k) ∧ ∀ c k, ¬ (c = q ∧ k = 5) → μ'.2 c k = μ.2 c k
theorem FrQ.z {q b : Nat} {μ μ1 μ2 : Mm} (h1 : FrZ q b μ μ1) (h2 : FrQ q b μ1 μ2) : FrZ q b μ μ2 := ⟨fun c k z => (h2.1 c k (by omega)).trans (h1.1 c k z), fun c k z => (h2.2 c k z).trans (h1.2 c k z)⟩
def Pout (o : Except Nat (List Cs × Nat)) (b : Nat) (r : Int32) (μ' : Mm) : Prop := match o with
  | .error e => r = nI e
  | .ok x => r = -9 ∧ DrS μ' b x.1 x.2
section RD
variable {G : Gm} {μ : Mm} {q b d c : Nat} {T : List Int32}
theorem r_read (hR : IsRd G q) (hP : IsP G b) (hS : IsS G c 120) (hqb : q + 1 < b ∨ b + 10 < q) (hcq : c + 1 < q ∨ q + 1 < c) (hL : AbL μ c 120 T) : Si mX2_read (d+6) [.ref q, .ref c, .ref b] G μ (fun r μ' => Pout (parF T) b r μ' ∧ FrZ q b μ μ') := by
  have hR0 := hR
  obtain ⟨hO, r0, a1⟩ := hR
  have hPO := hP.1
  obtain ⟨hSO, z0, za⟩ := hS
  obtain ⟨l1, l2, l3⟩ := hL
  refine Si_of (ls := [.ref q, .ref c, .ref b, .null]) (by decide +kernel) (Nat.le_of_ble_eq_true rfl) rfl ?_
  refine J_aload_n (i := 0) qX2_read_0 rfl rfl ?_
  refine J_aload_n (i := 1) qX2_read_1 rfl rfl ?_
  refine J_getIe qX2_read_2 fX2_42 (by assumption) (by (repeat first | with_reducible exact wI_e _ _ _ _ | (with_reducible apply rd_s; focus omega) | (with_reducible apply rd_c; focus omega) | (with_reducible apply rd_k; focus omega) | with_reducible exact rd_e (by omega)); first | done | assumption | rfl) ?_
  refine J_pushI qX2_read_5 ?_
  refine J_mmax qX2_read_6 kX2_45 (Nat.le_of_ble_eq_true rfl) ?_
  rw [if_neg (show ¬ nI T.length < nI 0 from nI_pos (by omega))]
  refine J_pushI qX2_read_9 ?_
  refine J_mmin qX2_read_11 kX2_51 (Nat.le_of_ble_eq_true rfl) ?_
  rw [if_neg (nI_nlt l2 (by omega))]
  refine J_putI qX2_read_14 fX2_15p (by assumption) rfl rfl ?_
  refine J_aload_n (i := 1) qX2_read_17 rfl rfl ?_
  refine J_getR qX2_read_18 fX2_54 (by assumption) (by assumption) ?_
  refine J_pushI qX2_read_21 ?_
  refine J_aload_n (i := 0) qX2_read_22 rfl rfl ?_
  refine J_getR qX2_read_23 fX2_9 (by assumption) (by assumption) ?_
  refine J_pushI qX2_read_26 ?_
  refine J_aload_n (i := 0) qX2_read_27 rfl rfl ?_
  refine J_getIe qX2_read_28 fX2_15 (by assumption) (by (repeat first | with_reducible exact wI_e _ _ _ _ | (with_reducible apply rd_s; focus omega) | (with_reducible apply rd_c; focus omega) | (with_reducible apply rd_k; focus omega) | with_reducible exact rd_e (by omega)); first | done | assumption | rfl) ?_
  refine J_acpy qX2_read_31 acX2_57 (by assumption) (by assumption) (by omega) (by omega) (Nat.le_of_ble_eq_true rfl) ?_
  refine J_aload_n (i := 0) qX2_read_34 rfl rfl ?_
  refine J_pushI qX2_read_35 ?_
  refine J_putI qX2_read_36 fX2_19p (by assumption) rfl rfl ?_
  refine J_aload_n (i := 0) qX2_read_39 rfl rfl ?_
  refine J_pushI qX2_read_40 ?_
  refine J_putI qX2_read_41 fX2_38p (by assumption) rfl rfl ?_
  refine J_aload_n (i := 2) qX2_read_44 rfl rfl ?_
  refine J_vv0 qX2_read_45 kX2_63 (by assumption) (p_clear hP) (Nat.le_of_ble_eq_true rfl) (fun ν hr => ?_)
  have hF0 : FrZ q b μ ν := by
    rw [hr]
    refine ⟨fun c' k z => ?_, fun _ _ _ => rfl⟩
    rw [wI_n (by omega), wI_n (by omega), wI_n (by omega), wI_n (by omega), wI_n (by omega), cpI_n (by omega), wI_n (by omega)]
  have hA0 : AbR ν q T 0 := by
    rw [hr]
    refine ⟨?_, l2, ?_, Nat.zero_le _, fun k hk => ?_⟩
    · rw [wI_n (by omega), wI_n (by omega), wI_n (by omega), wI_n (by omega), wI_n (by omega), cpI_n (by omega), wI_e]
    · rw [wI_n (by omega), wI_n (by omega), wI_n (by omega), wI_n (by omega), wI_e]
    · rw [wI_n (by omega), wI_n (by omega), wI_n (by omega), wI_n (by omega), wI_n (by omega), cpI_e (Nat.zero_le _) (by omega), wI_n (by omega), show 0 + (k - 0) = k by omega]
      exact l3 k hk
  have hD0 : DrS ν b [] 0 := by
    rw [hr]
    refine ⟨⟨?_, Nat.zero_le _, fun k hk => absurd hk (Nat.not_lt_zero k)⟩, ok_nil, ?_, by omega, wI_e _ _ _ _⟩
    · rw [wI_n (by omega), wI_n (by omega), wI_e]; rfl
    · rw [wI_n (by omega), wI_e]
  have h80 : ν.1 q 8 = b2i false := by
    rw [hr, wI_n (by omega), wI_n (by omega), wI_n (by omega), wI_e]; rfl
  refine J_pushI qX2_read_48 ?_
  refine J_ist3 qX2_read_49 (Nat.le_of_ble_eq_true rfl) rfl ?_
  have H : ∀ k, k ≤ 121 → ∀ (p : Nat) (cs : List Cs) (rt : Bool) (rest : Nat) (ν : Mm), FrZ q b μ ν → AbR ν q T p → DrS ν b cs rest → ν.1 q 8 = b2i rt → k ≤ p → parF T = prF T (121 - k) p cs rt rest → J mX2_read (d+6) (0, 0) s0 (Ki G (fun r μ' => Pout (parF T) b r μ' ∧ FrZ q b μ μ')) (0, 0) 50 [.ref q, .ref c, .ref b, .int (nI k)] [] (G, ν) := by
    refine ind_up (fun k hk ih p cs rt rest ν hF hA hD h8 hkp hE => ?_)
    have hpT := hA.2.2.2.1
    refine J_iload_n (i := 3) qX2_read_50 rfl rfl ?_
    refine J_pushI qX2_read_51 ?_
    first | with_reducible refine J_icmp_gt_n qX2_read_53 (by omega) (by omega) (fun c1 => ?_) (fun c1 => ?_) | refine J_icmp_gt qX2_read_53 (fun c1 => ?_) (fun c1 => ?_)
    · omega
    · rw [show 121 - k = (121 - (k + 1)) + 1 by omega] at hE
      refine J_aload_n (i := 0) qX2_read_56 rfl rfl ?_
      refine J_vv0 qX2_read_57 kX2_68 (by assumption) (r_step (d := d + 4) hR0 hA) (Nat.le_of_ble_eq_true rfl) (fun ν1 hr => ?_)
      obtain ⟨g1, g2, g3, g4, g5⟩ := hr
      have hF1 : FrZ q b μ ν1 := FrQ.z hF g5.q
      have k4 : tkK T p ≤ 4 := by
        unfold tkK kdA
        split
        · omega
        · split
          · omega
          · split
            · split <;> omega
            · split <;> omega
      refine J_aload_n (i := 0) qX2_read_60 rfl rfl ?_
      refine J_getIe qX2_read_61 fX2_22 (by assumption) (by (repeat first | with_reducible exact wI_e _ _ _ _ | (with_reducible apply rd_s; focus omega) | (with_reducible apply rd_c; focus omega) | (with_reducible apply rd_k; focus omega) | with_reducible exact rd_e (by omega)); first | done | assumption | rfl) ?_
      first | with_reducible refine J_if_ne_n qX2_read_64 (by omega) (fun c2 => ?_) (fun c2 => ?_) | refine J_if_ne qX2_read_64 (fun c2 => ?_) (fun c2 => ?_)
      · refine J_aload_n (i := 0) qX2_read_70 rfl rfl ?_
        refine J_aload_n (i := 2) qX2_read_71 rfl rfl ?_
        refine J_vi1 qX2_read_72 kX2_71 (by assumption) (r_statement hR0 hP hqb hpT g1 g2 g3 (hD.r g5 (by omega)) ((g5.1 _ _ (by omega)).trans h8)) (Nat.le_of_ble_eq_true rfl) (fun r ν2 hr => ?_)
        have hF2 : FrZ q b μ ν2 := FrQ.z hF1 hr.fq
        cases hs : stmF T p cs rt rest with
        | error e =>
          rw [hs] at hr
          obtain ⟨rfl, x1, x2⟩ := hr
          first | with_reducible refine J_if_ne_n qX2_read_75 (by omega) (fun c3 => ?_) (fun c3 => ?_) | refine J_if_ne qX2_read_75 (fun c3 => ?_) (fun c3 => ?_)
          · omega
          · refine J_aload_n (i := 0) qX2_read_78 rfl rfl ?_
            refine J_getIe qX2_read_79 fX2_25 (by assumption) (by (repeat first | with_reducible exact wI_e _ _ _ _ | (with_reducible apply rd_s; focus omega) | (with_reducible apply rd_c; focus omega) | (with_reducible apply rd_k; focus omega) | with_reducible exact rd_e (by omega)); first | done | assumption | rfl) ?_
            refine Ji_ret qX2_read_82 ?_
            refine ⟨?_, hF2⟩
            rw [hE, prF_err c2 hs]
            rfl
        | ok x =>
          rw [hs] at hr
          obtain ⟨rfl, ⟨x1, x2, x3⟩, x4⟩ := hr
          have hgt := stm_gt hpT hs
          first | with_reducible refine J_if_ne_n qX2_read_75 (by omega) (fun c3 => ?_) (fun c3 => ?_) | refine J_if_ne qX2_read_75 (fun c3 => ?_) (fun c3 => ?_)
          · refine J_inc3 qX2_read_83 (Nat.le_of_ble_eq_true rfl) (by first | with_reducible exact nI_inc _ | rfl) rfl ?_
            refine J_goto qX2_read_86 ?_
            exact ih (by omega) x.2.2.2 x.1 x.2.1 x.2.2.1 ν2 hF2 x1 x2 x3 (by omega) (by rw [hE, prF_ok c2 hs])
          · omega
      · refine J_pushI qX2_read_67 ?_
        refine Ji_ret qX2_read_69 ?_
        refine ⟨?_, hF1⟩
        rw [hE, prF_end c2]
        exact ⟨rfl, hD.r g5 (by omega)⟩
  exact H 0 (Nat.zero_le _) 0 [] false 0 ν hF0 hA0 hD0 h80 (Nat.zero_le _) rfl
end RD
