/-! THE MODEL: statements -/
def FrS (μ μ' : Mm) : Prop := (∀ c k, ¬ ((c = 198 ∧ 8 ≤ k ∧ k ≤ 14) ∨ c = 205) → μ'.1 c k = μ.1 c k) ∧ ∀ c k, ¬ (c = 198 ∧ k = 11) → μ'.2 c k = μ.2 c k
theorem FrS.rf {μ : Mm} : FrS μ μ := ⟨fun _ _ _ => rfl, fun _ _ _ => rfl⟩
theorem FrS.tr {μ μ1 μ2 : Mm} (h1 : FrS μ μ1) (h2 : FrS μ1 μ2) : FrS μ μ2 := ⟨fun c k h => (h2.1 c k h).trans (h1.1 c k h), fun c k h => (h2.2 c k h).trans (h1.2 c k h)⟩
theorem FrN.s {μ μ1 : Mm} (h : FrN μ μ1) : FrS μ μ1 := ⟨fun c k z => h.1 c k (by omega), h.2⟩
theorem FrS.w {μ μ1 : Mm} {k : Nat} {v : Int32} (h : FrS μ μ1) (hk : 8 ≤ k ∧ k ≤ 14) : FrS μ (wI μ1 198 k v) := ⟨fun c j z => (wI_n (by omega)).trans (h.1 c j z), h.2⟩
theorem FrS.c {μ μ1 μ2 : Mm} (h : FrS μ μ1) (h2 : Fr μ1 μ2 (fun c _ => c = 205)) : FrS μ μ2 := ⟨fun c j z => (h2.1 c j (by omega)).trans (h.1 c j z), fun c j z => by rw [h2.2]; exact h.2 c j z⟩
theorem FrS.e {μ μ1 : Mm} (h : FrS μ μ1) : FrE μ μ1 := ⟨fun c k z => h.1 c k (fun y => z (by unfold Fre; omega)), fun c k z => h.2 c k (by omega)⟩
theorem MT.s {μ μ' : Mm} {t : Nat} {T : List Int32} (h : MT μ t T) (hF : FrS μ μ') : MT μ' t T := ⟨(hF.1 _ _ (by omega)).trans h.1, h.2.1, fun k hk => (hF.1 _ _ (by omega)).trans (h.2.2 k hk)⟩
theorem MC.nx {μ μ' : Mm} {cs : List Cs} (h : MC μ 205 0 cs) (hF : FrN μ μ') : MC μ' 205 0 cs := h.ag (fun k _ _ => hF.1 _ _ (by omega))
def MOut {α : Type} (o : Except Nat α) (μ : Mm) (P : α → Mm → Prop) (r : Int32) (μ' : Mm) : Prop := match o with
  | .error e => r = nI 0 ∧ μ'.1 198 12 = nI e ∧ FrS μ μ'
  | .ok x => r = nI 1 ∧ P x μ' ∧ FrS μ μ'
theorem own_free {cs : List Cs} (h12 : cs.length ≤ 12) (x : Int32) : freeB cs x x = decide (ownM cs x = -9) := by
  rcases own_is cs x with e | ⟨i, hi, e⟩
  · rw [show ownM cs x = -9 from if_pos e, decide_eq_true rfl]
    refine decide_eq_true (fun k hk z => ?_)
    have h2 : ∀ f q, q ≤ k → k < q + f → ownA cs x f q = -1 → False := by
      intro f
      induction f with
      | zero => intro q h3 h4; omega
      | succ f ih =>
        intro q h3 h4 h5
        unfold ownA at h5
        by_cases c : (cg cs q).1 ≤ x ∧ x ≤ (cg cs q).2.1
        · rw [if_pos c] at h5
          exact nI_m1 (by omega) h5
        · rw [if_neg c] at h5
          by_cases e2 : q = k
          · rw [e2] at c; exact c z
          · exact ih (q + 1) (by omega) (by omega) h5
    exact h2 cs.length 0 (Nat.zero_le _) (by omega) e
  · by_cases hb : i < 2147483648
    · rw [show ownM cs x = nI i by unfold ownM; rw [e, if_neg (nI_m1 hb)], decide_eq_false (nI_m9 hb)]
      refine decide_eq_false (fun q => ?_)
      have h2 : ∀ f k, ownA cs x f k = nI i → k + f ≤ cs.length → False := by
        intro f
        induction f with
        | zero =>
          intro k h3 h4
          exact nI_m1 hb h3.symm
        | succ f ih =>
          intro k h3 h4
          unfold ownA at h3
          by_cases c : (cg cs k).1 ≤ x ∧ x ≤ (cg cs k).2.1
          · exact q k (by omega) c
          · rw [if_neg c] at h3
            exact ih (k + 1) h3 (by omega)
      exact h2 cs.length 0 e (by omega)
    · omega
def wdN (T : List Int32) (s : Nat) : Nat → Nat
  | 0 => 0
  | m + 1 => 27 * wdN T s m + ((bt T (s + m)).toInt.toNat - 96)
theorem wdN_succ (T : List Int32) (s m : Nat) : wdN T s (m + 1) = 27 * wdN T s m + ((bt T (s + m)).toInt.toNat - 96) := rfl
theorem let_dg {T : List Int32} {k : Nat} (h : isLet T k = true) : bt T k = nI (96 + ((bt T k).toInt.toNat - 96)) ∧ 1 ≤ (bt T k).toInt.toNat - 96 ∧ (bt T k).toInt.toNat - 96 ≤ 26 := by
  have h1 := (of_decide_eq_true h).2
  rw [Int32.le_iff_toInt_le, Int32.le_iff_toInt_le, nI_toInt (by omega), nI_toInt (by omega)] at h1
  refine ⟨i32_inj ?_, by omega, by omega⟩
  rw [nI_toInt (by omega)]
  omega
theorem wdN_lt {T : List Int32} {s : Nat} : ∀ m, m ≤ 6 → (∀ k, k < m → isLet T (s + k) = true) → wdN T s m < 27 ^ m
  | 0, _, _ => by show 0 < 1; omega
  | m + 1, hm, h => by
    have h1 := wdN_lt m (by omega) (fun k hk => h k (by omega))
    have h2 := (let_dg (h m (by omega))).2
    rw [wdN_succ, Nat.pow_succ]
    omega
theorem wdN_pos {T : List Int32} {s : Nat} : ∀ m, 0 < m → (∀ k, k < m → isLet T (s + k) = true) → 0 < wdN T s m
  | 0, h, _ => absurd h (Nat.lt_irrefl 0)
  | m + 1, _, h => by
    have h2 := (let_dg (h m (by omega))).2
    rw [wdN_succ]
    omega
theorem wd_step {T : List Int32} {s m a r : Nat} (h : ∀ k, k < m → isLet T (s + k) = true) (h0 : 0 < 27 * a + r) (hr1 : 1 ≤ r) (hr2 : r ≤ 26) (hv : wdN T s m = 27 * a + r) : ∃ m', m = m' + 1 ∧ wdN T s m' = a ∧ bt T (s + m') = nI (96 + r) := by
  match m, h, hv with
  | 0, _, hv =>
    have : wdN T s 0 = 0 := rfl
    omega
  | m + 1, h, hv =>
    have h2 := let_dg (h m (by omega))
    rw [wdN_succ] at hv
    refine ⟨m, rfl, by omega, ?_⟩
    rw [h2.1]
    congr 1
    omega
theorem wd_end {T : List Int32} {s m : Nat} (h : ∀ k, k < m → isLet T (s + k) = true) (hv : wdN T s m = 0) : m = 0 := by
  by_cases c : m = 0
  · exact c
  · have := wdN_pos m (by omega) h
    omega
theorem wd_is4 {T : List Int32} {s m : Nat} {a b c e : Nat} (i : Nat) (hl : lnS i = 4) (h0 : chS i 0 = nI (96 + a)) (h1 : chS i 1 = nI (96 + b)) (h2 : chS i 2 = nI (96 + c)) (h3 : chS i 3 = nI (96 + e)) (ha : 1 ≤ a ∧ a ≤ 26) (hb : 1 ≤ b ∧ b ≤ 26) (hc : 1 ≤ c ∧ c ≤ 26) (he : 1 ≤ e ∧ e ≤ 26) (h : ∀ k, k < m → isLet T (s + k) = true) : isWd T s (s + m) i = decide (wdN T s m = 27 * (27 * (27 * a + b) + c) + e) := by
  unfold isWd
  apply decide_eq_decide.mpr
  rw [hl]
  constructor
  · rintro ⟨q1, q2⟩
    have em : m = 4 := by omega
    subst em
    have d0 := q2 0 (by omega)
    have d1 := q2 1 (by omega)
    have d2 := q2 2 (by omega)
    have d3 := q2 3 (by omega)
    rw [h0] at d0
    rw [h1] at d1
    rw [h2] at d2
    rw [h3] at d3
    rw [wdN_succ, wdN_succ, wdN_succ, wdN_succ, d0, d1, d2, d3, nI_toInt (by omega), nI_toInt (by omega), nI_toInt (by omega), nI_toInt (by omega)]
    have : wdN T s 0 = 0 := rfl
    omega
  · intro q
    obtain ⟨m3, e3, v3, b3⟩ := wd_step h (by omega) he.1 he.2 q
    subst e3
    obtain ⟨m2, e2, v2, b2⟩ := wd_step (fun k hk => h k (by omega)) (by omega) hc.1 hc.2 v3
    subst e2
    obtain ⟨m1, e1, v1, b1⟩ := wd_step (fun k hk => h k (by omega)) (by omega) hb.1 hb.2 v2
    subst e1
    obtain ⟨m0, e0, v0, b0⟩ := wd_step (m := m1) (a := 0) (r := a) (fun k hk => h k (by omega)) (by omega) ha.1 ha.2 (by omega)
    subst e0
    have := wd_end (fun k hk => h k (by omega)) v0
    subst this
    refine ⟨by omega, fun k hk => ?_⟩
    match k, hk with
    | 0, _ => rw [h0]; exact b0
    | 1, _ => rw [h1]; exact b1
    | 2, _ => rw [h2]; exact b2
    | 3, _ => rw [h3]; exact b3
theorem wd_is5 {T : List Int32} {s m : Nat} {a b c e f : Nat} (i : Nat) (hl : lnS i = 5) (h0 : chS i 0 = nI (96 + a)) (h1 : chS i 1 = nI (96 + b)) (h2 : chS i 2 = nI (96 + c)) (h3 : chS i 3 = nI (96 + e)) (h4 : chS i 4 = nI (96 + f)) (ha : 1 ≤ a ∧ a ≤ 26) (hb : 1 ≤ b ∧ b ≤ 26) (hc : 1 ≤ c ∧ c ≤ 26) (he : 1 ≤ e ∧ e ≤ 26) (hf : 1 ≤ f ∧ f ≤ 26) (h : ∀ k, k < m → isLet T (s + k) = true) : isWd T s (s + m) i = decide (wdN T s m = 27 * (27 * (27 * (27 * a + b) + c) + e) + f) := by
  unfold isWd
  apply decide_eq_decide.mpr
  rw [hl]
  constructor
  · rintro ⟨q1, q2⟩
    have em : m = 5 := by omega
    subst em
    have d0 := q2 0 (by omega)
    have d1 := q2 1 (by omega)
    have d2 := q2 2 (by omega)
    have d3 := q2 3 (by omega)
    have d4 := q2 4 (by omega)
    rw [h0] at d0
    rw [h1] at d1
    rw [h2] at d2
    rw [h3] at d3
    rw [h4] at d4
    rw [wdN_succ, wdN_succ, wdN_succ, wdN_succ, wdN_succ, d0, d1, d2, d3, d4, nI_toInt (by omega), nI_toInt (by omega), nI_toInt (by omega), nI_toInt (by omega), nI_toInt (by omega)]
    have : wdN T s 0 = 0 := rfl
    omega
  · intro q
    obtain ⟨m4, e4, v4, b4⟩ := wd_step h (by omega) hf.1 hf.2 q
    subst e4
    obtain ⟨m3, e3, v3, b3⟩ := wd_step (fun k hk => h k (by omega)) (by omega) he.1 he.2 v4
    subst e3
    obtain ⟨m2, e2, v2, b2⟩ := wd_step (fun k hk => h k (by omega)) (by omega) hc.1 hc.2 v3
    subst e2
    obtain ⟨m1, e1, v1, b1⟩ := wd_step (fun k hk => h k (by omega)) (by omega) hb.1 hb.2 v2
    subst e1
    obtain ⟨m0, e0, v0, b0⟩ := wd_step (m := m1) (a := 0) (r := a) (fun k hk => h k (by omega)) (by omega) ha.1 ha.2 (by omega)
    subst e0
    have := wd_end (fun k hk => h k (by omega)) v0
    subst this
    refine ⟨by omega, fun k hk => ?_⟩
    match k, hk with
    | 0, _ => rw [h0]; exact b0
    | 1, _ => rw [h1]; exact b1
    | 2, _ => rw [h2]; exact b2
    | 3, _ => rw [h3]; exact b3
    | 4, _ => rw [h4]; exact b4
theorem wd_rest {T : List Int32} {s m : Nat} (h : ∀ k, k < m → isLet T (s + k) = true) : isWd T s (s + m) 0 = decide (wdN T s m = 358472) := wd_is4 (a := 18) (b := 5) (c := 19) (e := 20) 0 rfl (by decide) (by decide) (by decide) (by decide) (by decide) (by decide) (by decide) (by decide) h
theorem wd_name {T : List Int32} {s m : Nat} (h : ∀ k, k < m → isLet T (s + k) = true) : isWd T s (s + m) 2 = decide (wdN T s m = 276647) := wd_is4 (a := 14) (b := 1) (c := 13) (e := 5) 2 rfl (by decide) (by decide) (by decide) (by decide) (by decide) (by decide) (by decide) (by decide) h
theorem wd_case {T : List Int32} {s m : Nat} (h : ∀ k, k < m → isLet T (s + k) = true) : isWd T s (s + m) 3 = decide (wdN T s m = 60296) := wd_is4 (a := 3) (b := 1) (c := 19) (e := 5) 3 rfl (by decide) (by decide) (by decide) (by decide) (by decide) (by decide) (by decide) (by decide) h
theorem wd_range {T : List Int32} {s m : Nat} (h : ∀ k, k < m → isLet T (s + k) = true) : isWd T s (s + m) 1 = decide (wdN T s m = 9596021) := wd_is5 (a := 18) (b := 1) (c := 14) (e := 7) (f := 5) 1 rfl (by decide) (by decide) (by decide) (by decide) (by decide) (by decide) (by decide) (by decide) (by decide) (by decide) h
section MM
variable {G : Gm} {μ : Mm} {d t p : Nat} {s : St} {T : List Int32} {cs : List Cs}
theorem m_number (hM : LayM G) (ht : t < 4) (hR : RdM μ t T p) {x y : Int64} (h1 : -2147483648 ≤ x.toInt) (h2 : y.toInt ≤ 2147483648) : Si mX6_number (d+3) [.ref 198, .int (nI t), .long x, .long y] G μ (fun r μ' => r = b2i (numOK T p x.toInt y.toInt) ∧ RdM μ' t T (tkE T p) ∧ μ'.1 198 9 = nI (tkS T p) ∧ (numOK T p x.toInt y.toInt = true → (μ'.2 198 11).toInt = tkV T p) ∧ (numOK T p x.toInt y.toInt = false → μ'.1 198 12 = nI (tkS T p)) ∧ FrN μ μ') := by
  have mO := hM.1
  have k4 : tkK T p ≤ 4 := by
    unfold tkK kdA
    split
    · omega
    · split
      · omega
      · split
        · split <;> omega
        · split <;> omega
  refine Si_of (ls := [.ref 198, .int (nI t), .long x, .null, .long y, .null]) (by decide +kernel) (Nat.le_of_ble_eq_true rfl) rfl ?_
  refine J_aload_n (i := 0) qX6_number_0 rfl rfl ?_
  refine J_iload_n (i := 1) qX6_number_1 rfl rfl ?_
  refine J_vv1 qX6_number_2 kX6_133 (by assumption) (m_next (d := d) hM ht hR) (Nat.le_of_ble_eq_true rfl) (fun ν hr => ?_)
  obtain ⟨g1, g2, g3, g4, g5⟩ := hr
  have no : numOK T p x.toInt y.toInt = false → J mX6_number (d+3) (0, 0) s0 (Ki G (fun r μ' => r = b2i (numOK T p x.toInt y.toInt) ∧ RdM μ' t T (tkE T p) ∧ μ'.1 198 9 = nI (tkS T p) ∧ (numOK T p x.toInt y.toInt = true → (μ'.2 198 11).toInt = tkV T p) ∧ (numOK T p x.toInt y.toInt = false → μ'.1 198 12 = nI (tkS T p)) ∧ FrN μ μ')) (0, 0) 32 [.ref 198, .int (nI t), .long x, .null, .long y, .null] [] (G, ν) := fun hn => by
    refine J_aload_n (i := 0) qX6_number_32 rfl rfl ?_
    refine J_vi0 qX6_number_33 kX6_136 (by assumption) (m_fails (d := d + 2) hM g2) (Nat.le_of_ble_eq_true rfl) (fun v1 ν1 hr => ?_)
    obtain ⟨rfl, rfl⟩ := hr
    refine J_if_eq_n qX6_number_36 (by omega) (fun _ => ?_) (fun z => absurd rfl z)
    refine J_pushI qX6_number_43 ?_
    refine Jz_ret qX6_number_44 (by first | exact Or.inl rfl | exact Or.inr rfl | assumption) ?_
    exact ⟨by rw [hn]; rfl, g1.w (by omega), by rw [wI_n (by omega)]; exact g2, fun z => (by rw [hn] at z; cases z), fun _ => wI_e _ _ _ _, g5.w (by omega)⟩
  refine J_aload_n (i := 0) qX6_number_5 rfl rfl ?_
  refine J_getIe qX6_number_6 fX6_110 (by assumption) (by (repeat first | with_reducible exact wI_e _ _ _ _ | (with_reducible apply rd_s; focus omega) | (with_reducible apply rd_c; focus omega) | (with_reducible apply rd_k; focus omega) | with_reducible exact rd_e (by omega)); first | done | assumption | rfl) ?_
  refine J_pushI qX6_number_9 ?_
  refine J_icmp_ne_n qX6_number_10 (by omega) (by omega) (fun c1 => no (decide_eq_false (fun z => c1 z.1))) (fun c1 => ?_)
  have gv := g4 c1
  refine J_aload_n (i := 0) qX6_number_13 rfl rfl ?_
  refine J_getLe qX6_number_14 fX6_120 (by assumption) (by (repeat first | with_reducible exact wL_e _ _ _ _ | with_reducible apply rdl_i | (with_reducible apply rdl_s; focus omega) | (with_reducible apply rdl_k; focus omega)); first | done | assumption | rfl) ?_
  refine J_lload_n (i := 2) qX6_number_17 rfl rfl ?_
  refine J_lif_lt qX6_number_18 qX6_number_19 (fun c2 => no (decide_eq_false (fun z => ?_))) (fun c2 => ?_)
  · have h3 := (val_in h1 h2).mpr z.2
    rw [Int64.lt_iff_toInt_lt] at c2
    omega
  · refine J_aload_n (i := 0) qX6_number_22 rfl rfl ?_
    refine J_getLe qX6_number_23 fX6_120 (by assumption) (by (repeat first | with_reducible exact wL_e _ _ _ _ | with_reducible apply rdl_i | (with_reducible apply rdl_s; focus omega) | (with_reducible apply rdl_k; focus omega)); first | done | assumption | rfl) ?_
    refine J_lload (i := 4) qX6_number_26 rfl ?_
    refine J_lif_le qX6_number_28 qX6_number_29 (fun c3 => ?_) (fun c3 => no (decide_eq_false (fun z => ?_)))
    · rw [Int64.lt_iff_toInt_lt] at c2
      rw [Int64.le_iff_toInt_le] at c3
      have h3 := (val_in (T := T) (p := p) h1 h2).mp ⟨by omega, c3⟩
      have hok : numOK T p x.toInt y.toInt = true := decide_eq_true ⟨c1, h3⟩
      refine J_pushI qX6_number_39 ?_
      refine J_goto qX6_number_40 ?_
      refine Jz_ret qX6_number_44 (by first | exact Or.inl rfl | exact Or.inr rfl | assumption) ?_
      exact ⟨by rw [hok]; rfl, g1, g2, fun _ => (by rw [gv]; exact val_eq h1 h2 h3.1 h3.2), fun z => (by rw [hok] at z; cases z), g5⟩
    · have h3 := (val_in h1 h2).mpr z.2
      rw [Int64.le_iff_toInt_le] at c3
      omega
theorem m_ends (hM : LayM G) (ht : t < 4) (hR : RdM μ t T p) : Si mX6_ends (d+3) [.ref 198, .int (nI t)] G μ (fun r μ' => r = b2i (decide (tkK T p = 3)) ∧ RdM μ' t T (tkE T p) ∧ (¬ tkK T p = 3 → μ'.1 198 12 = nI (tkS T p)) ∧ FrN μ μ') := by
  have mO := hM.1
  have k4 : tkK T p ≤ 4 := by
    unfold tkK kdA
    split
    · omega
    · split
      · omega
      · split
        · split <;> omega
        · split <;> omega
  refine Si_of (ls := [.ref 198, .int (nI t)]) (by decide +kernel) (Nat.le_of_ble_eq_true rfl) rfl ?_
  refine J_aload_n (i := 0) qX6_ends_0 rfl rfl ?_
  refine J_iload_n (i := 1) qX6_ends_1 rfl rfl ?_
  refine J_vv1 qX6_ends_2 kX6_133 (by assumption) (m_next (d := d) hM ht hR) (Nat.le_of_ble_eq_true rfl) (fun ν hr => ?_)
  obtain ⟨g1, g2, g3, g4, g5⟩ := hr
  refine J_aload_n (i := 0) qX6_ends_5 rfl rfl ?_
  refine J_getIe qX6_ends_6 fX6_110 (by assumption) (by (repeat first | with_reducible exact wI_e _ _ _ _ | (with_reducible apply rd_s; focus omega) | (with_reducible apply rd_c; focus omega) | (with_reducible apply rd_k; focus omega) | with_reducible exact rd_e (by omega)); first | done | assumption | rfl) ?_
  refine J_pushI qX6_ends_9 ?_
  refine J_icmp_eq_n qX6_ends_10 (by omega) (by omega) (fun c1 => ?_) (fun c1 => ?_)
  · refine J_pushI qX6_ends_20 ?_
    refine J_goto qX6_ends_21 ?_
    refine Jz_ret qX6_ends_25 (by first | exact Or.inl rfl | exact Or.inr rfl | assumption) ?_
    exact ⟨b2i_t (decide_eq_true c1), g1, fun z => absurd c1 z, g5⟩
  · refine J_aload_n (i := 0) qX6_ends_13 rfl rfl ?_
    refine J_vi0 qX6_ends_14 kX6_136 (by assumption) (m_fails (d := d + 2) hM g2) (Nat.le_of_ble_eq_true rfl) (fun v1 ν1 hr => ?_)
    obtain ⟨rfl, rfl⟩ := hr
    refine J_if_eq_n qX6_ends_17 (by omega) (fun _ => ?_) (fun z => absurd rfl z)
    refine J_pushI qX6_ends_24 ?_
    refine Jz_ret qX6_ends_25 (by first | exact Or.inl rfl | exact Or.inr rfl | assumption) ?_
    exact ⟨b2i_f (decide_eq_false c1), g1.w (by omega), fun _ => wI_e _ _ _ _, g5.w (by omega)⟩
theorem m_word (hM : LayM G) (ht : t < 4) (hR : RdM μ t T p) {q : Nat} (h9 : μ.1 198 9 = nI q) (hqp : q ≤ p) (hl : ∀ k, q ≤ k → k < p → isLet T k = true) : Si mX6_word (d+1) [.ref 198, .int (nI t)] G μ (fun r μ' => μ = μ' ∧ r = nI (if 6 < p - q then 0 else wdN T q (p - q))) := by
  have mO := hM.1
  have e8 := hR.2.1
  have hp := hR.2.2
  have T120 := hR.1.2.1
  refine Si_of (ls := [.ref 198, .int (nI t), .null, .null]) (by decide +kernel) (Nat.le_of_ble_eq_true rfl) rfl ?_
  refine J_pushI qX6_word_0 ?_
  refine J_ist2 qX6_word_1 (Nat.le_of_ble_eq_true rfl) rfl ?_
  refine J_aload_n (i := 0) qX6_word_2 rfl rfl ?_
  refine J_getIe qX6_word_3 fX6_107 (by assumption) (by (repeat first | with_reducible exact wI_e _ _ _ _ | (with_reducible apply rd_s; focus omega) | (with_reducible apply rd_c; focus omega) | (with_reducible apply rd_k; focus omega) | with_reducible exact rd_e (by omega)); first | done | assumption | rfl) ?_
  refine J_ist3 qX6_word_6 (Nat.le_of_ble_eq_true rfl) rfl ?_
  have H : ∀ m, m ≤ p - q → m ≤ 6 → J mX6_word (d+1) (0, 0) s0 (Ki G (fun r μ' => μ = μ' ∧ r = nI (if 6 < p - q then 0 else wdN T q (p - q)))) (0, 0) 7 [.ref 198, .int (nI t), .int (nI (wdN T q m)), .int (nI (q + m))] [] (G, μ) := by
    have fin : ∀ m, (m = p - q ∨ (m = 6 ∧ 6 ≤ p - q)) → J mX6_word (d+1) (0, 0) s0 (Ki G (fun r μ' => μ = μ' ∧ r = nI (if 6 < p - q then 0 else wdN T q (p - q)))) (0, 0) 47 [.ref 198, .int (nI t), .int (nI (wdN T q m)), .int (nI (q + m))] [] (G, μ) := fun m hm => by
      refine J_aload_n (i := 0) qX6_word_47 rfl rfl ?_
      refine J_getIe qX6_word_48 fX6_97 (by assumption) (by (repeat first | with_reducible exact wI_e _ _ _ _ | (with_reducible apply rd_s; focus omega) | (with_reducible apply rd_c; focus omega) | (with_reducible apply rd_k; focus omega) | with_reducible exact rd_e (by omega)); first | done | assumption | rfl) ?_
      refine J_aload_n (i := 0) qX6_word_51 rfl rfl ?_
      refine J_getIe qX6_word_52 fX6_107 (by assumption) (by (repeat first | with_reducible exact wI_e _ _ _ _ | (with_reducible apply rd_s; focus omega) | (with_reducible apply rd_c; focus omega) | (with_reducible apply rd_k; focus omega) | with_reducible exact rd_e (by omega)); first | done | assumption | rfl) ?_
      first | with_reducible refine J_isub_n qX6_word_55 (by omega) ?_ | refine J_isub qX6_word_55 ?_
      refine J_pushI qX6_word_56 ?_
      first | with_reducible refine J_icmp_le_n qX6_word_58 (by omega) (by omega) (fun c3 => ?_) (fun c3 => ?_) | refine J_icmp_le qX6_word_58 (fun c3 => ?_) (fun c3 => ?_)
      · refine J_iload_n (i := 2) qX6_word_65 rfl rfl ?_
        refine Ji_ret qX6_word_66 ?_
        refine ⟨rfl, ?_⟩
        rw [if_neg (by omega), show m = p - q by omega]
      · refine J_pushI qX6_word_61 ?_
        refine J_goto qX6_word_62 ?_
        refine Ji_ret qX6_word_66 ?_
        refine ⟨rfl, ?_⟩
        rw [if_pos (by omega)]
    have HH : ∀ N m, p - q - m = N → m ≤ p - q → m ≤ 6 → J mX6_word (d+1) (0, 0) s0 (Ki G (fun r μ' => μ = μ' ∧ r = nI (if 6 < p - q then 0 else wdN T q (p - q)))) (0, 0) 7 [.ref 198, .int (nI t), .int (nI (wdN T q m)), .int (nI (q + m))] [] (G, μ) := by
      intro N
      induction N with
      | zero =>
        intro m hN h1 h2
        refine J_iload_n (i := 3) qX6_word_7 rfl rfl ?_
        refine J_aload_n (i := 0) qX6_word_8 rfl rfl ?_
        refine J_getIe qX6_word_9 fX6_97 (by assumption) (by (repeat first | with_reducible exact wI_e _ _ _ _ | (with_reducible apply rd_s; focus omega) | (with_reducible apply rd_c; focus omega) | (with_reducible apply rd_k; focus omega) | with_reducible exact rd_e (by omega)); first | done | assumption | rfl) ?_
        refine J_icmp_ge_n qX6_word_12 (by omega) (by omega) (fun _ => fin m (by omega)) (fun z => absurd z (by omega))
      | succ N ih =>
        intro m hN h1 h2
        refine J_iload_n (i := 3) qX6_word_7 rfl rfl ?_
        refine J_aload_n (i := 0) qX6_word_8 rfl rfl ?_
        refine J_getIe qX6_word_9 fX6_97 (by assumption) (by (repeat first | with_reducible exact wI_e _ _ _ _ | (with_reducible apply rd_s; focus omega) | (with_reducible apply rd_c; focus omega) | (with_reducible apply rd_k; focus omega) | with_reducible exact rd_e (by omega)); first | done | assumption | rfl) ?_
        refine J_icmp_ge_n qX6_word_12 (by omega) (by omega) (fun z => absurd z (by omega)) (fun c1 => ?_)
        refine J_iload_n (i := 3) qX6_word_15 rfl rfl ?_
        refine J_aload_n (i := 0) qX6_word_16 rfl rfl ?_
        refine J_getIe qX6_word_17 fX6_107 (by assumption) (by (repeat first | with_reducible exact wI_e _ _ _ _ | (with_reducible apply rd_s; focus omega) | (with_reducible apply rd_c; focus omega) | (with_reducible apply rd_k; focus omega) | with_reducible exact rd_e (by omega)); first | done | assumption | rfl) ?_
        refine J_pushI qX6_word_20 ?_
        first | with_reducible refine J_iadd_n qX6_word_22 ?_ | refine J_iadd qX6_word_22 ?_
        refine J_icmp_ge_n qX6_word_23 (by omega) (by omega) (fun c2 => fin m (by omega)) (fun c2 => ?_)
        have hlm := hl (q + m) (by omega) c1
        obtain ⟨g1, g2, g3⟩ := let_dg hlm
        refine J_pushI qX6_word_26 ?_
        refine J_iload_n (i := 2) qX6_word_28 rfl rfl ?_
        first | with_reducible refine J_imul_n qX6_word_29 ?_ | refine J_imul qX6_word_29 ?_
        refine J_aload_n (i := 0) qX6_word_30 rfl rfl ?_
        refine J_iload_n (i := 1) qX6_word_31 rfl rfl ?_
        refine J_iload_n (i := 3) qX6_word_32 rfl rfl ?_
        refine J_vi2 qX6_word_33 kX6_100 (by assumption) (m_byteAt (d := d) hM ht hR.1 (k := q + m) (by omega)) (Nat.le_of_ble_eq_true rfl) (fun v1 μ' hr => ?_)
        rw [btM_lt (by omega), g1] at hr
        obtain ⟨rfl, rfl⟩ := hr
        first | with_reducible refine J_iadd_n qX6_word_36 ?_ | refine J_iadd qX6_word_36 ?_
        refine J_pushI qX6_word_37 ?_
        first | with_reducible refine J_isub_n qX6_word_39 (by omega) ?_ | refine J_isub qX6_word_39 ?_
        rw [show 27 * wdN T q m + (96 + ((bt T (q + m)).toInt.toNat - 96)) - 96 = 27 * wdN T q m + ((bt T (q + m)).toInt.toNat - 96) by omega, ← wdN_succ]
        refine J_ist2 qX6_word_40 (Nat.le_of_ble_eq_true rfl) rfl ?_
        refine J_inc3 qX6_word_41 (Nat.le_of_ble_eq_true rfl) (by first | with_reducible exact nI_inc _ | rfl) rfl ?_
        refine J_goto qX6_word_44 ?_
        exact ih (m + 1) (by omega) (by omega) (by omega)
    exact fun m h1 h2 => HH _ m rfl h1 h2
  exact H 0 (Nat.zero_le _) (by omega)
theorem m_hashOf (hM : LayM G) (ht : t < 4) (hR : RdM μ t T p) {q : Nat} (h9 : μ.1 198 9 = nI q) (hqp : q ≤ p) : Si mX6_hashOf (d+1) [.ref 198, .int (nI t)] G μ (fun r μ' => μ = μ' ∧ r = hashF T q (p - q)) := by
  have mO := hM.1
  have e8 := hR.2.1
  have hp := hR.2.2
  have T120 := hR.1.2.1
  refine Si_of (ls := [.ref 198, .int (nI t), .null, .null]) (by decide +kernel) (Nat.le_of_ble_eq_true rfl) rfl ?_
  refine J_pushI qX6_hashOf_0 ?_
  refine J_ist2 qX6_hashOf_1 (Nat.le_of_ble_eq_true rfl) rfl ?_
  refine J_aload_n (i := 0) qX6_hashOf_2 rfl rfl ?_
  refine J_getIe qX6_hashOf_3 fX6_107 (by assumption) (by (repeat first | with_reducible exact wI_e _ _ _ _ | (with_reducible apply rd_s; focus omega) | (with_reducible apply rd_c; focus omega) | (with_reducible apply rd_k; focus omega) | with_reducible exact rd_e (by omega)); first | done | assumption | rfl) ?_
  refine J_ist3 qX6_hashOf_6 (Nat.le_of_ble_eq_true rfl) rfl ?_
  refine ind_up (n := p - q) (P := fun m => J mX6_hashOf (d+1) (0, 0) s0 (Ki G (fun r μ' => μ = μ' ∧ r = hashF T q (p - q))) (0, 0) 7 [.ref 198, .int (nI t), .int (hashF T q m), .int (nI (q + m))] [] (G, μ)) (fun m hm ih => ?_) 0 (Nat.zero_le _)
  refine J_iload_n (i := 3) qX6_hashOf_7 rfl rfl ?_
  refine J_aload_n (i := 0) qX6_hashOf_8 rfl rfl ?_
  refine J_getIe qX6_hashOf_9 fX6_97 (by assumption) (by (repeat first | with_reducible exact wI_e _ _ _ _ | (with_reducible apply rd_s; focus omega) | (with_reducible apply rd_c; focus omega) | (with_reducible apply rd_k; focus omega) | with_reducible exact rd_e (by omega)); first | done | assumption | rfl) ?_
  first | with_reducible refine J_icmp_ge_n qX6_hashOf_12 (by omega) (by omega) (fun c1 => ?_) (fun c1 => ?_) | refine J_icmp_ge qX6_hashOf_12 (fun c1 => ?_) (fun c1 => ?_)
  · refine J_iload_n (i := 2) qX6_hashOf_33 rfl rfl ?_
    refine Ji_ret qX6_hashOf_34 ?_
    exact ⟨rfl, by rw [show p - q = m by omega]⟩
  · refine J_pushI qX6_hashOf_15 ?_
    refine J_iload_n (i := 2) qX6_hashOf_17 rfl rfl ?_
    refine J_imul qX6_hashOf_18 ?_
    refine J_aload_n (i := 0) qX6_hashOf_19 rfl rfl ?_
    refine J_iload_n (i := 1) qX6_hashOf_20 rfl rfl ?_
    refine J_iload_n (i := 3) qX6_hashOf_21 rfl rfl ?_
    refine J_vi2 qX6_hashOf_22 kX6_100 (by assumption) (m_byteAt (d := d) hM ht hR.1 (k := q + m) (by omega)) (Nat.le_of_ble_eq_true rfl) (fun v1 μ' hr => ?_)
    rw [btM_lt (by omega)] at hr
    obtain ⟨rfl, rfl⟩ := hr
    refine J_iadd qX6_hashOf_25 ?_
    refine J_ist2 qX6_hashOf_26 (Nat.le_of_ble_eq_true rfl) rfl ?_
    refine J_inc3 qX6_hashOf_27 (Nat.le_of_ble_eq_true rfl) (by first | with_reducible exact nI_inc _ | rfl) rfl ?_
    refine J_goto qX6_hashOf_30 ?_
    exact ih (by omega)
theorem m_readsAim (hM : LayM G) (ht : t < 4) (hR : RdM μ t T p) (hc : MC μ 205 0 cs) (ho : OkC cs) (lo hi : Int32) (hle : lo ≤ hi) (hf : freeB cs lo hi = true) (hlt : cs.length < 12) : Si mX6_readsAim (d+4) [.ref 198, .int (nI t), .int lo, .int hi] G μ (fun r μ' => MOut (tlF T p) μ (fun x μ' => RdM μ' t T x.2.2 ∧ MC μ' 205 0 (insF cs (lo, hi, x.1, x.2.1)) ∧ OkC (insF cs (lo, hi, x.1, x.2.1)) ∧ μ'.1 198 13 = μ.1 198 13 ∧ μ'.1 198 14 = μ.1 198 14) r μ') := by
  have hM0 := hM
  obtain ⟨mO, ⟨f2, f3, f4, f5, f6, f7, f15, -⟩, ⟨b199, b200, b201, b202, b203, b204, b205, -⟩⟩ := hM
  refine Si_of (ls := [.ref 198, .int (nI t), .int lo, .int hi, .null]) (by decide +kernel) (Nat.le_of_ble_eq_true rfl) rfl ?_
  refine J_aload_n (i := 0) qX6_readsAim_0 rfl rfl ?_
  refine J_iload_n (i := 1) qX6_readsAim_1 rfl rfl ?_
  refine J_pushL qX6_readsAim_2 ?_
  refine J_pushL qX6_readsAim_3 ?_
  refine J_vi3 qX6_readsAim_6 kX6_142 (by assumption) (m_number (d := d) hM0 ht hR (x := lN 0) (y := lN 7) (by decide) (by decide)) (Nat.le_of_ble_eq_true rfl) (fun v1 ν hr => ?_)
  rw [show (lN 0).toInt = 0 from rfl, show (lN 7).toInt = 7 from rfl] at hr
  obtain ⟨rfl, g1, g2, g3, g4, g5⟩ := hr
  cases hn : numOK T p 0 7 with
  | false =>
    first | refine J_if_ne qX6_readsAim_9 (fun c => absurd b2i_f0 c) (fun _ => ?_) | refine J_if_ne qX6_readsAim_9 (fun _ => ?_) (fun c => absurd c b2i_t0)
    refine J_pushI qX6_readsAim_12 ?_
    refine Jz_ret qX6_readsAim_13 (by first | exact Or.inl rfl | exact Or.inr rfl | assumption) ?_
    rw [show tlF T p = .error (tkS T p) from if_pos hn]
    exact ⟨rfl, g4 hn, g5.s⟩
  | true =>
    obtain ⟨n1, n2, n3⟩ := numOK_at hn
    have gv := l2i_n (g3 hn) n2 (by omega)
    first | refine J_if_ne qX6_readsAim_9 (fun c => absurd b2i_f0 c) (fun _ => ?_) | refine J_if_ne qX6_readsAim_9 (fun _ => ?_) (fun c => absurd c b2i_t0)
    refine J_aload_n (i := 0) qX6_readsAim_14 rfl rfl ?_
    refine J_getLe qX6_readsAim_15 fX6_120 (by assumption) (by (repeat first | with_reducible exact wL_e _ _ _ _ | with_reducible apply rdl_i | (with_reducible apply rdl_s; focus omega) | (with_reducible apply rdl_k; focus omega)); first | done | assumption | rfl) ?_
    rw [show tkV T p = tkV T p from rfl] at gv
    refine J_l2i qX6_readsAim_18 ?_
    rw [gv]
    refine J_ist4 qX6_readsAim_19 (Nat.le_of_ble_eq_true rfl) rfl ?_
    refine J_aload_n (i := 0) qX6_readsAim_21 rfl rfl ?_
    refine J_iload_n (i := 1) qX6_readsAim_22 rfl rfl ?_
    refine J_pushL qX6_readsAim_23 ?_
    refine J_pushL qX6_readsAim_24 ?_
    refine J_vi3 qX6_readsAim_27 kX6_142 (by assumption) (m_number (d := d) hM0 ht g1 (x := lN 0) (y := lN 9) (by decide) (by decide)) (Nat.le_of_ble_eq_true rfl) (fun v1 ν1 hr => ?_)
    rw [show (lN 0).toInt = 0 from rfl, show (lN 9).toInt = 9 from rfl] at hr
    obtain ⟨rfl, k1, k2, k3, k4, k5⟩ := hr
    cases hn2 : numOK T (tkE T p) 0 9 with
    | false =>
      first | refine J_if_ne qX6_readsAim_30 (fun c => absurd b2i_f0 c) (fun _ => ?_) | refine J_if_ne qX6_readsAim_30 (fun _ => ?_) (fun c => absurd c b2i_t0)
      refine J_pushI qX6_readsAim_33 ?_
      refine Jz_ret qX6_readsAim_34 (by first | exact Or.inl rfl | exact Or.inr rfl | assumption) ?_
      rw [show tlF T p = .error (tkS T (tkE T p)) from (if_neg (by rw [hn]; decide)).trans (if_pos hn2)]
      exact ⟨rfl, k4 hn2, (g5.tr k5).s⟩
    | true =>
      obtain ⟨q1, q2, q3⟩ := numOK_at hn2
      have gv2 := l2i_n (k3 hn2) q2 (by omega)
      have hF0 := g5.tr k5
      first | refine J_if_ne qX6_readsAim_30 (fun c => absurd b2i_f0 c) (fun _ => ?_) | refine J_if_ne qX6_readsAim_30 (fun _ => ?_) (fun c => absurd c b2i_t0)
      refine J_aload_n (i := 0) qX6_readsAim_35 rfl rfl ?_
      refine J_getR qX6_readsAim_36 fX6_29 (by assumption) (by assumption) ?_
      refine J_iload_n (i := 2) qX6_readsAim_39 rfl rfl ?_
      refine J_iload_n (i := 3) qX6_readsAim_40 rfl rfl ?_
      refine J_iload (i := 4) qX6_readsAim_41 rfl ?_
      refine J_aload_n (i := 0) qX6_readsAim_43 rfl rfl ?_
      refine J_getLe qX6_readsAim_44 fX6_120 (by assumption) (by (repeat first | with_reducible exact wL_e _ _ _ _ | with_reducible apply rdl_i | (with_reducible apply rdl_s; focus omega) | (with_reducible apply rdl_k; focus omega)); first | done | assumption | rfl) ?_
      refine J_l2i qX6_readsAim_47 ?_
      rw [gv2]
      refine J_si5 qX6_readsAim_48 kX6_148 (m_comes (d := d + 3) b205 (hc.nx hF0) lo hi (tkV T p).toNat (tkV T (tkE T p)).toNat hlt) (Nat.le_of_ble_eq_true rfl) (fun v1 ν2 hr => ?_)
      obtain ⟨-, c1, c2⟩ := hr
      have hR2 : RdM ν2 t T (tkE T (tkE T p)) := ⟨k1.1.s (FrS.c FrS.rf c2), (c2.1 _ _ (by omega)).trans k1.2.1, k1.2.2⟩
      refine J_pop qX6_readsAim_51 rfl ?_
      refine J_aload_n (i := 0) qX6_readsAim_52 rfl rfl ?_
      refine J_iload_n (i := 1) qX6_readsAim_53 rfl rfl ?_
      refine J_vi1 qX6_readsAim_54 kX6_152 (by assumption) (m_ends (d := d) hM0 ht hR2) (Nat.le_of_ble_eq_true rfl) (fun v1 ν3 hr => ?_)
      obtain ⟨rfl, r1, r2, r3⟩ := hr
      have hFS : FrS μ ν3 := ((hF0.s).c c2).tr r3.s
      refine Jz_ret qX6_readsAim_57 (b2i_01 _) ?_
      by_cases cz : tkK T (tkE T (tkE T p)) = 3
      · rw [show tlF T p = .ok ((tkV T p).toNat, (tkV T (tkE T p)).toNat, tkE T (tkE T (tkE T p))) from (if_neg (by rw [hn]; decide)).trans ((if_neg (by rw [hn2]; decide)).trans (if_pos cz))]
        refine ⟨by rw [decide_eq_true cz]; rfl, ⟨r1, c1.nx r3, ok_ins (a := (tkV T p).toNat) (w := (tkV T (tkE T p)).toNat) ho hle hf (by omega) (by omega), ?_, ?_⟩, hFS⟩
        · rw [r3.1 _ _ (by omega), c2.1 _ _ (by omega), hF0.1 _ _ (by omega)]
        · rw [r3.1 _ _ (by omega), c2.1 _ _ (by omega), hF0.1 _ _ (by omega)]
      · rw [show tlF T p = .error (tkS T (tkE T (tkE T p))) from (if_neg (by rw [hn]; decide)).trans ((if_neg (by rw [hn2]; decide)).trans (if_neg cz))]
        exact ⟨by rw [decide_eq_false cz]; rfl, r2 cz, hFS⟩
end MM
