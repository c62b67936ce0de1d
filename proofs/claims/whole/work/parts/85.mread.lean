/-! THE MODEL: readings -/
/-- behind a statement -/
def SOut (t : Nat) (T : List Int32) (x : List Cs × Bool × Nat × Nat) (μ' : Mm) : Prop := RdM μ' t T x.2.2.2 ∧ MC μ' 205 0 x.1 ∧ OkC x.1 ∧ μ'.1 198 13 = b2i x.2.1 ∧ μ'.1 198 14 = nI x.2.2.1 ∧ x.2.2.1 < 10
/-- a CASE with its place read: aim, weight, ; -/
def thenF (T : List Int32) (cs : List Cs) (rt : Bool) (rest : Nat) (o : Except Nat (Int32 × Int32 × Nat)) : Except Nat (List Cs × Bool × Nat × Nat) := match o with
  | .error e => .error e
  | .ok x => match tlF T x.2.2 with
    | .error e => .error e
    | .ok y => .ok (insF cs (x.1, x.2.1, y.1, y.2.1), rt, rest, y.2.2)
theorem then_e {T : List Int32} {cs : List Cs} {rt : Bool} {rest : Nat} {o : Except Nat (Int32 × Int32 × Nat)} {e : Nat} (h : o = .error e) : thenF T cs rt rest o = .error e := by rw [h]; rfl
theorem loF_i {T : List Int32} {p : Nat} (h1 : -2147483648 ≤ tkV T p) (h2 : tkV T p ≤ 2147483647) : (loF T p).toInt = tkV T p := ofI_i h1 (by omega)
theorem MOut.aim {μ ν μ' : Mm} {t : Nat} {T : List Int32} {cs : List Cs} {rt : Bool} {rest p : Nat} {lo hi : Int32} {r : Int32} {o : Except Nat (Int32 × Int32 × Nat)} (ho : o = .ok (lo, hi, p)) (hF : FrS μ ν) (h13 : ν.1 198 13 = b2i rt) (h14 : ν.1 198 14 = nI rest) (hr : rest < 10)
    (h : MOut (tlF T p) ν (fun x μ' => RdM μ' t T x.2.2 ∧ MC μ' 205 0 (insF cs (lo, hi, x.1, x.2.1)) ∧ OkC (insF cs (lo, hi, x.1, x.2.1)) ∧ μ'.1 198 13 = ν.1 198 13 ∧ μ'.1 198 14 = ν.1 198 14) r μ') : MOut (thenF T cs rt rest o) μ (SOut t T) r μ' := by
  rw [ho]
  unfold thenF
  dsimp only
  cases ht : tlF T p with
  | error e =>
    rw [ht] at h
    exact ⟨h.1, h.2.1, hF.tr h.2.2⟩
  | ok y =>
    rw [ht] at h
    obtain ⟨h1, ⟨h2, h3, h4, h5, h6⟩, h7⟩ := h
    exact ⟨h1, ⟨h2, h3, h4, h5.trans h13, h6.trans h14, hr⟩, hF.tr h7⟩
section MM
variable {G : Gm} {μ : Mm} {d t p : Nat} {s : St} {T : List Int32} {cs : List Cs} {rt : Bool} {rest : Nat}
theorem MO01 {α : Type} {o : Except Nat α} {ν : Mm} {P : α → Mm → Prop} {r : Int32} {ν' : Mm} (h : MOut o ν P r ν') : r = 0 ∨ r = 1 := by
  cases o with
  | error e => exact Or.inl h.1
  | ok x => exact Or.inr h.1
theorem m_readsCase (hM : LayM G) (ht : t < 4) (hR : RdM μ t T p) (hc : MC μ 205 0 cs) (ho : OkC cs) (hlt : cs.length < 12) (h13 : μ.1 198 13 = b2i rt) (h14 : μ.1 198 14 = nI rest) (hr9 : rest < 10) : Si mX6_readsCase (d+5) [.ref 198, .int (nI t)] G μ (fun r μ' => MOut (thenF T cs rt rest (nbF T p cs false)) μ (SOut t T) r μ') := by
  have hM0 := hM
  obtain ⟨mO, ⟨f2, f3, f4, f5, f6, f7, f15, -⟩, ⟨b199, b200, b201, b202, b203, b204, b205, -⟩⟩ := hM
  have h12 := hc.2.1
  refine Si_of (ls := [.ref 198, .int (nI t), .null]) (by decide +kernel) (Nat.le_of_ble_eq_true rfl) rfl ?_
  refine J_aload_n (i := 0) qX6_readsCase_0 rfl rfl ?_
  refine J_iload_n (i := 1) qX6_readsCase_1 rfl rfl ?_
  refine J_pushL qX6_readsCase_2 ?_
  refine J_pushL qX6_readsCase_5 ?_
  refine J_vi3 qX6_readsCase_8 kX6_142 (by assumption) (m_number (d := d + 1) hM0 ht hR (x := -2147483648) (y := lN 2147483647) (by decide) (by decide)) (Nat.le_of_ble_eq_true rfl) (fun v1 ν hr => ?_)
  rw [show (-2147483648 : Int64).toInt = -2147483648 from rfl, show (lN 2147483647).toInt = 2147483647 from rfl] at hr
  obtain ⟨rfl, g1, g2, g3, g4, g5⟩ := hr
  cases hn : numOK T p (-2147483648) 2147483647 with
  | false =>
    first | refine J_if_ne qX6_readsCase_11 (fun c => absurd b2i_f0 c) (fun _ => ?_) | refine J_if_ne qX6_readsCase_11 (fun _ => ?_) (fun c => absurd c b2i_t0)
    refine J_pushI qX6_readsCase_14 ?_
    refine Jz_ret qX6_readsCase_15 (by first | exact Or.inl rfl | exact Or.inr rfl | assumption) ?_
    rw [then_e (o := nbF T p cs false) (e := tkS T p) (if_pos hn)]
    exact ⟨rfl, g4 hn, g5.s⟩
  | true =>
    obtain ⟨n1, n2, n3⟩ := numOK_at hn
    have gv : (ν.2 198 11).toInt32 = loF T p := l2i_is (g3 hn) n2 (by omega)
    have of := own_free h12 (loF T p)
    first | refine J_if_ne qX6_readsCase_11 (fun c => absurd b2i_f0 c) (fun _ => ?_) | refine J_if_ne qX6_readsCase_11 (fun _ => ?_) (fun c => absurd c b2i_t0)
    refine J_aload_n (i := 0) qX6_readsCase_16 rfl rfl ?_
    refine J_getLe qX6_readsCase_17 fX6_120 (by assumption) (by (repeat first | with_reducible exact wL_e _ _ _ _ | with_reducible apply rdl_i | (with_reducible apply rdl_s; focus omega) | (with_reducible apply rdl_k; focus omega)); first | done | assumption | rfl) ?_
    refine J_l2i qX6_readsCase_20 ?_
    rw [gv]
    refine J_ist2 qX6_readsCase_21 (Nat.le_of_ble_eq_true rfl) rfl ?_
    refine J_aload_n (i := 0) qX6_readsCase_22 rfl rfl ?_
    refine J_getR qX6_readsCase_23 fX6_29 (by assumption) (by assumption) ?_
    refine J_iload_n (i := 2) qX6_readsCase_26 rfl rfl ?_
    refine J_si2 qX6_readsCase_27 kX6_159 (m_caseOf (d := d + 4) b205 (hc.nx g5) (loF T p)) (Nat.le_of_ble_eq_true rfl) (fun v1 μ' hr => ?_)
    obtain ⟨rfl, rfl⟩ := hr
    refine J_pushI qX6_readsCase_30 ?_
    refine J_icmp_ne qX6_readsCase_32 (fun c1 => ?_) (fun c1 => ?_)
    · rw [decide_eq_false c1] at of
      refine J_aload_n (i := 0) qX6_readsCase_45 rfl rfl ?_
      refine J_vi0 qX6_readsCase_46 kX6_136 (by assumption) (m_fails (d := d + 4) hM0 g2) (Nat.le_of_ble_eq_true rfl) (fun v1 ν1 hr => ?_)
      obtain ⟨rfl, rfl⟩ := hr
      refine Jz_ret qX6_readsCase_49 (by first | exact Or.inl rfl | exact Or.inr rfl | assumption) ?_
      rw [then_e (o := nbF T p cs false) (e := tkS T p) ((if_neg (by rw [hn]; decide)).trans (if_pos of))]
      exact ⟨rfl, wI_e _ _ _ _, (g5.w (by omega)).s⟩
    · rw [decide_eq_true c1] at of
      refine J_aload_n (i := 0) qX6_readsCase_35 rfl rfl ?_
      refine J_iload_n (i := 1) qX6_readsCase_36 rfl rfl ?_
      refine J_iload_n (i := 2) qX6_readsCase_37 rfl rfl ?_
      refine J_iload_n (i := 2) qX6_readsCase_38 rfl rfl ?_
      refine J_vi3 qX6_readsCase_39 kX6_163 (by assumption) (m_readsAim (d := d) hM0 ht g1 (hc.nx g5) ho (loF T p) (loF T p) (Int32.le_refl _) of hlt) (Nat.le_of_ble_eq_true rfl) (fun v1 ν1 hr => ?_)
      refine J_goto qX6_readsCase_42 ?_
      refine Jz_ret qX6_readsCase_49 (MO01 hr) ?_
      exact MOut.aim ((if_neg (by rw [hn]; decide)).trans ((if_neg (by rw [of]; decide)).trans (if_pos rfl))) g5.s ((g5.1 _ _ (by omega)).trans h13) ((g5.1 _ _ (by omega)).trans h14) hr9 hr
theorem m_readsRange (hM : LayM G) (ht : t < 4) (hR : RdM μ t T p) (hc : MC μ 205 0 cs) (ho : OkC cs) (hlt : cs.length < 12) (h13 : μ.1 198 13 = b2i rt) (h14 : μ.1 198 14 = nI rest) (hr9 : rest < 10) : Si mX6_readsRange (d+5) [.ref 198, .int (nI t)] G μ (fun r μ' => MOut (thenF T cs rt rest (nbF T p cs true)) μ (SOut t T) r μ') := by
  have hM0 := hM
  obtain ⟨mO, ⟨f2, f3, f4, f5, f6, f7, f15, -⟩, ⟨b199, b200, b201, b202, b203, b204, b205, -⟩⟩ := hM
  have h12 := hc.2.1
  refine Si_of (ls := [.ref 198, .int (nI t), .null, .null]) (by decide +kernel) (Nat.le_of_ble_eq_true rfl) rfl ?_
  refine J_aload_n (i := 0) qX6_readsRange_0 rfl rfl ?_
  refine J_iload_n (i := 1) qX6_readsRange_1 rfl rfl ?_
  refine J_pushL qX6_readsRange_2 ?_
  refine J_pushL qX6_readsRange_5 ?_
  refine J_vi3 qX6_readsRange_8 kX6_142 (by assumption) (m_number (d := d + 1) hM0 ht hR (x := -2147483648) (y := lN 2147483647) (by decide) (by decide)) (Nat.le_of_ble_eq_true rfl) (fun v1 ν hr => ?_)
  rw [show (-2147483648 : Int64).toInt = -2147483648 from rfl, show (lN 2147483647).toInt = 2147483647 from rfl] at hr
  obtain ⟨rfl, g1, g2, g3, g4, g5⟩ := hr
  cases hn : numOK T p (-2147483648) 2147483647 with
  | false =>
    first | refine J_if_ne qX6_readsRange_11 (fun c => absurd b2i_f0 c) (fun _ => ?_) | refine J_if_ne qX6_readsRange_11 (fun _ => ?_) (fun c => absurd c b2i_t0)
    refine J_pushI qX6_readsRange_14 ?_
    refine Jz_ret qX6_readsRange_15 (by first | exact Or.inl rfl | exact Or.inr rfl | assumption) ?_
    rw [then_e (o := nbF T p cs true) (e := tkS T p) (if_pos hn)]
    exact ⟨rfl, g4 hn, g5.s⟩
  | true =>
    obtain ⟨n1, n2, n3⟩ := numOK_at hn
    have gv : (ν.2 198 11).toInt32 = loF T p := l2i_is (g3 hn) n2 (by omega)
    have of := own_free h12 (loF T p)
    have li := loF_i n2 n3
    first | refine J_if_ne qX6_readsRange_11 (fun c => absurd b2i_f0 c) (fun _ => ?_) | refine J_if_ne qX6_readsRange_11 (fun _ => ?_) (fun c => absurd c b2i_t0)
    refine J_aload_n (i := 0) qX6_readsRange_16 rfl rfl ?_
    refine J_getLe qX6_readsRange_17 fX6_120 (by assumption) (by (repeat first | with_reducible exact wL_e _ _ _ _ | with_reducible apply rdl_i | (with_reducible apply rdl_s; focus omega) | (with_reducible apply rdl_k; focus omega)); first | done | assumption | rfl) ?_
    refine J_l2i qX6_readsRange_20 ?_
    rw [gv]
    refine J_ist2 qX6_readsRange_21 (Nat.le_of_ble_eq_true rfl) rfl ?_
    refine J_aload_n (i := 0) qX6_readsRange_22 rfl rfl ?_
    refine J_getR qX6_readsRange_23 fX6_29 (by assumption) (by assumption) ?_
    refine J_iload_n (i := 2) qX6_readsRange_26 rfl rfl ?_
    refine J_si2 qX6_readsRange_27 kX6_159 (m_caseOf (d := d + 4) b205 (hc.nx g5) (loF T p)) (Nat.le_of_ble_eq_true rfl) (fun v1 μ' hr => ?_)
    obtain ⟨rfl, rfl⟩ := hr
    refine J_pushI qX6_readsRange_30 ?_
    refine J_icmp_eq qX6_readsRange_32 (fun c1 => ?_) (fun c1 => ?_)
    · rw [decide_eq_true c1] at of
      have e0 : nbF T p cs true = if numOK T (tkE T p) (loF T p).toInt 2147483647 = false then .error (tkS T (tkE T p)) else if freeB cs (loF T p) (loF T (tkE T p)) = false then .error (tkS T (tkE T p)) else .ok (loF T p, loF T (tkE T p), tkE T (tkE T p)) := (if_neg (by rw [hn]; decide)).trans ((if_neg (by rw [of]; decide)).trans (if_neg (by decide)))
      refine J_aload_n (i := 0) qX6_readsRange_40 rfl rfl ?_
      refine J_iload_n (i := 1) qX6_readsRange_41 rfl rfl ?_
      refine J_iload_n (i := 2) qX6_readsRange_42 rfl rfl ?_
      refine J_i2l qX6_readsRange_43 ?_
      refine J_pushL qX6_readsRange_44 ?_
      refine J_vi3 qX6_readsRange_47 kX6_142 (by assumption) (m_number (d := d + 1) hM0 ht g1 (x := (loF T p).toInt64) (y := lN 2147483647) (by rw [Int32.toInt_toInt64, li]; exact n2) (by decide)) (Nat.le_of_ble_eq_true rfl) (fun v1 ν1 hr => ?_)
      rw [Int32.toInt_toInt64, show (lN 2147483647).toInt = 2147483647 from rfl] at hr
      obtain ⟨rfl, k1, k2, k3, k4, k5⟩ := hr
      have hF0 := g5.tr k5
      cases hn2 : numOK T (tkE T p) (loF T p).toInt 2147483647 with
      | false =>
        first | refine J_if_ne qX6_readsRange_50 (fun c => absurd b2i_f0 c) (fun _ => ?_) | refine J_if_ne qX6_readsRange_50 (fun _ => ?_) (fun c => absurd c b2i_t0)
        refine J_pushI qX6_readsRange_53 ?_
        refine Jz_ret qX6_readsRange_54 (by first | exact Or.inl rfl | exact Or.inr rfl | assumption) ?_
        rw [then_e (o := nbF T p cs true) (e := tkS T (tkE T p)) (e0.trans (if_pos hn2))]
        exact ⟨rfl, k4 hn2, hF0.s⟩
      | true =>
        obtain ⟨q1, q2, q3⟩ := numOK_at hn2
        have gv2 : (ν1.2 198 11).toInt32 = loF T (tkE T p) := l2i_is (k3 hn2) (by omega) (by omega)
        have hle : loF T p ≤ loF T (tkE T p) := by
          rw [Int32.le_iff_toInt_le, loF_i (T := T) (p := tkE T p) (by omega) q3]
          exact q2
        first | refine J_if_ne qX6_readsRange_50 (fun c => absurd b2i_f0 c) (fun _ => ?_) | refine J_if_ne qX6_readsRange_50 (fun _ => ?_) (fun c => absurd c b2i_t0)
        refine J_aload_n (i := 0) qX6_readsRange_55 rfl rfl ?_
        refine J_getLe qX6_readsRange_56 fX6_120 (by assumption) (by (repeat first | with_reducible exact wL_e _ _ _ _ | with_reducible apply rdl_i | (with_reducible apply rdl_s; focus omega) | (with_reducible apply rdl_k; focus omega)); first | done | assumption | rfl) ?_
        refine J_l2i qX6_readsRange_59 ?_
        rw [gv2]
        refine J_ist3 qX6_readsRange_60 (Nat.le_of_ble_eq_true rfl) rfl ?_
        refine J_aload_n (i := 0) qX6_readsRange_61 rfl rfl ?_
        refine J_getR qX6_readsRange_62 fX6_29 (by assumption) (by assumption) ?_
        refine J_iload_n (i := 2) qX6_readsRange_65 rfl rfl ?_
        refine J_iload_n (i := 3) qX6_readsRange_66 rfl rfl ?_
        refine J_si3 qX6_readsRange_67 kX6_166 (m_isFree (d := d + 4) b205 (hc.nx hF0) (loF T p) (loF T (tkE T p))) (Nat.le_of_ble_eq_true rfl) (fun v1 μ' hr => ?_)
        obtain ⟨rfl, rfl⟩ := hr
        cases hf : freeB cs (loF T p) (loF T (tkE T p)) with
        | false =>
          first | refine J_if_eq qX6_readsRange_70 (fun _ => ?_) (fun c => absurd b2i_f0 c) | refine J_if_eq qX6_readsRange_70 (fun c => absurd c b2i_t0) (fun _ => ?_)
          refine J_aload_n (i := 0) qX6_readsRange_83 rfl rfl ?_
          refine J_vi0 qX6_readsRange_84 kX6_136 (by assumption) (m_fails (d := d + 4) hM0 k2) (Nat.le_of_ble_eq_true rfl) (fun v1 ν2 hr => ?_)
          obtain ⟨rfl, rfl⟩ := hr
          refine Jz_ret qX6_readsRange_87 (by first | exact Or.inl rfl | exact Or.inr rfl | assumption) ?_
          rw [then_e (o := nbF T p cs true) (e := tkS T (tkE T p)) (e0.trans ((if_neg (by rw [hn2]; decide)).trans (if_pos hf)))]
          exact ⟨rfl, wI_e _ _ _ _, (hF0.w (by omega)).s⟩
        | true =>
          first | refine J_if_eq qX6_readsRange_70 (fun _ => ?_) (fun c => absurd b2i_f0 c) | refine J_if_eq qX6_readsRange_70 (fun c => absurd c b2i_t0) (fun _ => ?_)
          refine J_aload_n (i := 0) qX6_readsRange_73 rfl rfl ?_
          refine J_iload_n (i := 1) qX6_readsRange_74 rfl rfl ?_
          refine J_iload_n (i := 2) qX6_readsRange_75 rfl rfl ?_
          refine J_iload_n (i := 3) qX6_readsRange_76 rfl rfl ?_
          refine J_vi3 qX6_readsRange_77 kX6_163 (by assumption) (m_readsAim (d := d) hM0 ht k1 (hc.nx hF0) ho (loF T p) (loF T (tkE T p)) hle hf hlt) (Nat.le_of_ble_eq_true rfl) (fun v1 ν2 hr => ?_)
          refine J_goto qX6_readsRange_80 ?_
          refine Jz_ret qX6_readsRange_87 (MO01 hr) ?_
          exact MOut.aim (e0.trans ((if_neg (by rw [hn2]; decide)).trans (if_neg (by rw [hf]; decide)))) hF0.s ((hF0.1 _ _ (by omega)).trans h13) ((hF0.1 _ _ (by omega)).trans h14) hr9 hr
    · rw [decide_eq_false c1] at of
      refine J_aload_n (i := 0) qX6_readsRange_35 rfl rfl ?_
      refine J_vi0 qX6_readsRange_36 kX6_136 (by assumption) (m_fails (d := d + 4) hM0 g2) (Nat.le_of_ble_eq_true rfl) (fun v1 ν1 hr => ?_)
      obtain ⟨rfl, rfl⟩ := hr
      refine Jz_ret qX6_readsRange_39 (by first | exact Or.inl rfl | exact Or.inr rfl | assumption) ?_
      rw [then_e (o := nbF T p cs true) (e := tkS T p) ((if_neg (by rw [hn]; decide)).trans (if_pos of))]
      exact ⟨rfl, wI_e _ _ _ _, (g5.w (by omega)).s⟩
theorem m_readsName (hM : LayM G) (ht : t < 4) (hR : RdM μ t T p) (hc : MC μ 205 0 cs) (ho : OkC cs) (hlt : cs.length < 12) (h13 : μ.1 198 13 = b2i rt) (h14 : μ.1 198 14 = nI rest) (hr9 : rest < 10) : Si mX6_readsName (d+5) [.ref 198, .int (nI t)] G μ (fun r μ' => MOut (thenF T cs rt rest (nmF T p cs)) μ (SOut t T) r μ') := by
  have hM0 := hM
  obtain ⟨mO, ⟨f2, f3, f4, f5, f6, f7, f15, -⟩, ⟨b199, b200, b201, b202, b203, b204, b205, -⟩⟩ := hM
  have h12 := hc.2.1
  have T120 := hR.1.2.1
  have hp := hR.2.2
  have se := tkE_le hp
  have k4 : tkK T p ≤ 4 := by
    unfold tkK kdA
    split
    · omega
    · split
      · omega
      · split
        · split <;> omega
        · split <;> omega
  refine Si_of (ls := [.ref 198, .int (nI t), .null]) (by decide +kernel) (Nat.le_of_ble_eq_true rfl) rfl ?_
  refine J_aload_n (i := 0) qX6_readsName_0 rfl rfl ?_
  refine J_iload_n (i := 1) qX6_readsName_1 rfl rfl ?_
  refine J_vv1 qX6_readsName_2 kX6_133 (by assumption) (m_next (d := d + 2) hM0 ht hR) (Nat.le_of_ble_eq_true rfl) (fun ν hr => ?_)
  obtain ⟨g1, g2, g3, -, g5⟩ := hr
  have e8 := g1.2.1
  have bad : ¬ (tkK T p = 1 ∧ tkE T p - tkS T p ≤ 6) → J mX6_readsName (d+5) (0, 0) s0 (Ki G (fun r μ' => MOut (thenF T cs rt rest (nmF T p cs)) μ (SOut t T) r μ')) (0, 0) 27 [.ref 198, .int (nI t), .null] [] (G, ν) := fun hz => by
    refine J_aload_n (i := 0) qX6_readsName_27 rfl rfl ?_
    refine J_vi0 qX6_readsName_28 kX6_136 (by assumption) (m_fails (d := d + 4) hM0 g2) (Nat.le_of_ble_eq_true rfl) (fun v1 ν1 hr => ?_)
    obtain ⟨rfl, rfl⟩ := hr
    refine Jz_ret qX6_readsName_31 (by first | exact Or.inl rfl | exact Or.inr rfl | assumption) ?_
    rw [then_e (o := nmF T p cs) (e := tkS T p) (if_neg hz)]
    exact ⟨rfl, wI_e _ _ _ _, (g5.w (by omega)).s⟩
  refine J_aload_n (i := 0) qX6_readsName_5 rfl rfl ?_
  refine J_getIe qX6_readsName_6 fX6_110 (by assumption) (by (repeat first | with_reducible exact wI_e _ _ _ _ | (with_reducible apply rd_s; focus omega) | (with_reducible apply rd_c; focus omega) | (with_reducible apply rd_k; focus omega) | with_reducible exact rd_e (by omega)); first | done | assumption | rfl) ?_
  refine J_pushI qX6_readsName_9 ?_
  refine J_icmp_ne_n qX6_readsName_10 (by omega) (by omega) (fun c1 => bad (fun z => c1 z.1)) (fun c1 => ?_)
  refine J_aload_n (i := 0) qX6_readsName_13 rfl rfl ?_
  refine J_getIe qX6_readsName_14 fX6_97 (by assumption) (by (repeat first | with_reducible exact wI_e _ _ _ _ | (with_reducible apply rd_s; focus omega) | (with_reducible apply rd_c; focus omega) | (with_reducible apply rd_k; focus omega) | with_reducible exact rd_e (by omega)); first | done | assumption | rfl) ?_
  refine J_aload_n (i := 0) qX6_readsName_17 rfl rfl ?_
  refine J_getIe qX6_readsName_18 fX6_107 (by assumption) (by (repeat first | with_reducible exact wI_e _ _ _ _ | (with_reducible apply rd_s; focus omega) | (with_reducible apply rd_c; focus omega) | (with_reducible apply rd_k; focus omega) | with_reducible exact rd_e (by omega)); first | done | assumption | rfl) ?_
  first | with_reducible refine J_isub_n qX6_readsName_21 (by omega) ?_ | refine J_isub qX6_readsName_21 ?_
  refine J_pushI qX6_readsName_22 ?_
  first | with_reducible refine J_icmp_le_n qX6_readsName_24 (by omega) (by omega) (fun c2 => ?_) (fun c2 => ?_) | refine J_icmp_le qX6_readsName_24 (fun c2 => ?_) (fun c2 => ?_)
  · have hz : tkK T p = 1 ∧ tkE T p - tkS T p ≤ 6 := ⟨c1, c2⟩
    have of := own_free h12 (hashF T (tkS T p) (tkE T p - tkS T p))
    refine J_aload_n (i := 0) qX6_readsName_32 rfl rfl ?_
    refine J_iload_n (i := 1) qX6_readsName_33 rfl rfl ?_
    refine J_vi1 qX6_readsName_34 kX6_170 (by assumption) (m_hashOf (d := d + 3) hM0 ht g1 g2 se.1) (Nat.le_of_ble_eq_true rfl) (fun v1 μ' hr => ?_)
    obtain ⟨rfl, rfl⟩ := hr
    refine J_ist2 qX6_readsName_37 (Nat.le_of_ble_eq_true rfl) rfl ?_
    refine J_aload_n (i := 0) qX6_readsName_38 rfl rfl ?_
    refine J_getR qX6_readsName_39 fX6_29 (by assumption) (by assumption) ?_
    refine J_iload_n (i := 2) qX6_readsName_42 rfl rfl ?_
    refine J_si2 qX6_readsName_43 kX6_159 (m_caseOf (d := d + 4) b205 (hc.nx g5) _) (Nat.le_of_ble_eq_true rfl) (fun v1 μ' hr => ?_)
    obtain ⟨rfl, rfl⟩ := hr
    refine J_pushI qX6_readsName_46 ?_
    refine J_icmp_ne qX6_readsName_48 (fun c3 => ?_) (fun c3 => ?_)
    · rw [decide_eq_false c3] at of
      refine J_aload_n (i := 0) qX6_readsName_61 rfl rfl ?_
      refine J_vi0 qX6_readsName_62 kX6_136 (by assumption) (m_fails (d := d + 4) hM0 g2) (Nat.le_of_ble_eq_true rfl) (fun v1 ν1 hr => ?_)
      obtain ⟨rfl, rfl⟩ := hr
      refine Jz_ret qX6_readsName_65 (by first | exact Or.inl rfl | exact Or.inr rfl | assumption) ?_
      rw [then_e (o := nmF T p cs) (e := tkS T p) ((if_pos hz).trans (if_pos of))]
      exact ⟨rfl, wI_e _ _ _ _, (g5.w (by omega)).s⟩
    · rw [decide_eq_true c3] at of
      refine J_aload_n (i := 0) qX6_readsName_51 rfl rfl ?_
      refine J_iload_n (i := 1) qX6_readsName_52 rfl rfl ?_
      refine J_iload_n (i := 2) qX6_readsName_53 rfl rfl ?_
      refine J_iload_n (i := 2) qX6_readsName_54 rfl rfl ?_
      refine J_vi3 qX6_readsName_55 kX6_163 (by assumption) (m_readsAim (d := d) hM0 ht g1 (hc.nx g5) ho _ _ (Int32.le_refl _) of hlt) (Nat.le_of_ble_eq_true rfl) (fun v1 ν1 hr => ?_)
      refine J_goto qX6_readsName_58 ?_
      refine Jz_ret qX6_readsName_65 (MO01 hr) ?_
      exact MOut.aim ((if_pos hz).trans (if_neg (by rw [of]; decide))) g5.s ((g5.1 _ _ (by omega)).trans h13) ((g5.1 _ _ (by omega)).trans h14) hr9 hr
  · exact bad (fun z => absurd z.2 (by omega))
theorem m_readsRest (hM : LayM G) (ht : t < 4) (hR : RdM μ t T p) {q : Nat} (h9 : μ.1 198 9 = nI q) (hc : MC μ 205 0 cs) (ho : OkC cs) (h13 : μ.1 198 13 = b2i rt) : Si mX6_readsRest (d+4) [.ref 198, .int (nI t)] G μ (fun r μ' => MOut (match rsF T q p rt with | .error e => .error e | .ok x => .ok (cs, true, x.1, x.2)) μ (SOut t T) r μ') := by
  have mO := hM.1
  refine Si_of (ls := [.ref 198, .int (nI t)]) (by decide +kernel) (Nat.le_of_ble_eq_true rfl) rfl ?_
  refine J_aload_n (i := 0) qX6_readsRest_0 rfl rfl ?_
  refine J_getIe qX6_readsRest_1 fX6_173 (by assumption) (by (repeat first | with_reducible exact wI_e _ _ _ _ | (with_reducible apply rd_s; focus omega) | (with_reducible apply rd_c; focus omega) | (with_reducible apply rd_k; focus omega) | with_reducible exact rd_e (by omega)); first | done | assumption | rfl) ?_
  cases rt with
  | true =>
    first | refine J_if_eq qX6_readsRest_4 (fun _ => ?_) (fun c => absurd b2i_f0 c) | refine J_if_eq qX6_readsRest_4 (fun c => absurd c b2i_t0) (fun _ => ?_)
    refine J_aload_n (i := 0) qX6_readsRest_7 rfl rfl ?_
    refine J_vi0 qX6_readsRest_8 kX6_136 (by assumption) (m_fails (d := d + 3) hM h9) (Nat.le_of_ble_eq_true rfl) (fun v1 ν1 hr => ?_)
    obtain ⟨rfl, rfl⟩ := hr
    refine Jz_ret qX6_readsRest_11 (by first | exact Or.inl rfl | exact Or.inr rfl | assumption) ?_
    rw [show rsF T q p true = .error q from if_pos rfl]
    exact ⟨rfl, wI_e _ _ _ _, FrS.rf.w (by omega)⟩
  | false =>
    first | refine J_if_eq qX6_readsRest_4 (fun _ => ?_) (fun c => absurd b2i_f0 c) | refine J_if_eq qX6_readsRest_4 (fun c => absurd c b2i_t0) (fun _ => ?_)
    have e0 : rsF T q p false = if numOK T p 0 9 = false then .error (tkS T p) else if tkK T (tkE T p) = 3 then .ok ((tkV T p).toNat, tkE T (tkE T p)) else .error (tkS T (tkE T p)) := if_neg (by decide)
    have hR1 : RdM (wI μ 198 13 (nI 1)) t T p := ⟨hR.1.s (FrS.rf.w (by omega)), (wI_n (by omega)).trans hR.2.1, hR.2.2⟩
    have hF1 : FrS μ (wI μ 198 13 (nI 1)) := FrS.rf.w (by omega)
    have hc1 : MC (wI μ 198 13 (nI 1)) 205 0 cs := hc.ag (fun k _ _ => wI_n (by omega))
    refine J_aload_n (i := 0) qX6_readsRest_12 rfl rfl ?_
    refine J_pushI qX6_readsRest_13 ?_
    refine J_putI qX6_readsRest_14 fX6_173p (by assumption) rfl rfl ?_
    refine J_aload_n (i := 0) qX6_readsRest_17 rfl rfl ?_
    refine J_iload_n (i := 1) qX6_readsRest_18 rfl rfl ?_
    refine J_pushL qX6_readsRest_19 ?_
    refine J_pushL qX6_readsRest_20 ?_
    refine J_vi3 qX6_readsRest_23 kX6_142 (by assumption) (m_number (d := d) hM ht hR1 (x := lN 0) (y := lN 9) (by decide) (by decide)) (Nat.le_of_ble_eq_true rfl) (fun v1 ν hr => ?_)
    rw [show (lN 0).toInt = 0 from rfl, show (lN 9).toInt = 9 from rfl] at hr
    obtain ⟨rfl, g1, g2, g3, g4, g5⟩ := hr
    cases hn : numOK T p 0 9 with
    | false =>
      first | refine J_if_ne qX6_readsRest_26 (fun c => absurd b2i_f0 c) (fun _ => ?_) | refine J_if_ne qX6_readsRest_26 (fun _ => ?_) (fun c => absurd c b2i_t0)
      refine J_pushI qX6_readsRest_29 ?_
      refine Jz_ret qX6_readsRest_30 (by first | exact Or.inl rfl | exact Or.inr rfl | assumption) ?_
      rw [e0, if_pos hn]
      exact ⟨rfl, g4 hn, hF1.tr g5.s⟩
    | true =>
      obtain ⟨n1, n2, n3⟩ := numOK_at hn
      have gv := l2i_n (g3 hn) n2 (by omega)
      rw [if_neg (by rw [hn]; decide)] at e0
      first | refine J_if_ne qX6_readsRest_26 (fun c => absurd b2i_f0 c) (fun _ => ?_) | refine J_if_ne qX6_readsRest_26 (fun _ => ?_) (fun c => absurd c b2i_t0)
      refine J_aload_n (i := 0) qX6_readsRest_31 rfl rfl ?_
      refine J_aload_n (i := 0) qX6_readsRest_32 rfl rfl ?_
      refine J_getLe qX6_readsRest_33 fX6_120 (by assumption) (by (repeat first | with_reducible exact wL_e _ _ _ _ | with_reducible apply rdl_i | (with_reducible apply rdl_s; focus omega) | (with_reducible apply rdl_k; focus omega)); first | done | assumption | rfl) ?_
      refine J_l2i qX6_readsRest_36 ?_
      rw [gv]
      have hR2 : RdM (wI ν 198 14 (nI (tkV T p).toNat)) t T (tkE T p) := ⟨g1.1.s (FrS.rf.w (by omega)), (wI_n (by omega)).trans g1.2.1, g1.2.2⟩
      have hF2 : FrS μ (wI ν 198 14 (nI (tkV T p).toNat)) := (hF1.tr g5.s).w (by omega)
      refine J_putI qX6_readsRest_37 fX6_177p (by assumption) rfl rfl ?_
      refine J_aload_n (i := 0) qX6_readsRest_40 rfl rfl ?_
      refine J_iload_n (i := 1) qX6_readsRest_41 rfl rfl ?_
      refine J_vi1 qX6_readsRest_42 kX6_152 (by assumption) (m_ends (d := d) hM ht hR2) (Nat.le_of_ble_eq_true rfl) (fun v1 ν3 hr => ?_)
      obtain ⟨rfl, r1, r2, r3⟩ := hr
      refine Jz_ret qX6_readsRest_45 (b2i_01 _) ?_
      by_cases cz : tkK T (tkE T p) = 3
      · rw [e0, if_pos cz]
        refine ⟨by rw [decide_eq_true cz]; rfl, ⟨r1, ?_, ho, ?_, ?_, by show (tkV T p).toNat < 10; omega⟩, hF2.tr r3.s⟩
        · exact MC.nx (MC.ag (hc1.nx g5) (fun k _ _ => wI_n (by omega))) r3
        · rw [r3.1 _ _ (by omega), wI_n (by omega), g5.1 _ _ (by omega), wI_e]; rfl
        · rw [r3.1 _ _ (by omega), wI_e]
      · rw [e0, if_neg cz]
        exact ⟨by rw [decide_eq_false cz]; rfl, r2 cz, hF2.tr r3.s⟩
end MM
