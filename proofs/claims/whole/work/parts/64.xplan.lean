/-! COMPONENT: the plan -/
abbrev PL (s : St) : List (Nat × Nat × Nat) := prtF (sP s).1 true true
theorem look_le (cs : List Cs) (rw mk : Bool) (x : Int32) : ∀ f k, lookF cs rw mk x f k ≤ k + f
  | 0, k => Nat.le_refl _
  | f + 1, k => by
    rw [lookF_succ]
    split
    · omega
    · have := look_le cs rw mk x f (k + 1)
      omega
theorem RelX.pln {μ μ' : Mm} {s : St} (h : RelX μ s) (hF : Fr μ μ' (fun c _ => 32 ≤ c ∧ c ≤ 87)) (hp : AbPl μ' 32 (sP s).1 true true) : RelX (wI μ' 0 11 (nI 0)) s ∧ FrX μ (wI μ' 0 11 (nI 0)) ∧ AbPl (wI μ' 0 11 (nI 0)) 32 (sP s).1 true true := by
  obtain ⟨h1, h2, h3, h4, h5, h6, h7⟩ := (RelX_eq μ s).mp h
  have ag : ∀ lo hi, 0 < lo → (hi < 32 ∨ 87 < lo) → Ag μ (wI μ' 0 11 (nI 0)) lo hi := fun lo hi a b c k x y => by rw [wI_n (by omega)]; exact hF.1 _ _ (by omega)
  have hp2 : AbPl (wI μ' 0 11 (nI 0)) 32 (sP s).1 true true := hp.ag h3.2.2.1.2.1 (fun c k x y => wI_n (by omega))
  refine ⟨(RelX_eq _ _).mpr ⟨h1.ag (ag _ _ (by omega) (by omega)), h2.ag (ag _ _ (by omega) (by omega)), h3.ag (ag _ _ (by omega) (by omega)), h4.ag (ag _ _ (by omega) (by omega)) (ag _ _ (by omega) (by omega)), ⟨?_, ?_, ?_, fun g hg => ?_⟩, Or.inr ⟨wI_e _ _ _ _, hp2⟩, h7⟩, ⟨fun c k hc => ?_, fun c k hc => ?_⟩, hp2⟩
  · rw [wI_n (by omega), hF.1 _ _ (by omega)]; exact h5.1
  · show μ'.2 0 13 = _
    rw [hF.2]; exact h5.2.1
  · rw [wI_n (by omega), hF.1 _ _ (by omega)]; exact h5.2.2.1
  · rw [wI_n (by omega), hF.1 _ _ (by omega)]; exact h5.2.2.2 g hg
  · rw [wI_n (by omega), hF.1 _ _ (by omega)]
  · show μ'.2 c k = _
    rw [hF.2]
theorem RelX.msk {μ : Mm} {s : St} (h : RelX μ s) (v : Int64) : RelX (wL μ 0 13 v) (uMsk s v) ∧ FrX μ (wL μ 0 13 v) := by
  obtain ⟨h1, h2, h3, h4, h5, h6, h7⟩ := (RelX_eq μ s).mp h
  have ag : ∀ lo hi, Ag μ (wL μ 0 13 v) lo hi := fun lo hi c k x y => rfl
  exact ⟨(RelX_eq _ _).mpr ⟨h1.ag (ag _ _), h2.ag (ag _ _), h3.ag (ag _ _), h4.ag (ag _ _) (ag _ _), ⟨h5.1, wL_e _ _ _ _, h5.2.2.1, h5.2.2.2⟩, h6.ag h3.2.2.1.2.1 rfl (ag _ _), h7⟩, fun _ _ _ => rfl, fun c k hc => wL_n (by omega)⟩
def goF (cs : List Cs) (x : Int32) : Int32 := if (prtF cs true true).length = 0 then nI 0 else nI ((pg (prtF cs true true) (lookF cs true true x ((prtF cs true true).length - 1) 0)).2.2 + ptF cs true true (lookF cs true true x ((prtF cs true true).length - 1) 0))
def ownV (cs : List Cs) (x : Int32) (no : Int32) : Int32 := if ownF cs x < 0 then no else nI (cg cs (ix (ownF cs x))).2.2.1
theorem ownV_no {cs : List Cs} {x no : Int32} (e : ownF cs x = -1) : ownV cs x no = no := if_pos (by rw [e]; decide)
theorem ownV_so {cs : List Cs} {x no : Int32} {i : Nat} (e : ownF cs x = nI i) (hi : i < 2147483648) : ownV cs x no = nI (cg cs i).2.2.1 := (if_neg (by rw [e]; exact nI_pos hi)).trans (by rw [e, ix_n hi])
def runS (s : St) (x : Int32) : Int32 × St := (ownV (sP s).1 x (-9), uAsk s (goF (sP s).1 x))
def costS (s : St) : Int32 × St := (nI (priceF (sP s).1 true true), s)
def partS (s : St) (k w : Int32) : Int32 × St := if hasB (PL s).length k && hasB 6 w then (nI 1, uAsk s (vpF (sP s).1 true true (ix k) (ix w))) else (-1, s)
def mkV (cs : List Cs) (i j : Nat) (w : Nat) : Int32 := match w with
  | 1 => (cg cs i).1
  | 2 => (spanF cs i j - numF cs i (j + 1 - i)).toInt32
  | 3 => nI (aimF cs i (j + 1 - i))
  | _ => nI (cg cs i).2.2.1
def markS (s : St) (k w : Int32) : Int32 × St :=
  if hasB (PL s).length k = false ∨ w < nI 1 ∨ nI 4 < w then (-1, s) else if nI (psF (sP s).1 true true (ix k)) = w ∨ (psF (sP s).1 true true (ix k) = 4 ∧ w = nI 1) then (nI 1, uAsk s (mkV (sP s).1 (pg (PL s) (ix k)).1 (pg (PL s) (ix k)).2.1 (ix w))) else (-3, uFnd s 3)
def jumpS (s : St) (k i : Int32) : Int32 × St :=
  if hasB (PL s).length k = false then (-1, s) else if ¬ psF (sP s).1 true true (ix k) = 2 then (-3, uFnd s 3) else if i < 0 ∨ spanF (sP s).1 (pg (PL s) (ix k)).1 (pg (PL s) (ix k)).2.1 ≤ i.toInt64 then (-3, uFnd s 2)
  else (nI 1, uAsk s (ownV (sP s).1 ((cg (sP s).1 (pg (PL s) (ix k)).1).1 + i) (nI 8)))
def mskF (cs : List Cs) (lo a : Int32) : Nat → Int64
  | 0 => lN 0
  | b + 1 => if ownV cs (lo + nI b) (-1) = a then mskF cs lo a b ||| lN 1 <<< ((nI b).toInt64 &&& 63) else mskF cs lo a b
theorem mskF_succ (cs : List Cs) (lo a : Int32) (b : Nat) : mskF cs lo a (b + 1) = if ownV cs (lo + nI b) (-1) = a then mskF cs lo a b ||| lN 1 <<< ((nI b).toInt64 &&& 63) else mskF cs lo a b := rfl
def spN (cs : List Cs) (i j : Nat) : Nat := (spanF cs i j).toInt.toNat
def maskS (s : St) (k a : Int32) : Int32 × St :=
  if hasB (PL s).length k = false ∨ hasB 8 a = false then (-1, s) else if ¬ psF (sP s).1 true true (ix k) = 3 then (-3, uFnd s 3)
  else (nI 1, uMsk s (mskF (sP s).1 (cg (sP s).1 (pg (PL s) (ix k)).1).1 a (spN (sP s).1 (pg (PL s) (ix k)).1 (pg (PL s) (ix k)).2.1)))
theorem sort3 {cs : List Cs} {rw mk : Bool} {i j : Nat} (h : sortF cs rw mk i j = 3) : mkB cs i j = true := by
  unfold sortF at h
  split at h
  · split at h <;> omega
  · split at h
    · split at h
      · rename_i h3; revert h3; cases mk <;> cases mkB cs i j <;> simp
      · omega
    · split at h
      · rename_i h3; revert h3; cases mk <;> cases mkB cs i j <;> simp
      · omega
theorem sort2 {cs : List Cs} {rw mk : Bool} {i j : Nat} (h : sortF cs rw mk i j = 2) : rwB cs i j = true := by
  unfold sortF at h
  split at h
  · split at h <;> omega
  · split at h
    · rename_i h3; revert h3; cases rw <;> cases rwB cs i j <;> simp
    · split at h <;> omega
theorem span_pos {cs : List Cs} (ho : OkC cs) {i j : Nat} (hij : i ≤ j) (hj : j < cs.length) : 1 ≤ (spanF cs i j).toInt := by
  rw [span_i]
  by_cases e : i = j
  · subst e
    have := (ho.1 i hj).1
    rw [Int32.le_iff_toInt_le] at this
    omega
  · have h1 := (ho.1 i (by omega)).1
    have h2 := lo_lt ho i j (by omega) hj
    have h3 := (ho.1 j hj).1
    rw [Int32.le_iff_toInt_le] at h1 h3
    rw [Int32.lt_iff_toInt_lt] at h2
    omega
theorem span_32 {cs : List Cs} {rw mk : Bool} {i j : Nat} (h : sortF cs rw mk i j = 3) : (spanF cs i j).toInt ≤ 32 := by
  have h1 := (of_decide_eq_true (sort3 h)).1
  rw [Int64.lt_iff_toInt_lt, show (lN 32).toInt = 32 from rfl] at h1
  omega
theorem span_64 {cs : List Cs} {rw mk : Bool} {i j : Nat} (h : sortF cs rw mk i j = 2) : (spanF cs i j).toInt ≤ 64 := by
  have h1 := (of_decide_eq_true (sort2 h)).1
  rw [Int64.lt_iff_toInt_lt, show (lN 64).toInt = 64 from rfl] at h1
  omega
theorem at_p {μ : Mm} {p : Nat} {l : List (Nat × Nat × Nat)} (h : AtP μ p 0 l) {k : Nat} (hk : k < l.length) : μ.1 (p + 53) k = nI (pg l k).1 ∧ μ.1 (p + 54) k = nI (pg l k).2.1 ∧ μ.1 (p + 55) k = nI (pg l k).2.2 := by
  have q := h k hk
  rw [Nat.zero_add] at q
  exact q
section XX
variable {G : Gm} {μ : Mm} {d : Nat} {s : St}
theorem x_renew (hL : LayX G) (h : RelX μ s) : Sv mX5_renewPlan (d+14) [.ref 0] G μ (fun μ' => RelX μ' s ∧ FrX μ μ' ∧ AbPl μ' 32 (sP s).1 true true) := by
  obtain ⟨hO, ⟨q0, q1, q2, q3, q4, q5, q6, q7, q8, q9, q10⟩, -, -, -, -, hp3, -, -, -, hpl, -⟩ := hL
  have hplO := hpl.1
  refine Sv_of (ls := [.ref 0]) (by decide +kernel) (Nat.le_of_ble_eq_true rfl) rfl ?_
  rcases h.2.2.2.2.2.1 with e | ⟨e, hp⟩
  · refine J_aload_n (i := 0) qX5_renewPlan_0 rfl rfl ?_
    refine J_getIe qX5_renewPlan_1 fX5_64 (by assumption) (by (repeat first | with_reducible exact wI_e _ _ _ _ | (with_reducible apply rd_s; focus omega) | (with_reducible apply rd_c; focus omega) | (with_reducible apply rd_k; focus omega) | with_reducible exact rd_e (by omega)); first | done | assumption | rfl) ?_
    refine J_if_eq qX5_renewPlan_4 (fun c => absurd c (by decide)) (fun _ => ?_)
    refine J_aload_n (i := 0) qX5_renewPlan_7 rfl rfl ?_
    refine J_getR qX5_renewPlan_8 fX5_53 (by assumption) (by assumption) ?_
    refine J_aload_n (i := 0) qX5_renewPlan_11 rfl rfl ?_
    refine J_getR qX5_renewPlan_12 fX5_21 (by assumption) (by assumption) ?_
    refine J_pushI qX5_renewPlan_15 ?_
    refine J_pushI qX5_renewPlan_16 ?_
    refine J_vv3 qX5_renewPlan_17 kX5_234 (by assumption) (l_make (d := d) (rw := true) (mk := true) hpl hp3 (by omega) h.2.2.1.1 h.2.2.1.2.2.1.1) (Nat.le_of_ble_eq_true rfl) (fun ν hr => ?_)
    obtain ⟨g1, g2⟩ := hr
    refine J_aload_n (i := 0) qX5_renewPlan_20 rfl rfl ?_
    refine J_pushI qX5_renewPlan_21 ?_
    refine J_putI qX5_renewPlan_22 fX5_64p (by assumption) rfl rfl ?_
    refine Jv_ret qX5_renewPlan_25 ?_
    exact h.pln g2 g1
  · refine J_aload_n (i := 0) qX5_renewPlan_0 rfl rfl ?_
    refine J_getIe qX5_renewPlan_1 fX5_64 (by assumption) (by (repeat first | with_reducible exact wI_e _ _ _ _ | (with_reducible apply rd_s; focus omega) | (with_reducible apply rd_c; focus omega) | (with_reducible apply rd_k; focus omega) | with_reducible exact rd_e (by omega)); first | done | assumption | rfl) ?_
    refine J_if_eq qX5_renewPlan_4 (fun _ => ?_) (fun c => absurd rfl c)
    refine Jv_ret qX5_renewPlan_25 ?_
    exact ⟨h, FrX.rf, hp⟩
theorem x_run (hL : LayX G) (h : RelX μ s) (x : Int32) : Si mX5_run (d+15) [.ref 0, .int x] G μ (fun q μ' => q = (runS s x).1 ∧ RelX μ' (runS s x).2 ∧ FrX μ μ') := by
  have hL0 := hL
  obtain ⟨hO, ⟨q0, q1, q2, q3, q4, q5, q6, q7, q8, q9, q10⟩, -, -, -, -, hp3, -, -, -, hpl, -⟩ := hL
  have hplO := hpl.1
  have hpo := hp3.1
  have hpr := hp3.2.1.2.2.1
  have hpa := hp3.2.2.2.1.2.2.1
  refine Si_of (ls := [.ref 0, .int x, .null, .null]) (by decide +kernel) (Nat.le_of_ble_eq_true rfl) rfl ?_
  refine J_aload_n (i := 0) qX5_run_0 rfl rfl ?_
  refine J_vv0 qX5_run_1 kX5_191 (by assumption) (x_renew (d := d) hL0 h) (Nat.le_of_ble_eq_true rfl) (fun ν hr => ?_)
  obtain ⟨h', hF, hA⟩ := hr
  obtain ⟨x1, x2, x3, x4⟩ := h'.2.2.1
  have k2 := x3.2.1
  have pl12 := prt_len true true k2
  refine J_aload_n (i := 0) qX5_run_4 rfl rfl ?_
  refine J_getR qX5_run_5 fX5_53 (by assumption) (by assumption) ?_
  refine J_aload_n (i := 0) qX5_run_8 rfl rfl ?_
  refine J_getR qX5_run_9 fX5_21 (by assumption) (by assumption) ?_
  refine J_iload_n (i := 1) qX5_run_12 rfl rfl ?_
  refine J_vi2 qX5_run_13 kX5_194 (by assumption) (l_partLookingAt (d := d + 14) hpl hp3 hA x1 x) (Nat.le_of_ble_eq_true rfl) (fun v1 μ' hr => ?_)
  obtain ⟨rfl, rfl⟩ := hr
  have fin : ∀ v2 v : Int32, v = goF (sP s).1 x → J mX5_run (d+15) (0, 0) s0 (Ki G (fun q μ' => q = (runS s x).1 ∧ RelX μ' (runS s x).2 ∧ FrX μ μ')) (0, 0) 34 [.ref 0, .int x, .int v2, .null] [.int v, .ref 0] (G, ν) := fun v2 v e => by
    subst e
    obtain ⟨u1, u2⟩ := h'.ask (goF (sP s).1 x)
    have u3 := u1.2.2.1.1
    refine J_putI qX5_run_34 fX5_68p (by assumption) rfl rfl ?_
    refine J_aload_n (i := 0) qX5_run_37 rfl rfl ?_
    refine J_getR qX5_run_38 fX5_21 (by assumption) (by assumption) ?_
    refine J_iload_n (i := 1) qX5_run_41 rfl rfl ?_
    refine J_vi1 qX5_run_42 kX5_188 (by assumption) (p_ownerOf (d := d + 14) hp3 u3 x) (Nat.le_of_ble_eq_true rfl) (fun v1 μ' hr => ?_)
    obtain ⟨rfl, rfl⟩ := hr
    rw [show sP (uAsk s (goF (sP s).1 x)) = sP s from rfl] at u3 ⊢
    rcases own_is (sP s).1 x with e | ⟨i, hi, e⟩
    · rw [e]
      refine J_ist3 qX5_run_45 (Nat.le_of_ble_eq_true rfl) rfl ?_
      refine J_iload_n (i := 3) qX5_run_46 rfl rfl ?_
      refine J_if_ge qX5_run_47 (fun c => absurd c (by decide)) (fun _ => ?_)
      refine J_pushI qX5_run_50 ?_
      refine J_goto qX5_run_52 ?_
      refine Ji_ret qX5_run_64 ?_
      exact ⟨(ownV_no e).symm, u1, hF.tr u2⟩
    · rw [e]
      have e1 := (u3.2.2 i hi).2.2.1
      refine J_ist3 qX5_run_45 (Nat.le_of_ble_eq_true rfl) rfl ?_
      refine J_iload_n (i := 3) qX5_run_46 rfl rfl ?_
      refine J_if_ge_n qX5_run_47 (by omega) ?_
      refine J_aload_n (i := 0) qX5_run_55 rfl rfl ?_
      refine J_getR qX5_run_56 fX5_21 (by assumption) (by assumption) ?_
      refine J_getR qX5_run_59 fX5_170 (by assumption) (by assumption) ?_
      refine J_iload_n (i := 3) qX5_run_62 rfl rfl ?_
      refine J_ialde qX5_run_63 (by assumption) rfl (by omega) (by (repeat first | with_reducible exact wI_e _ _ _ _ | (with_reducible apply rd_s; focus omega) | (with_reducible apply rd_c; focus omega) | (with_reducible apply rd_k; focus omega) | with_reducible exact rd_e (by omega)); first | done | assumption | rfl) ?_
      refine Ji_ret qX5_run_64 ?_
      exact ⟨(ownV_so e (by omega)).symm, u1, hF.tr u2⟩
  by_cases c0 : (prtF (sP s).1 true true).length = 0
  · rw [if_pos c0]
    refine J_ist2 qX5_run_16 (Nat.le_of_ble_eq_true rfl) rfl ?_
    refine J_aload_n (i := 0) qX5_run_17 rfl rfl ?_
    refine J_iload_n (i := 2) qX5_run_18 rfl rfl ?_
    refine J_if_ge qX5_run_19 (fun c => absurd c (by decide)) (fun _ => ?_)
    refine J_pushI qX5_run_22 ?_
    refine J_goto qX5_run_23 ?_
    exact fin _ _ (if_pos c0).symm
  · rw [if_neg c0]
    have lk := look_le (sP s).1 true true x ((prtF (sP s).1 true true).length - 1) 0
    refine J_ist2 qX5_run_16 (Nat.le_of_ble_eq_true rfl) rfl ?_
    refine J_aload_n (i := 0) qX5_run_17 rfl rfl ?_
    refine J_iload_n (i := 2) qX5_run_18 rfl rfl ?_
    refine J_if_ge_n qX5_run_19 (by omega) ?_
    refine J_aload_n (i := 0) qX5_run_26 rfl rfl ?_
    refine J_getR qX5_run_27 fX5_53 (by assumption) (by assumption) ?_
    refine J_iload_n (i := 2) qX5_run_30 rfl rfl ?_
    refine J_vi1 qX5_run_31 kX5_198 (by assumption) (l_stepsThrough (d := d + 13) hpl hA k2 (k := lookF (sP s).1 true true x ((prtF (sP s).1 true true).length - 1) 0) (by omega)) (Nat.le_of_ble_eq_true rfl) (fun v1 μ' hr => ?_)
    obtain ⟨rfl, rfl⟩ := hr
    exact fin _ _ (if_neg c0).symm
theorem x_cost (hL : LayX G) (h : RelX μ s) : Si mX5_cost (d+15) [.ref 0] G μ (fun q μ' => q = (costS s).1 ∧ RelX μ' (costS s).2 ∧ FrX μ μ') := by
  have hL0 := hL
  obtain ⟨hO, ⟨q0, q1, q2, q3, q4, q5, q6, q7, q8, q9, q10⟩, -, -, -, -, hp3, -, -, -, hpl, -⟩ := hL
  have hplO := hpl.1
  refine Si_of (ls := [.ref 0]) (by decide +kernel) (Nat.le_of_ble_eq_true rfl) rfl ?_
  refine J_aload_n (i := 0) qX5_cost_0 rfl rfl ?_
  refine J_vv0 qX5_cost_1 kX5_191 (by assumption) (x_renew (d := d) hL0 h) (Nat.le_of_ble_eq_true rfl) (fun ν hr => ?_)
  obtain ⟨h', hF, hA⟩ := hr
  have e := hA.2.2.1
  refine J_aload_n (i := 0) qX5_cost_4 rfl rfl ?_
  refine J_getR qX5_cost_5 fX5_53 (by assumption) (by assumption) ?_
  refine J_getIe qX5_cost_8 fX5_201 (by assumption) (by (repeat first | with_reducible exact wI_e _ _ _ _ | (with_reducible apply rd_s; focus omega) | (with_reducible apply rd_c; focus omega) | (with_reducible apply rd_k; focus omega) | with_reducible exact rd_e (by omega)); first | done | assumption | rfl) ?_
  refine Ji_ret qX5_cost_11 ?_
  exact ⟨rfl, h', hF⟩
theorem x_part (hL : LayX G) (h : RelX μ s) (k w : Int32) : Si mX5_part (d+15) [.ref 0, .int k, .int w] G μ (fun q μ' => q = (partS s k w).1 ∧ RelX μ' (partS s k w).2 ∧ FrX μ μ') := by
  have hL0 := hL
  obtain ⟨hO, ⟨q0, q1, q2, q3, q4, q5, q6, q7, q8, q9, q10⟩, -, -, -, -, hp3, -, -, -, hpl, -⟩ := hL
  have hplO := hpl.1
  refine Si_of (ls := [.ref 0, .int k, .int w]) (by decide +kernel) (Nat.le_of_ble_eq_true rfl) rfl ?_
  refine J_aload_n (i := 0) qX5_part_0 rfl rfl ?_
  refine J_vv0 qX5_part_1 kX5_191 (by assumption) (x_renew (d := d) hL0 h) (Nat.le_of_ble_eq_true rfl) (fun ν hr => ?_)
  obtain ⟨h', hF, hA⟩ := hr
  obtain ⟨x1, x2, x3, x4⟩ := h'.2.2.1
  have k2 := x3.2.1
  have pl12 := prt_len true true k2
  have bad : (hasB (PL s).length k && hasB 6 w) = false → J mX5_part (d+15) (0, 0) s0 (Ki G (fun q μ' => q = (partS s k w).1 ∧ RelX μ' (partS s k w).2 ∧ FrX μ μ')) (0, 0) 25 [.ref 0, .int k, .int w] [] (G, ν) := fun hz => by
    rw [show partS s k w = (-1, s) from if_neg (by rw [hz]; decide)]
    refine J_pushI qX5_part_25 ?_
    refine Ji_ret qX5_part_26 ?_
    exact ⟨rfl, h', hF⟩
  refine J_aload_n (i := 0) qX5_part_4 rfl rfl ?_
  refine J_getR qX5_part_5 fX5_53 (by assumption) (by assumption) ?_
  refine J_iload_n (i := 1) qX5_part_8 rfl rfl ?_
  refine J_vi1 qX5_part_9 kX5_204 (by assumption) (l_has (d := d + 14) hpl hA k2 k) (Nat.le_of_ble_eq_true rfl) (fun v1 μ' hr => ?_)
  obtain ⟨rfl, rfl⟩ := hr
  cases hb : hasB (prtF (sP s).1 true true).length k with
  | false =>
    first | refine J_if_eq qX5_part_12 (fun _ => ?_) (fun c => absurd b2i_f0 c) | refine J_if_eq qX5_part_12 (fun c => absurd c b2i_t0) (fun _ => ?_)
    exact bad (by rw [hb]; rfl)
  | true =>
    first | refine J_if_eq qX5_part_12 (fun _ => ?_) (fun c => absurd b2i_f0 c) | refine J_if_eq qX5_part_12 (fun c => absurd c b2i_t0) (fun _ => ?_)
    refine J_iload_n (i := 2) qX5_part_15 rfl rfl ?_
    refine J_if_lt qX5_part_16 (fun c1 => ?_) (fun c1 => ?_)
    · exact bad (by rw [show hasB 6 w = false from decide_eq_false (fun q => absurd q.1 (Int32.not_le.mpr c1)), Bool.and_false])
    · refine J_iload_n (i := 2) qX5_part_19 rfl rfl ?_
      refine J_pushI qX5_part_20 ?_
      refine J_icmp_lt qX5_part_22 (fun c2 => ?_) (fun c2 => ?_)
      · have hw : hasB 6 w = true := decide_eq_true ⟨i32_nlt c1, c2⟩
        rw [show partS s k w = (nI 1, uAsk s (vpF (sP s).1 true true (ix k) (ix w))) from if_pos (by rw [hb, hw]; rfl)]
        obtain ⟨kk, hk, rfl⟩ := hasB_of (by omega) hb
        obtain ⟨e, he, rfl⟩ := hasB_of (by omega) hw
        refine J_aload_n (i := 0) qX5_part_27 rfl rfl ?_
        refine J_aload_n (i := 0) qX5_part_28 rfl rfl ?_
        refine J_getR qX5_part_29 fX5_53 (by assumption) (by assumption) ?_
        refine J_aload_n (i := 0) qX5_part_32 rfl rfl ?_
        refine J_getR qX5_part_33 fX5_21 (by assumption) (by assumption) ?_
        refine J_iload_n (i := 1) qX5_part_36 rfl rfl ?_
        refine J_iload_n (i := 2) qX5_part_37 rfl rfl ?_
        refine J_vi3 qX5_part_38 kX5_205 (by assumption) (l_valueOf (d := d + 13) hpl hp3 hA x1 hk he) (Nat.le_of_ble_eq_true rfl) (fun v1 μ' hr => ?_)
        obtain ⟨rfl, rfl⟩ := hr
        refine J_putI qX5_part_41 fX5_68p (by assumption) rfl rfl ?_
        refine J_pushI qX5_part_44 ?_
        refine Ji_ret qX5_part_45 ?_
        obtain ⟨u1, u2⟩ := h'.ask (vpF (sP s).1 true true kk e)
        rw [ix_n (by omega), ix_n (by omega)]
        exact ⟨rfl, u1, hF.tr u2⟩
      · exact bad (by rw [show hasB 6 w = false from decide_eq_false (fun q => absurd q.2 c2), Bool.and_false])
theorem x_markOf (hL : LayX G) (h : RelX μ s) {i j w : Nat} (hij : i ≤ j) (hj : j < (sP s).1.length) (hw : 1 ≤ w) (hw4 : w ≤ 4) : Si mX5_markOf (d+2) [.ref 0, .int (nI i), .int (nI j), .int (nI w)] G μ (fun q μ' => μ = μ' ∧ q = mkV (sP s).1 i j w) := by
  obtain ⟨hO, ⟨q0, q1, q2, q3, q4, q5, q6, q7, q8, q9, q10⟩, -, -, -, -, hp3, -⟩ := hL
  have hpo := hp3.1
  have hpr := hp3.2.1.2.2.1
  have hpa := hp3.2.2.2.1.2.2.1
  have hpr0 := hp3.2.1.1
  have hpa0 := hp3.2.2.2.1.1
  obtain ⟨x1, x2, x3, x4⟩ := h.2.2.1
  have k2 := x3.2.1
  have e1 := (x1.2.2 i (by omega)).1
  have e3 := (x1.2.2 i (by omega)).2.2.1
  refine Si_of (ls := [.ref 0, .int (nI i), .int (nI j), .int (nI w)]) (by decide +kernel) (Nat.le_of_ble_eq_true rfl) rfl ?_
  refine J_iload_n (i := 3) qX5_markOf_0 rfl rfl ?_
  match w, hw, hw4 with
  | 1, _, _ =>
    refine J_tabIn (tgt := 28) qX5_markOf_1 (by decide) (by decide) rfl (by decide) ?_
    refine J_aload_n (i := 0) qX5_markOf_28 rfl rfl ?_
    refine J_getR qX5_markOf_29 fX5_21 (by assumption) (by assumption) ?_
    refine J_getR qX5_markOf_32 fX5_221 (by assumption) (by assumption) ?_
    refine J_iload_n (i := 1) qX5_markOf_35 rfl rfl ?_
    refine J_ialde qX5_markOf_36 (by assumption) rfl (by omega) (by (repeat first | with_reducible exact wI_e _ _ _ _ | (with_reducible apply rd_s; focus omega) | (with_reducible apply rd_c; focus omega) | (with_reducible apply rd_k; focus omega) | with_reducible exact rd_e (by omega)); first | done | assumption | rfl) ?_
    refine Ji_ret qX5_markOf_37 ?_
    exact ⟨rfl, rfl⟩
  | 2, _, _ =>
    refine J_tabIn (tgt := 38) qX5_markOf_1 (by decide) (by decide) rfl (by decide) ?_
    refine J_aload_n (i := 0) qX5_markOf_38 rfl rfl ?_
    refine J_getR qX5_markOf_39 fX5_21 (by assumption) (by assumption) ?_
    refine J_iload_n (i := 1) qX5_markOf_42 rfl rfl ?_
    refine J_iload_n (i := 2) qX5_markOf_43 rfl rfl ?_
    refine J_vl2 qX5_markOf_44 kX5_224 (by assumption) (p_span (d := d + 1) hp3 x1 (i := i) (j := j) (by omega) hj) (Nat.le_of_ble_eq_true rfl) (fun v1 μ' hr => ?_)
    obtain ⟨rfl, rfl⟩ := hr
    refine J_aload_n (i := 0) qX5_markOf_47 rfl rfl ?_
    refine J_getR qX5_markOf_48 fX5_21 (by assumption) (by assumption) ?_
    refine J_iload_n (i := 1) qX5_markOf_51 rfl rfl ?_
    refine J_iload_n (i := 2) qX5_markOf_52 rfl rfl ?_
    refine J_vl2 qX5_markOf_53 kX5_228 (by assumption) (p_numbersIn (d := d) hp3 x1 hij hj) (Nat.le_of_ble_eq_true rfl) (fun v1 μ' hr => ?_)
    obtain ⟨rfl, rfl⟩ := hr
    refine J_lsub qX5_markOf_56 ?_
    refine J_l2i qX5_markOf_57 ?_
    refine Ji_ret qX5_markOf_58 ?_
    exact ⟨rfl, rfl⟩
  | 3, _, _ =>
    refine J_tabIn (tgt := 59) qX5_markOf_1 (by decide) (by decide) rfl (by decide) ?_
    refine J_aload_n (i := 0) qX5_markOf_59 rfl rfl ?_
    refine J_getR qX5_markOf_60 fX5_21 (by assumption) (by assumption) ?_
    refine J_iload_n (i := 1) qX5_markOf_63 rfl rfl ?_
    refine J_iload_n (i := 2) qX5_markOf_64 rfl rfl ?_
    refine J_vi2 qX5_markOf_65 kX5_231 (by assumption) (p_aimsIn (d := d) hp3 x1 x3.1 hij hj) (Nat.le_of_ble_eq_true rfl) (fun v1 μ' hr => ?_)
    obtain ⟨rfl, rfl⟩ := hr
    refine Ji_ret qX5_markOf_68 ?_
    exact ⟨rfl, rfl⟩
  | 4, _, _ =>
    refine J_tabOut (tgt := 69) qX5_markOf_1 (by decide) (by decide) ?_
    refine J_aload_n (i := 0) qX5_markOf_69 rfl rfl ?_
    refine J_getR qX5_markOf_70 fX5_21 (by assumption) (by assumption) ?_
    refine J_getR qX5_markOf_73 fX5_170 (by assumption) (by assumption) ?_
    refine J_iload_n (i := 1) qX5_markOf_76 rfl rfl ?_
    refine J_ialde qX5_markOf_77 (by assumption) rfl (by omega) (by (repeat first | with_reducible exact wI_e _ _ _ _ | (with_reducible apply rd_s; focus omega) | (with_reducible apply rd_c; focus omega) | (with_reducible apply rd_k; focus omega) | with_reducible exact rd_e (by omega)); first | done | assumption | rfl) ?_
    refine Ji_ret qX5_markOf_78 ?_
    exact ⟨rfl, rfl⟩
theorem x_mark (hL : LayX G) (h : RelX μ s) (k w : Int32) : Si mX5_mark (d+15) [.ref 0, .int k, .int w] G μ (fun q μ' => q = (markS s k w).1 ∧ RelX μ' (markS s k w).2 ∧ FrX μ μ') := by
  have hL0 := hL
  obtain ⟨hO, ⟨q0, q1, q2, q3, q4, q5, q6, q7, q8, q9, q10⟩, -, -, -, -, hp3, -, -, -, hpl, -⟩ := hL
  have hplO := hpl.1
  have hplf := hpl.2.1.2.2.2.2.1
  have hpll := hpl.2.1.2.2.2.2.2.1
  have hpf := hpl.2.2.1.2.2.2.2.1
  have hpz := hpl.2.2.1.2.2.2.2.2.1
  refine Si_of (ls := [.ref 0, .int k, .int w, .null]) (by decide +kernel) (Nat.le_of_ble_eq_true rfl) rfl ?_
  refine J_aload_n (i := 0) qX5_mark_0 rfl rfl ?_
  refine J_vv0 qX5_mark_1 kX5_191 (by assumption) (x_renew (d := d) hL0 h) (Nat.le_of_ble_eq_true rfl) (fun ν hr => ?_)
  obtain ⟨h', hF, hA⟩ := hr
  have k2 := h'.2.2.1.2.2.1.2.1
  have pl12 := prt_len true true k2
  have bad : (hasB (PL s).length k = false ∨ w < nI 1 ∨ nI 4 < w) → J mX5_mark (d+15) (0, 0) s0 (Ki G (fun q μ' => q = (markS s k w).1 ∧ RelX μ' (markS s k w).2 ∧ FrX μ μ')) (0, 0) 25 [.ref 0, .int k, .int w, .null] [] (G, ν) := fun hz => by
    rw [show markS s k w = (-1, s) from if_pos hz]
    refine J_pushI qX5_mark_25 ?_
    refine Ji_ret qX5_mark_26 ?_
    exact ⟨rfl, h', hF⟩
  refine J_aload_n (i := 0) qX5_mark_4 rfl rfl ?_
  refine J_getR qX5_mark_5 fX5_53 (by assumption) (by assumption) ?_
  refine J_iload_n (i := 1) qX5_mark_8 rfl rfl ?_
  refine J_vi1 qX5_mark_9 kX5_204 (by assumption) (l_has (d := d + 14) hpl hA k2 k) (Nat.le_of_ble_eq_true rfl) (fun v1 μ' hr => ?_)
  obtain ⟨rfl, rfl⟩ := hr
  cases hb : hasB (prtF (sP s).1 true true).length k with
  | false =>
    first | refine J_if_eq qX5_mark_12 (fun _ => ?_) (fun c => absurd b2i_f0 c) | refine J_if_eq qX5_mark_12 (fun c => absurd c b2i_t0) (fun _ => ?_)
    exact bad (Or.inl hb)
  | true =>
    first | refine J_if_eq qX5_mark_12 (fun _ => ?_) (fun c => absurd b2i_f0 c) | refine J_if_eq qX5_mark_12 (fun c => absurd c b2i_t0) (fun _ => ?_)
    refine J_iload_n (i := 2) qX5_mark_15 rfl rfl ?_
    refine J_pushI qX5_mark_16 ?_
    refine J_icmp_lt qX5_mark_17 (fun c1 => bad (Or.inr (Or.inl c1))) (fun c1 => ?_)
    refine J_iload_n (i := 2) qX5_mark_20 rfl rfl ?_
    refine J_pushI qX5_mark_21 ?_
    refine J_icmp_le qX5_mark_22 (fun c2 => ?_) (fun c2 => bad (Or.inr (Or.inr (i32_nle c2))))
    clear bad
    have e1 : markS s k w = if nI (psF (sP s).1 true true (ix k)) = w ∨ (psF (sP s).1 true true (ix k) = 4 ∧ w = nI 1) then (nI 1, uAsk s (mkV (sP s).1 (pg (PL s) (ix k)).1 (pg (PL s) (ix k)).2.1 (ix w))) else (-3, uFnd s 3) := if_neg (fun z => by
      rcases z with z | z | z
      · rw [hb] at z; cases z
      · exact c1 z
      · exact absurd c2 (Int32.not_le.mpr z))
    obtain ⟨kk, hk, rfl⟩ := hasB_of (by omega) hb
    obtain ⟨ww, hw1, hw4, rfl⟩ : ∃ ww, 1 ≤ ww ∧ ww ≤ 4 ∧ w = nI ww := by
      rw [Int32.lt_iff_toInt_lt, nI_toInt (by omega)] at c1
      rw [Int32.le_iff_toInt_le, nI_toInt (by omega)] at c2
      exact ⟨w.toInt.toNat, by omega, by omega, i32_inj (by rw [nI_toInt (by omega)]; omega)⟩
    have sl := sort_le (sP s).1 true true (pg (prtF (sP s).1 true true) kk).1 (pg (prtF (sP s).1 true true) kk).2.1
    have pa := prt_at k2 hk
    have ap := at_p hA.2.2.2 hk
    have e2 := ap.1
    have e3 := ap.2.1
    refine J_aload_n (i := 0) qX5_mark_27 rfl rfl ?_
    refine J_getR qX5_mark_28 fX5_53 (by assumption) (by assumption) ?_
    refine J_iload_n (i := 1) qX5_mark_31 rfl rfl ?_
    refine J_vi1 qX5_mark_32 kX5_208 (by assumption) (l_sortOf (d := d + 14) hpl hA k2 hk) (Nat.le_of_ble_eq_true rfl) (fun v1 μ' hr => ?_)
    obtain ⟨rfl, rfl⟩ := hr
    have good : (nI (psF (sP s).1 true true kk) = nI ww ∨ (psF (sP s).1 true true kk = 4 ∧ nI ww = nI 1)) → J mX5_mark (d+15) (0, 0) s0 (Ki G (fun q μ' => q = (markS s (nI kk) (nI ww)).1 ∧ RelX μ' (markS s (nI kk) (nI ww)).2 ∧ FrX μ μ')) (0, 0) 57 [.ref 0, .int (nI kk), .int (nI ww), .int (nI (psF (sP s).1 true true kk))] [] (G, ν) := fun hg => by
      rw [e1, ix_n (by omega), ix_n (by omega), if_pos hg]
      refine J_aload_n (i := 0) qX5_mark_57 rfl rfl ?_
      refine J_aload_n (i := 0) qX5_mark_58 rfl rfl ?_
      refine J_aload_n (i := 0) qX5_mark_59 rfl rfl ?_
      refine J_getR qX5_mark_60 fX5_53 (by assumption) (by assumption) ?_
      refine J_getR qX5_mark_63 fX5_211 (by assumption) (by assumption) ?_
      refine J_iload_n (i := 1) qX5_mark_66 rfl rfl ?_
      refine J_ialde qX5_mark_67 (by assumption) rfl (by omega) (by (repeat first | with_reducible exact wI_e _ _ _ _ | (with_reducible apply rd_s; focus omega) | (with_reducible apply rd_c; focus omega) | (with_reducible apply rd_k; focus omega) | with_reducible exact rd_e (by omega)); first | done | assumption | rfl) ?_
      refine J_aload_n (i := 0) qX5_mark_68 rfl rfl ?_
      refine J_getR qX5_mark_69 fX5_53 (by assumption) (by assumption) ?_
      refine J_getR qX5_mark_72 fX5_214 (by assumption) (by assumption) ?_
      refine J_iload_n (i := 1) qX5_mark_75 rfl rfl ?_
      refine J_ialde qX5_mark_76 (by assumption) rfl (by omega) (by (repeat first | with_reducible exact wI_e _ _ _ _ | (with_reducible apply rd_s; focus omega) | (with_reducible apply rd_c; focus omega) | (with_reducible apply rd_k; focus omega) | with_reducible exact rd_e (by omega)); first | done | assumption | rfl) ?_
      refine J_iload_n (i := 2) qX5_mark_77 rfl rfl ?_
      refine J_vi3 qX5_mark_78 kX5_217 (by assumption) (x_markOf (d := d + 12) hL0 h' pa.1 pa.2.1 hw1 hw4) (Nat.le_of_ble_eq_true rfl) (fun v1 μ' hr => ?_)
      obtain ⟨rfl, rfl⟩ := hr
      refine J_putI qX5_mark_81 fX5_68p (by assumption) rfl rfl ?_
      refine J_pushI qX5_mark_84 ?_
      refine Ji_ret qX5_mark_85 ?_
      obtain ⟨u1, u2⟩ := h'.ask (mkV (sP s).1 (pg (prtF (sP s).1 true true) kk).1 (pg (prtF (sP s).1 true true) kk).2.1 ww)
      exact ⟨rfl, u1, hF.tr u2⟩
    have wrong : ¬ (nI (psF (sP s).1 true true kk) = nI ww ∨ (psF (sP s).1 true true kk = 4 ∧ nI ww = nI 1)) → J mX5_mark (d+15) (0, 0) s0 (Ki G (fun q μ' => q = (markS s (nI kk) (nI ww)).1 ∧ RelX μ' (markS s (nI kk) (nI ww)).2 ∧ FrX μ μ')) (0, 0) 51 [.ref 0, .int (nI kk), .int (nI ww), .int (nI (psF (sP s).1 true true kk))] [] (G, ν) := fun hg => by
      rw [e1, ix_n (by omega), ix_n (by omega), if_neg hg]
      refine J_aload_n (i := 0) qX5_mark_51 rfl rfl ?_
      refine J_pushI qX5_mark_52 ?_
      refine J_vi1 qX5_mark_53 kX5_86 (by assumption) (x_found (d := d + 14) hL0 h' (f := 3) (by omega)) (Nat.le_of_ble_eq_true rfl) (fun v1 ν1 hr => ?_)
      refine Ji_ret qX5_mark_56 ?_
      exact ⟨hr.1, hr.2.1, hF.tr hr.2.2⟩
    refine J_ist3 qX5_mark_35 (Nat.le_of_ble_eq_true rfl) rfl ?_
    refine J_iload_n (i := 3) qX5_mark_36 rfl rfl ?_
    refine J_iload_n (i := 2) qX5_mark_37 rfl rfl ?_
    refine J_icmp_eq qX5_mark_38 (fun c3 => good (Or.inl c3)) (fun c3 => ?_)
    refine J_iload_n (i := 3) qX5_mark_41 rfl rfl ?_
    refine J_pushI qX5_mark_42 ?_
    refine J_icmp_ne qX5_mark_43 (fun c4 => wrong (fun z => z.elim c3 (fun y => c4 (by rw [y.1])))) (fun c4 => ?_)
    have c4' : psF (sP s).1 true true kk = 4 := (nI_eq (by unfold psF; omega) (by omega)).mp c4
    refine J_iload_n (i := 2) qX5_mark_46 rfl rfl ?_
    refine J_pushI qX5_mark_47 ?_
    refine J_icmp_eq qX5_mark_48 (fun c5 => good (Or.inr ⟨c4', c5⟩)) (fun c5 => wrong (fun z => z.elim c3 (fun y => c5 y.2)))
theorem x_jump (hL : LayX G) (h : RelX μ s) (k i : Int32) : Si mX5_jump (d+15) [.ref 0, .int k, .int i] G μ (fun q μ' => q = (jumpS s k i).1 ∧ RelX μ' (jumpS s k i).2 ∧ FrX μ μ') := by
  have hL0 := hL
  obtain ⟨hO, ⟨q0, q1, q2, q3, q4, q5, q6, q7, q8, q9, q10⟩, -, -, -, -, hp3, -, -, -, hpl, -⟩ := hL
  have hplO := hpl.1
  have hplf := hpl.2.1.2.2.2.2.1
  have hpll := hpl.2.1.2.2.2.2.2.1
  have hpf := hpl.2.2.1.2.2.2.2.1
  have hpz := hpl.2.2.1.2.2.2.2.2.1
  have hpo := hp3.1
  have hpr := hp3.2.1.2.2.1
  have hpa := hp3.2.2.2.1.2.2.1
  have hpr0 := hp3.2.1.1
  have hpa0 := hp3.2.2.2.1.1
  refine Si_of (ls := [.ref 0, .int k, .int i, .null, .null]) (by decide +kernel) (Nat.le_of_ble_eq_true rfl) rfl ?_
  refine J_aload_n (i := 0) qX5_jump_0 rfl rfl ?_
  refine J_vv0 qX5_jump_1 kX5_191 (by assumption) (x_renew (d := d) hL0 h) (Nat.le_of_ble_eq_true rfl) (fun ν hr => ?_)
  obtain ⟨h', hF, hA⟩ := hr
  obtain ⟨x1, x2, x3, x4⟩ := h'.2.2.1
  have k2 := x3.2.1
  have pl12 := prt_len true true k2
  refine J_aload_n (i := 0) qX5_jump_4 rfl rfl ?_
  refine J_getR qX5_jump_5 fX5_53 (by assumption) (by assumption) ?_
  refine J_iload_n (i := 1) qX5_jump_8 rfl rfl ?_
  refine J_vi1 qX5_jump_9 kX5_204 (by assumption) (l_has (d := d + 14) hpl hA k2 k) (Nat.le_of_ble_eq_true rfl) (fun v1 μ' hr => ?_)
  obtain ⟨rfl, rfl⟩ := hr
  cases hb : hasB (prtF (sP s).1 true true).length k with
  | false =>
    first | refine J_if_ne qX5_jump_12 (fun c => absurd b2i_f0 c) (fun _ => ?_) | refine J_if_ne qX5_jump_12 (fun _ => ?_) (fun c => absurd c b2i_t0)
    rw [show jumpS s k i = (-1, s) from if_pos hb]
    refine J_pushI qX5_jump_15 ?_
    refine Ji_ret qX5_jump_16 ?_
    exact ⟨rfl, h', hF⟩
  | true =>
    first | refine J_if_ne qX5_jump_12 (fun c => absurd b2i_f0 c) (fun _ => ?_) | refine J_if_ne qX5_jump_12 (fun _ => ?_) (fun c => absurd c b2i_t0)
    have e1 : jumpS s k i = if ¬ psF (sP s).1 true true (ix k) = 2 then (-3, uFnd s 3) else if i < 0 ∨ spanF (sP s).1 (pg (PL s) (ix k)).1 (pg (PL s) (ix k)).2.1 ≤ i.toInt64 then (-3, uFnd s 2) else (nI 1, uAsk s (ownV (sP s).1 ((cg (sP s).1 (pg (PL s) (ix k)).1).1 + i) (nI 8))) := if_neg (by rw [hb]; decide)
    obtain ⟨kk, hk, rfl⟩ := hasB_of (by omega) hb
    have sl := sort_le (sP s).1 true true (pg (prtF (sP s).1 true true) kk).1 (pg (prtF (sP s).1 true true) kk).2.1
    have pa := prt_at k2 hk
    have ap := at_p hA.2.2.2 hk
    have e2 := ap.1
    have e3 := ap.2.1
    have e4 := (x1.2.2 (pg (prtF (sP s).1 true true) kk).1 (by omega)).1
    refine J_aload_n (i := 0) qX5_jump_17 rfl rfl ?_
    refine J_getR qX5_jump_18 fX5_53 (by assumption) (by assumption) ?_
    refine J_iload_n (i := 1) qX5_jump_21 rfl rfl ?_
    refine J_vi1 qX5_jump_22 kX5_208 (by assumption) (l_sortOf (d := d + 14) hpl hA k2 hk) (Nat.le_of_ble_eq_true rfl) (fun v1 μ' hr => ?_)
    obtain ⟨rfl, rfl⟩ := hr
    refine J_pushI qX5_jump_25 ?_
    refine J_icmp_eq qX5_jump_26 (fun c1 => ?_) (fun c1 => ?_)
    · have c1' : psF (sP s).1 true true kk = 2 := (nI_eq (by unfold psF; omega) (by omega)).mp c1
      have out : (i < 0 ∨ spanF (sP s).1 (pg (PL s) kk).1 (pg (PL s) kk).2.1 ≤ i.toInt64) → J mX5_jump (d+15) (0, 0) s0 (Ki G (fun q μ' => q = (jumpS s (nI kk) i).1 ∧ RelX μ' (jumpS s (nI kk) i).2 ∧ FrX μ μ')) (0, 0) 72 [.ref 0, .int (nI kk), .int i, .int (nI (pg (prtF (sP s).1 true true) kk).1), .null] [] (G, ν) := fun hz => by
        rw [e1, ix_n (by omega), if_neg (fun z => z c1'), if_pos hz]
        refine J_aload_n (i := 0) qX5_jump_72 rfl rfl ?_
        refine J_pushI qX5_jump_73 ?_
        refine J_vi1 qX5_jump_74 kX5_86 (by assumption) (x_found (d := d + 14) hL0 h' (f := 2) (by omega)) (Nat.le_of_ble_eq_true rfl) (fun v1 ν1 hr => ?_)
        refine Ji_ret qX5_jump_77 ?_
        exact ⟨hr.1, hr.2.1, hF.tr hr.2.2⟩
      refine J_aload_n (i := 0) qX5_jump_35 rfl rfl ?_
      refine J_getR qX5_jump_36 fX5_53 (by assumption) (by assumption) ?_
      refine J_getR qX5_jump_39 fX5_211 (by assumption) (by assumption) ?_
      refine J_iload_n (i := 1) qX5_jump_42 rfl rfl ?_
      refine J_ialde qX5_jump_43 (by assumption) rfl (by omega) (by (repeat first | with_reducible exact wI_e _ _ _ _ | (with_reducible apply rd_s; focus omega) | (with_reducible apply rd_c; focus omega) | (with_reducible apply rd_k; focus omega) | with_reducible exact rd_e (by omega)); first | done | assumption | rfl) ?_
      refine J_ist3 qX5_jump_44 (Nat.le_of_ble_eq_true rfl) rfl ?_
      refine J_iload_n (i := 2) qX5_jump_45 rfl rfl ?_
      refine J_if_lt qX5_jump_46 (fun c2 => out (Or.inl c2)) (fun c2 => ?_)
      refine J_iload_n (i := 2) qX5_jump_49 rfl rfl ?_
      refine J_i2l qX5_jump_50 ?_
      refine J_aload_n (i := 0) qX5_jump_51 rfl rfl ?_
      refine J_getR qX5_jump_52 fX5_21 (by assumption) (by assumption) ?_
      refine J_iload_n (i := 3) qX5_jump_55 rfl rfl ?_
      refine J_aload_n (i := 0) qX5_jump_56 rfl rfl ?_
      refine J_getR qX5_jump_57 fX5_53 (by assumption) (by assumption) ?_
      refine J_getR qX5_jump_60 fX5_214 (by assumption) (by assumption) ?_
      refine J_iload_n (i := 1) qX5_jump_63 rfl rfl ?_
      refine J_ialde qX5_jump_64 (by assumption) rfl (by omega) (by (repeat first | with_reducible exact wI_e _ _ _ _ | (with_reducible apply rd_s; focus omega) | (with_reducible apply rd_c; focus omega) | (with_reducible apply rd_k; focus omega) | with_reducible exact rd_e (by omega)); first | done | assumption | rfl) ?_
      refine J_vl2 qX5_jump_65 kX5_224 (by assumption) (p_span (d := d + 14) hp3 x1 (i := (pg (prtF (sP s).1 true true) kk).1) (j := (pg (prtF (sP s).1 true true) kk).2.1) (by omega) pa.2.1) (Nat.le_of_ble_eq_true rfl) (fun v1 μ' hr => ?_)
      obtain ⟨rfl, rfl⟩ := hr
      refine J_lif_lt qX5_jump_68 qX5_jump_69 (fun c3 => ?_) (fun c3 => out (Or.inr (Int64.not_lt.mp c3)))
      clear out
      refine J_aload_n (i := 0) qX5_jump_78 rfl rfl ?_
      refine J_getR qX5_jump_79 fX5_21 (by assumption) (by assumption) ?_
      refine J_aload_n (i := 0) qX5_jump_82 rfl rfl ?_
      refine J_getR qX5_jump_83 fX5_21 (by assumption) (by assumption) ?_
      refine J_getR qX5_jump_86 fX5_221 (by assumption) (by assumption) ?_
      refine J_iload_n (i := 3) qX5_jump_89 rfl rfl ?_
      refine J_ialde qX5_jump_90 (by assumption) rfl (by omega) (by (repeat first | with_reducible exact wI_e _ _ _ _ | (with_reducible apply rd_s; focus omega) | (with_reducible apply rd_c; focus omega) | (with_reducible apply rd_k; focus omega) | with_reducible exact rd_e (by omega)); first | done | assumption | rfl) ?_
      refine J_iload_n (i := 2) qX5_jump_91 rfl rfl ?_
      refine J_iadd qX5_jump_92 ?_
      refine J_vi1 qX5_jump_93 kX5_188 (by assumption) (p_ownerOf (d := d + 14) hp3 x1 _) (Nat.le_of_ble_eq_true rfl) (fun v1 μ' hr => ?_)
      obtain ⟨rfl, rfl⟩ := hr
      have fin : ∀ v v2 : Int32, v = ownV (sP s).1 ((cg (sP s).1 (pg (PL s) kk).1).1 + i) (nI 8) → J mX5_jump (d+15) (0, 0) s0 (Ki G (fun q μ' => q = (jumpS s (nI kk) i).1 ∧ RelX μ' (jumpS s (nI kk) i).2 ∧ FrX μ μ')) (0, 0) 119 [.ref 0, .int (nI kk), .int i, .int (nI (pg (prtF (sP s).1 true true) kk).1), .int v2] [.int v, .ref 0] (G, ν) := fun v v2 hz => by
        rw [e1, ix_n (by omega), if_neg (fun z => z c1'), if_neg (fun z => z.elim c2 (fun y => absurd c3 (Int64.not_lt.mpr y))), ← hz]
        refine J_putI qX5_jump_119 fX5_68p (by assumption) rfl rfl ?_
        refine J_pushI qX5_jump_122 ?_
        refine Ji_ret qX5_jump_123 ?_
        obtain ⟨u1, u2⟩ := h'.ask v
        exact ⟨rfl, u1, hF.tr u2⟩
      rcases own_is (sP s).1 ((cg (sP s).1 (pg (prtF (sP s).1 true true) kk).1).1 + i) with e | ⟨o, ho, e⟩
      · refine J_ist4 qX5_jump_96 (Nat.le_of_ble_eq_true rfl) rfl ?_
        rw [e]
        refine J_aload_n (i := 0) qX5_jump_98 rfl rfl ?_
        refine J_iload (i := 4) qX5_jump_99 rfl ?_
        refine J_if_ge qX5_jump_101 (fun c => absurd c (by decide)) (fun _ => ?_)
        refine J_pushI qX5_jump_104 ?_
        refine J_goto qX5_jump_106 ?_
        exact fin _ _ (ownV_no e).symm
      · have e5 := (x1.2.2 o ho).2.2.1
        refine J_ist4 qX5_jump_96 (Nat.le_of_ble_eq_true rfl) rfl ?_
        rw [e]
        refine J_aload_n (i := 0) qX5_jump_98 rfl rfl ?_
        refine J_iload (i := 4) qX5_jump_99 rfl ?_
        refine J_if_ge_n qX5_jump_101 (by omega) ?_
        refine J_aload_n (i := 0) qX5_jump_109 rfl rfl ?_
        refine J_getR qX5_jump_110 fX5_21 (by assumption) (by assumption) ?_
        refine J_getR qX5_jump_113 fX5_170 (by assumption) (by assumption) ?_
        refine J_iload (i := 4) qX5_jump_116 rfl ?_
        refine J_ialde qX5_jump_118 (by assumption) rfl (by omega) (by (repeat first | with_reducible exact wI_e _ _ _ _ | (with_reducible apply rd_s; focus omega) | (with_reducible apply rd_c; focus omega) | (with_reducible apply rd_k; focus omega) | with_reducible exact rd_e (by omega)); first | done | assumption | rfl) ?_
        exact fin _ _ (ownV_so e (by omega)).symm
    · rw [e1, ix_n (by omega), if_pos (fun z => c1 (by rw [z]))]
      refine J_aload_n (i := 0) qX5_jump_29 rfl rfl ?_
      refine J_pushI qX5_jump_30 ?_
      refine J_vi1 qX5_jump_31 kX5_86 (by assumption) (x_found (d := d + 14) hL0 h' (f := 3) (by omega)) (Nat.le_of_ble_eq_true rfl) (fun v1 ν1 hr => ?_)
      refine Ji_ret qX5_jump_34 ?_
      exact ⟨hr.1, hr.2.1, hF.tr hr.2.2⟩
theorem i2l_lt {b : Nat} {x : Int64} (hb : b < 2147483648) : x ≤ (nI b).toInt64 ↔ x.toInt ≤ (b : Int) := by
  rw [Int64.le_iff_toInt_le, Int32.toInt_toInt64, nI_toInt hb]
theorem x_mask (hL : LayX G) (h : RelX μ s) (k a : Int32) : Si mX5_mask (d+15) [.ref 0, .int k, .int a] G μ (fun q μ' => q = (maskS s k a).1 ∧ RelX μ' (maskS s k a).2 ∧ FrX μ μ') := by
  have hL0 := hL
  obtain ⟨hO, ⟨q0, q1, q2, q3, q4, q5, q6, q7, q8, q9, q10⟩, -, -, -, -, hp3, -, -, -, hpl, -⟩ := hL
  have hplO := hpl.1
  have hplf := hpl.2.1.2.2.2.2.1
  have hpll := hpl.2.1.2.2.2.2.2.1
  have hpf := hpl.2.2.1.2.2.2.2.1
  have hpz := hpl.2.2.1.2.2.2.2.2.1
  have hpo := hp3.1
  have hpr := hp3.2.1.2.2.1
  have hpa := hp3.2.2.2.1.2.2.1
  have hpr0 := hp3.2.1.1
  have hpa0 := hp3.2.2.2.1.1
  refine Si_of (ls := [.ref 0, .int k, .int a, .null, .null, .null, .null, .null, .null, .null]) (by decide +kernel) (Nat.le_of_ble_eq_true rfl) rfl ?_
  refine J_aload_n (i := 0) qX5_mask_0 rfl rfl ?_
  refine J_vv0 qX5_mask_1 kX5_191 (by assumption) (x_renew (d := d) hL0 h) (Nat.le_of_ble_eq_true rfl) (fun ν hr => ?_)
  obtain ⟨h', hF, hA⟩ := hr
  obtain ⟨x1, x2, x3, x4⟩ := h'.2.2.1
  have k2 := x3.2.1
  have pl12 := prt_len true true k2
  have bad : (hasB (PL s).length k = false ∨ hasB 8 a = false) → J mX5_mask (d+15) (0, 0) s0 (Ki G (fun q μ' => q = (maskS s k a).1 ∧ RelX μ' (maskS s k a).2 ∧ FrX μ μ')) (0, 0) 22 [.ref 0, .int k, .int a, .null, .null, .null, .null, .null, .null, .null] [] (G, ν) := fun hz => by
    rw [show maskS s k a = (-1, s) from if_pos hz]
    refine J_pushI qX5_mask_22 ?_
    refine Ji_ret qX5_mask_23 ?_
    exact ⟨rfl, h', hF⟩
  refine J_aload_n (i := 0) qX5_mask_4 rfl rfl ?_
  refine J_getR qX5_mask_5 fX5_53 (by assumption) (by assumption) ?_
  refine J_iload_n (i := 1) qX5_mask_8 rfl rfl ?_
  refine J_vi1 qX5_mask_9 kX5_204 (by assumption) (l_has (d := d + 14) hpl hA k2 k) (Nat.le_of_ble_eq_true rfl) (fun v1 μ' hr => ?_)
  obtain ⟨rfl, rfl⟩ := hr
  cases hb : hasB (prtF (sP s).1 true true).length k with
  | false =>
    first | refine J_if_eq qX5_mask_12 (fun _ => ?_) (fun c => absurd b2i_f0 c) | refine J_if_eq qX5_mask_12 (fun c => absurd c b2i_t0) (fun _ => ?_)
    exact bad (Or.inl hb)
  | true =>
    first | refine J_if_eq qX5_mask_12 (fun _ => ?_) (fun c => absurd b2i_f0 c) | refine J_if_eq qX5_mask_12 (fun c => absurd c b2i_t0) (fun _ => ?_)
    refine J_iload_n (i := 2) qX5_mask_15 rfl rfl ?_
    refine J_si1 qX5_mask_16 kX5_151 (x_isAim a) (Nat.le_of_ble_eq_true rfl) (fun v1 μ' hr => ?_)
    obtain ⟨rfl, rfl⟩ := hr
    cases hb2 : hasB 8 a with
    | false =>
      first | refine J_if_ne qX5_mask_19 (fun c => absurd b2i_f0 c) (fun _ => ?_) | refine J_if_ne qX5_mask_19 (fun _ => ?_) (fun c => absurd c b2i_t0)
      exact bad (Or.inr hb2)
    | true =>
      first | refine J_if_ne qX5_mask_19 (fun c => absurd b2i_f0 c) (fun _ => ?_) | refine J_if_ne qX5_mask_19 (fun _ => ?_) (fun c => absurd c b2i_t0)
      clear bad
      have e1 : maskS s k a = if ¬ psF (sP s).1 true true (ix k) = 3 then (-3, uFnd s 3) else (nI 1, uMsk s (mskF (sP s).1 (cg (sP s).1 (pg (PL s) (ix k)).1).1 a (spN (sP s).1 (pg (PL s) (ix k)).1 (pg (PL s) (ix k)).2.1))) := if_neg (by rw [hb, hb2]; decide)
      obtain ⟨kk, hk, rfl⟩ := hasB_of (by omega) hb
      have sl := sort_le (sP s).1 true true (pg (prtF (sP s).1 true true) kk).1 (pg (prtF (sP s).1 true true) kk).2.1
      have pa := prt_at k2 hk
      have ap := at_p hA.2.2.2 hk
      have e2 := ap.1
      have e3 := ap.2.1
      have e4 := (x1.2.2 (pg (prtF (sP s).1 true true) kk).1 (by omega)).1
      refine J_aload_n (i := 0) qX5_mask_24 rfl rfl ?_
      refine J_getR qX5_mask_25 fX5_53 (by assumption) (by assumption) ?_
      refine J_iload_n (i := 1) qX5_mask_28 rfl rfl ?_
      refine J_vi1 qX5_mask_29 kX5_208 (by assumption) (l_sortOf (d := d + 14) hpl hA k2 hk) (Nat.le_of_ble_eq_true rfl) (fun v1 μ' hr => ?_)
      obtain ⟨rfl, rfl⟩ := hr
      refine J_pushI qX5_mask_32 ?_
      refine J_icmp_eq qX5_mask_33 (fun c1 => ?_) (fun c1 => ?_)
      · have c1' : psF (sP s).1 true true kk = 3 := (nI_eq (by unfold psF; omega) (by omega)).mp c1
        refine J_aload_n (i := 0) qX5_mask_42 rfl rfl ?_
        refine J_getR qX5_mask_43 fX5_53 (by assumption) (by assumption) ?_
        refine J_getR qX5_mask_46 fX5_211 (by assumption) (by assumption) ?_
        refine J_iload_n (i := 1) qX5_mask_49 rfl rfl ?_
        refine J_ialde qX5_mask_50 (by assumption) rfl (by omega) (by (repeat first | with_reducible exact wI_e _ _ _ _ | (with_reducible apply rd_s; focus omega) | (with_reducible apply rd_c; focus omega) | (with_reducible apply rd_k; focus omega) | with_reducible exact rd_e (by omega)); first | done | assumption | rfl) ?_
        refine J_ist3 qX5_mask_51 (Nat.le_of_ble_eq_true rfl) rfl ?_
        refine J_aload_n (i := 0) qX5_mask_52 rfl rfl ?_
        refine J_getR qX5_mask_53 fX5_21 (by assumption) (by assumption) ?_
        refine J_iload_n (i := 3) qX5_mask_56 rfl rfl ?_
        refine J_aload_n (i := 0) qX5_mask_57 rfl rfl ?_
        refine J_getR qX5_mask_58 fX5_53 (by assumption) (by assumption) ?_
        refine J_getR qX5_mask_61 fX5_214 (by assumption) (by assumption) ?_
        refine J_iload_n (i := 1) qX5_mask_64 rfl rfl ?_
        refine J_ialde qX5_mask_65 (by assumption) rfl (by omega) (by (repeat first | with_reducible exact wI_e _ _ _ _ | (with_reducible apply rd_s; focus omega) | (with_reducible apply rd_c; focus omega) | (with_reducible apply rd_k; focus omega) | with_reducible exact rd_e (by omega)); first | done | assumption | rfl) ?_
        refine J_vl2 qX5_mask_66 kX5_224 (by assumption) (p_span (d := d + 14) hp3 x1 (i := (pg (prtF (sP s).1 true true) kk).1) (j := (pg (prtF (sP s).1 true true) kk).2.1) (by omega) pa.2.1) (Nat.le_of_ble_eq_true rfl) (fun v1 μ' hr => ?_)
        obtain ⟨rfl, rfl⟩ := hr
        have s32 : (spanF (sP s).1 (pg (PL s) kk).1 (pg (PL s) kk).2.1).toInt ≤ 32 := span_32 c1'
        have sps : 1 ≤ (spanF (sP s).1 (pg (PL s) kk).1 (pg (PL s) kk).2.1).toInt := span_pos x3.1 pa.1 pa.2.1
        have sn : (spN (sP s).1 (pg (PL s) kk).1 (pg (PL s) kk).2.1 : Int) = (spanF (sP s).1 (pg (PL s) kk).1 (pg (PL s) kk).2.1).toInt := by unfold spN; omega
        refine J_lst4 qX5_mask_69 (Nat.le_of_ble_eq_true rfl) rfl ?_
        refine J_pushL qX5_mask_71 ?_
        refine J_lst6 qX5_mask_72 (Nat.le_of_ble_eq_true rfl) rfl ?_
        refine J_pushI qX5_mask_74 ?_
        refine J_ist8 qX5_mask_75 (Nat.le_of_ble_eq_true rfl) rfl ?_
        generalize hlo : (cg (sP s).1 (pg (PL s) kk).1).1 = lo at e4 ⊢
        generalize hN : spN (sP s).1 (pg (PL s) kk).1 (pg (PL s) kk).2.1 = N at sn ⊢
        generalize hsp : spanF (sP s).1 (pg (PL s) kk).1 (pg (PL s) kk).2.1 = sp at s32 sps sn ⊢
        have H : ∀ b, b ≤ N → ∀ v9 : Value, J mX5_mask (d+15) (0, 0) s0 (Ki G (fun q μ' => q = (maskS s (nI kk) a).1 ∧ RelX μ' (maskS s (nI kk) a).2 ∧ FrX μ μ')) (0, 0) 77 [.ref 0, .int (nI kk), .int a, .int (nI (pg (prtF (sP s).1 true true) kk).1), .long sp, .null, .long (mskF (sP s).1 lo a b), .null, .int (nI b), v9] [] (G, ν) := by
          refine ind_up (fun b hbN ih v9 => ?_)
          have fin : b = N → J mX5_mask (d+15) (0, 0) s0 (Ki G (fun q μ' => q = (maskS s (nI kk) a).1 ∧ RelX μ' (maskS s (nI kk) a).2 ∧ FrX μ μ')) (0, 0) 148 [.ref 0, .int (nI kk), .int a, .int (nI (pg (prtF (sP s).1 true true) kk).1), .long sp, .null, .long (mskF (sP s).1 lo a b), .null, .int (nI b), v9] [] (G, ν) := fun e => by
            refine J_aload_n (i := 0) qX5_mask_148 rfl rfl ?_
            refine J_lload (i := 6) qX5_mask_149 rfl ?_
            refine J_putL qX5_mask_151 fX5_72p (by assumption) rfl rfl ?_
            refine J_pushI qX5_mask_154 ?_
            refine Ji_ret qX5_mask_155 ?_
            obtain ⟨u1, u2⟩ := h'.msk (mskF (sP s).1 lo a b)
            rw [e1, ix_n (by omega), if_neg (fun z => z c1'), hlo, hN, ← e]
            exact ⟨rfl, u1, hF.tr u2⟩
          refine J_iload (i := 8) qX5_mask_77 rfl ?_
          refine J_i2l qX5_mask_79 ?_
          refine J_lload (i := 4) qX5_mask_80 rfl ?_
          refine J_lif_ge qX5_mask_82 qX5_mask_83 (fun c2 => ?_) (fun c2 => ?_)
          · rw [i2l_lt (by omega)] at c2
            exact fin (by omega)
          · rw [i2l_lt (by omega)] at c2
            refine J_iload (i := 8) qX5_mask_86 rfl ?_
            refine J_pushI qX5_mask_88 ?_
            first | with_reducible refine J_icmp_ge_n qX5_mask_90 (by omega) (by omega) (fun c3 => ?_) (fun c3 => ?_) | refine J_icmp_ge qX5_mask_90 (fun c3 => ?_) (fun c3 => ?_)
            · omega
            · have next : ∀ (v9 : Value) (z : Int64), z = mskF (sP s).1 lo a (b + 1) → J mX5_mask (d+15) (0, 0) s0 (Ki G (fun q μ' => q = (maskS s (nI kk) a).1 ∧ RelX μ' (maskS s (nI kk) a).2 ∧ FrX μ μ')) (0, 0) 142 [.ref 0, .int (nI kk), .int a, .int (nI (pg (prtF (sP s).1 true true) kk).1), .long sp, .null, .long z, .null, .int (nI b), v9] [] (G, ν) := fun v9 z e => by
                subst e
                refine J_inc8 qX5_mask_142 (Nat.le_of_ble_eq_true rfl) (by first | with_reducible exact nI_inc _ | rfl) rfl ?_
                refine J_goto qX5_mask_145 ?_
                exact ih (by omega) v9
              refine J_aload_n (i := 0) qX5_mask_93 rfl rfl ?_
              refine J_getR qX5_mask_94 fX5_21 (by assumption) (by assumption) ?_
              refine J_aload_n (i := 0) qX5_mask_97 rfl rfl ?_
              refine J_getR qX5_mask_98 fX5_21 (by assumption) (by assumption) ?_
              refine J_getR qX5_mask_101 fX5_221 (by assumption) (by assumption) ?_
              refine J_iload_n (i := 3) qX5_mask_104 rfl rfl ?_
              refine J_ialde qX5_mask_105 (by assumption) rfl (by omega) (by (repeat first | with_reducible exact wI_e _ _ _ _ | (with_reducible apply rd_s; focus omega) | (with_reducible apply rd_c; focus omega) | (with_reducible apply rd_k; focus omega) | with_reducible exact rd_e (by omega)); first | done | assumption | rfl) ?_
              refine J_iload (i := 8) qX5_mask_106 rfl ?_
              refine J_iadd qX5_mask_108 ?_
              refine J_vi1 qX5_mask_109 kX5_188 (by assumption) (p_ownerOf (d := d + 14) hp3 x1 _) (Nat.le_of_ble_eq_true rfl) (fun v1 μ' hr => ?_)
              obtain ⟨rfl, rfl⟩ := hr
              refine J_ist9 qX5_mask_112 (Nat.le_of_ble_eq_true rfl) rfl ?_
              rcases own_is (sP s).1 (lo + nI b) with e | ⟨o, ho, e⟩
              · rw [e]
                refine J_iload (i := 9) qX5_mask_114 rfl ?_
                refine J_if_lt qX5_mask_116 (fun _ => ?_) (fun c => absurd (by decide) c)
                refine next _ _ ?_
                rw [mskF_succ, ownV_no e, if_neg (fun z => by rw [← z] at hb2; exact absurd hb2 (by decide))]
              · have e5 := (x1.2.2 o ho).2.2.1
                rw [e]
                refine J_iload (i := 9) qX5_mask_114 rfl ?_
                refine J_if_lt_n qX5_mask_116 (by omega) ?_
                refine J_aload_n (i := 0) qX5_mask_119 rfl rfl ?_
                refine J_getR qX5_mask_120 fX5_21 (by assumption) (by assumption) ?_
                refine J_getR qX5_mask_123 fX5_170 (by assumption) (by assumption) ?_
                refine J_iload (i := 9) qX5_mask_126 rfl ?_
                refine J_ialde qX5_mask_128 (by assumption) rfl (by omega) (by (repeat first | with_reducible exact wI_e _ _ _ _ | (with_reducible apply rd_s; focus omega) | (with_reducible apply rd_c; focus omega) | (with_reducible apply rd_k; focus omega) | with_reducible exact rd_e (by omega)); first | done | assumption | rfl) ?_
                refine J_iload_n (i := 2) qX5_mask_129 rfl rfl ?_
                refine J_icmp_ne qX5_mask_130 (fun c4 => ?_) (fun c4 => ?_)
                · refine next _ _ ?_
                  rw [mskF_succ, ownV_so e (by omega), if_neg c4]
                · refine J_lload (i := 6) qX5_mask_133 rfl ?_
                  refine J_pushL qX5_mask_135 ?_
                  refine J_iload (i := 8) qX5_mask_136 rfl ?_
                  refine J_lshl qX5_mask_138 ?_
                  refine J_lor qX5_mask_139 ?_
                  refine J_lst6 qX5_mask_140 (Nat.le_of_ble_eq_true rfl) rfl ?_
                  refine next _ _ ?_
                  rw [mskF_succ, ownV_so e (by omega), if_pos c4]
        exact H 0 (Nat.zero_le _) .null
      · rw [e1, ix_n (by omega), if_pos (fun z => c1 (by rw [z]))]
        refine J_aload_n (i := 0) qX5_mask_36 rfl rfl ?_
        refine J_pushI qX5_mask_37 ?_
        refine J_vi1 qX5_mask_38 kX5_86 (by assumption) (x_found (d := d + 14) hL0 h' (f := 3) (by omega)) (Nat.le_of_ble_eq_true rfl) (fun v1 ν1 hr => ?_)
        refine Ji_ret qX5_mask_41 ?_
        exact ⟨hr.1, hr.2.1, hF.tr hr.2.2⟩
end XX
