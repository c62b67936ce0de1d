/-! COMPONENT: lay, at, mean -/
theorem AbL.set {μ : Mm} {c N : Nat} {l : List Int32} (h : AbL μ c N l) {k : Nat} (hk : k < l.length) (v : Int32) : AbL (wI μ (c + 1) k v) c N (l.set k v) := by
  refine ⟨?_, by rw [List.length_set]; exact h.2.1, fun e he => ?_⟩
  · rw [wI_n (by omega), List.length_set]; exact h.1
  · rw [List.length_set] at he
    by_cases q : e = k
    · subst q; rw [wI_e, List.getD_eq_getElem?_getD, List.getElem?_set_self hk]; rfl
    · rw [wI_n (by omega), h.2.2 e he, List.getD_eq_getElem?_getD, List.getD_eq_getElem?_getD, List.getElem?_set_ne (by omega)]
def meanS (s : St) (r : Int32) : Int32 × St :=
  if hasB 6 r = false then (-1, s) else match sRw s (ix r) with
    | none => (-3, uFnd s 1)
    | some l => if l.length = 0 then (-3, uFnd s 4) else (nI 1, uAsk s ((sumF l l.length / (nI l.length).toInt64).toInt32))
section XX
variable {s : St} {j : Nat} {l : List Int32}
theorem layS_n (hb : hasB 6 (nI j) = true) (hj : j < 6) (ho : sRw s j = none) (i v : Int32) : layS s (nI j) i v = (-3, uFnd s 1) := by
  unfold layS; rw [if_neg (by rw [hb]; decide), ix_n (by omega), ho]
theorem layS_s (hb : hasB 6 (nI j) = true) (hj : j < 6) (ho : sRw s j = some l) (i v : Int32) : layS s (nI j) i v = if hasB l.length i = false then (-3, uFnd s 2) else (nI 1, uAsk (uRow s j (some (l.set (ix i) v))) (l.getD (ix i) 0)) := by
  unfold layS; rw [if_neg (by rw [hb]; decide), ix_n (by omega), ho]
theorem atS_n (hb : hasB 6 (nI j) = true) (hj : j < 6) (ho : sRw s j = none) (i : Int32) : atS s (nI j) i = (-3, uFnd s 1) := by
  unfold atS; rw [if_neg (by rw [hb]; decide), ix_n (by omega), ho]
theorem atS_s (hb : hasB 6 (nI j) = true) (hj : j < 6) (ho : sRw s j = some l) (i : Int32) : atS s (nI j) i = if hasB l.length i = false then (-3, uFnd s 2) else (nI 1, uAsk s (l.getD (ix i) 0)) := by
  unfold atS; rw [if_neg (by rw [hb]; decide), ix_n (by omega), ho]
theorem meanS_n (hb : hasB 6 (nI j) = true) (hj : j < 6) (ho : sRw s j = none) : meanS s (nI j) = (-3, uFnd s 1) := by
  unfold meanS; rw [if_neg (by rw [hb]; decide), ix_n (by omega), ho]
theorem meanS_s (hb : hasB 6 (nI j) = true) (hj : j < 6) (ho : sRw s j = some l) : meanS s (nI j) = if l.length = 0 then (-3, uFnd s 4) else (nI 1, uAsk s ((sumF l l.length / (nI l.length).toInt64).toInt32)) := by
  unfold meanS; rw [if_neg (by rw [hb]; decide), ix_n (by omega), ho]
end XX
theorem lN_ne {n : Nat} (h : 0 < n) (hn : n < 2147483648) : ¬ (nI n).toInt64 = 0 := fun q => by
  have h1 := congrArg Int64.toInt q
  rw [Int32.toInt_toInt64, nI_toInt hn] at h1
  have h2 : (0 : Int64).toInt = 0 := rfl
  omega
section XX
variable {G : Gm} {μ : Mm} {d : Nat} {s : St}
theorem x_lay (hL : LayX G) (h : RelX μ s) (r i v : Int32) : Si mX5_lay (d+1) [.ref 0, .int r, .int i, .int v] G μ (fun q μ' => q = (layS s r i v).1 ∧ RelX μ' (layS s r i v).2 ∧ FrX μ μ') := by
  have hL0 := hL
  obtain ⟨hO, ⟨q0, q1, q2, q3, q4, q5, q6, q7, q8, q9, q10⟩, ⟨a1, a2, a3, a4, a5⟩, hrw, -⟩ := hL
  refine Si_of (ls := [.ref 0, .int r, .int i, .int v]) (by decide +kernel) (Nat.le_of_ble_eq_true rfl) rfl ?_
  refine J_iload_n (i := 1) qX5_lay_0 rfl rfl ?_
  refine J_si1 qX5_lay_1 kX5_82 (x_isRow r) (Nat.le_of_ble_eq_true rfl) (fun v1 μ' hr => ?_)
  obtain ⟨rfl, rfl⟩ := hr
  cases hb : hasB 6 r with
  | false =>
    refine J_if_ne qX5_lay_4 (fun c => absurd b2i_f0 c) (fun c => ?_)
    refine J_pushI qX5_lay_7 ?_
    refine Ji_ret qX5_lay_8 ?_
    rw [show layS s r i v = (-1, s) from if_pos hb]
    exact ⟨rfl, h, FrX.rf⟩
  | true =>
    refine J_if_ne qX5_lay_4 (fun c => ?_) (fun c => absurd c b2i_t0)
    obtain ⟨j, hj, rfl⟩ := hasB_of (by omega) hb
    obtain ⟨w1, w2⟩ := hrw j hj
    have w3 := w2.1
    have w4 := w2.2.1
    have w5 := w2.2.2
    have hA := h.1 j hj
    refine J_aload_n (i := 0) qX5_lay_9 rfl rfl ?_
    refine J_getR qX5_lay_10 fX5_11 (by assumption) (by assumption) ?_
    refine J_iload_n (i := 1) qX5_lay_13 rfl rfl ?_
    refine J_aald qX5_lay_14 (by assumption) (by decide) (by decide) rfl (by omega) (by first | assumption | exact (by assumption : ∀ _, _) _ (by omega)) ?_
    refine J_vi0 qX5_lay_15 kX5_94 (by assumption) (s_isMissing (d := d) w2 (by omega) hA) (Nat.le_of_ble_eq_true rfl) (fun v1 μ' hr => ?_)
    obtain ⟨rfl, rfl⟩ := hr
    cases hm : sRw s j with
    | none =>
      refine J_if_eq qX5_lay_18 (fun c => absurd c b2i_t0) (fun c => ?_)
      rw [layS_n hb hj hm]
      refine J_aload_n (i := 0) qX5_lay_21 rfl rfl ?_
      refine J_pushI qX5_lay_22 ?_
      refine J_vi1 qX5_lay_23 kX5_86 (by assumption) (x_found (d := d) hL0 h (f := 1) (by omega)) (Nat.le_of_ble_eq_true rfl) (fun v1 ν hr => ?_)
      refine Ji_ret qX5_lay_26 ?_
      exact hr
    | some l =>
      refine J_if_eq qX5_lay_18 (fun c => ?_) (fun c => absurd b2i_f0 c)
      rw [hm] at hA
      rw [layS_s hb hj hm]
      refine J_aload_n (i := 0) qX5_lay_27 rfl rfl ?_
      refine J_getR qX5_lay_28 fX5_11 (by assumption) (by assumption) ?_
      refine J_iload_n (i := 1) qX5_lay_31 rfl rfl ?_
      refine J_aald qX5_lay_32 (by assumption) (by decide) (by decide) rfl (by omega) (by first | assumption | exact (by assumption : ∀ _, _) _ (by omega)) ?_
      refine J_iload_n (i := 2) qX5_lay_33 rfl rfl ?_
      refine J_vi1 qX5_lay_34 kX5_98 (by assumption) (s_has (d := d) w2 (by omega) hA i) (Nat.le_of_ble_eq_true rfl) (fun v1 μ' hr => ?_)
      obtain ⟨rfl, rfl⟩ := hr
      cases hi : hasB l.length i with
      | false =>
        refine J_if_ne qX5_lay_37 (fun c => absurd b2i_f0 c) (fun c => ?_)
        rw [if_pos rfl]
        refine J_aload_n (i := 0) qX5_lay_40 rfl rfl ?_
        refine J_pushI qX5_lay_41 ?_
        refine J_vi1 qX5_lay_42 kX5_86 (by assumption) (x_found (d := d) hL0 h (f := 2) (by omega)) (Nat.le_of_ble_eq_true rfl) (fun v1 ν hr => ?_)
        refine Ji_ret qX5_lay_45 ?_
        exact hr
      | true =>
        refine J_if_ne qX5_lay_37 (fun c => ?_) (fun c => absurd c b2i_t0)
        rw [if_neg (by decide)]
        have l40 := hA.2.1
        obtain ⟨k, hk, rfl⟩ := hasB_of (by omega) hi
        have e := hA.2.2 k hk
        refine J_aload_n (i := 0) qX5_lay_46 rfl rfl ?_
        refine J_aload_n (i := 0) qX5_lay_47 rfl rfl ?_
        refine J_getR qX5_lay_48 fX5_11 (by assumption) (by assumption) ?_
        refine J_iload_n (i := 1) qX5_lay_51 rfl rfl ?_
        refine J_aald qX5_lay_52 (by assumption) (by decide) (by decide) rfl (by omega) (by first | assumption | exact (by assumption : ∀ _, _) _ (by omega)) ?_
        refine J_getR qX5_lay_53 fX5_101 (by assumption) (by assumption) ?_
        refine J_iload_n (i := 2) qX5_lay_56 rfl rfl ?_
        refine J_ialde qX5_lay_57 (by assumption) rfl (by omega) (by (repeat first | with_reducible exact wI_e _ _ _ _ | (with_reducible apply rd_s; focus omega) | (with_reducible apply rd_c; focus omega) | (with_reducible apply rd_k; focus omega) | with_reducible exact rd_e (by omega)); first | done | assumption | rfl) ?_
        refine J_putI qX5_lay_58 fX5_68p (by assumption) rfl rfl ?_
        refine J_aload_n (i := 0) qX5_lay_61 rfl rfl ?_
        refine J_getR qX5_lay_62 fX5_11 (by assumption) (by assumption) ?_
        refine J_iload_n (i := 1) qX5_lay_65 rfl rfl ?_
        refine J_aald qX5_lay_66 (by assumption) (by decide) (by decide) rfl (by omega) (by first | assumption | exact (by assumption : ∀ _, _) _ (by omega)) ?_
        refine J_getR qX5_lay_67 fX5_101 (by assumption) (by assumption) ?_
        refine J_iload_n (i := 2) qX5_lay_70 rfl rfl ?_
        refine J_iload_n (i := 3) qX5_lay_71 rfl rfl ?_
        refine J_iast qX5_lay_72 (by assumption) rfl (by omega) ?_
        refine J_pushI qX5_lay_73 ?_
        refine Ji_ret qX5_lay_74 ?_
        rw [ix_n (by omega)]
        obtain ⟨g1, g2⟩ := h.ask (l.getD k 0)
        have hA2 : AbL (wI μ 0 12 (l.getD k 0)) (145 + 2 * j) 40 l := by have q := g1.1 j hj; rw [show sRw (uAsk s (l.getD k 0)) j = some l from hm] at q; exact q
        obtain ⟨g3, g4⟩ := g1.row (j := j) (v := some (l.set k v)) (Fr.w Fr.rf (Or.inr rfl)) hj (hA2.set hk v)
        exact ⟨rfl, g3, g2.tr g4⟩
theorem x_at (hL : LayX G) (h : RelX μ s) (r i : Int32) : Si mX5_at (d+1) [.ref 0, .int r, .int i] G μ (fun q μ' => q = (atS s r i).1 ∧ RelX μ' (atS s r i).2 ∧ FrX μ μ') := by
  have hL0 := hL
  obtain ⟨hO, ⟨q0, q1, q2, q3, q4, q5, q6, q7, q8, q9, q10⟩, ⟨a1, a2, a3, a4, a5⟩, hrw, -⟩ := hL
  refine Si_of (ls := [.ref 0, .int r, .int i]) (by decide +kernel) (Nat.le_of_ble_eq_true rfl) rfl ?_
  refine J_iload_n (i := 1) qX5_at_0 rfl rfl ?_
  refine J_si1 qX5_at_1 kX5_82 (x_isRow r) (Nat.le_of_ble_eq_true rfl) (fun v1 μ' hr => ?_)
  obtain ⟨rfl, rfl⟩ := hr
  cases hb : hasB 6 r with
  | false =>
    refine J_if_ne qX5_at_4 (fun c => absurd b2i_f0 c) (fun c => ?_)
    refine J_pushI qX5_at_7 ?_
    refine Ji_ret qX5_at_8 ?_
    rw [show atS s r i = (-1, s) from if_pos hb]
    exact ⟨rfl, h, FrX.rf⟩
  | true =>
    refine J_if_ne qX5_at_4 (fun c => ?_) (fun c => absurd c b2i_t0)
    obtain ⟨j, hj, rfl⟩ := hasB_of (by omega) hb
    obtain ⟨w1, w2⟩ := hrw j hj
    have w3 := w2.1
    have w4 := w2.2.1
    have w5 := w2.2.2
    have hA := h.1 j hj
    refine J_aload_n (i := 0) qX5_at_9 rfl rfl ?_
    refine J_getR qX5_at_10 fX5_11 (by assumption) (by assumption) ?_
    refine J_iload_n (i := 1) qX5_at_13 rfl rfl ?_
    refine J_aald qX5_at_14 (by assumption) (by decide) (by decide) rfl (by omega) (by first | assumption | exact (by assumption : ∀ _, _) _ (by omega)) ?_
    refine J_vi0 qX5_at_15 kX5_94 (by assumption) (s_isMissing (d := d) w2 (by omega) hA) (Nat.le_of_ble_eq_true rfl) (fun v1 μ' hr => ?_)
    obtain ⟨rfl, rfl⟩ := hr
    cases hm : sRw s j with
    | none =>
      refine J_if_eq qX5_at_18 (fun c => absurd c b2i_t0) (fun c => ?_)
      rw [atS_n hb hj hm]
      refine J_aload_n (i := 0) qX5_at_21 rfl rfl ?_
      refine J_pushI qX5_at_22 ?_
      refine J_vi1 qX5_at_23 kX5_86 (by assumption) (x_found (d := d) hL0 h (f := 1) (by omega)) (Nat.le_of_ble_eq_true rfl) (fun v1 ν hr => ?_)
      refine Ji_ret qX5_at_26 ?_
      exact hr
    | some l =>
      refine J_if_eq qX5_at_18 (fun c => ?_) (fun c => absurd b2i_f0 c)
      rw [hm] at hA
      rw [atS_s hb hj hm]
      refine J_aload_n (i := 0) qX5_at_27 rfl rfl ?_
      refine J_getR qX5_at_28 fX5_11 (by assumption) (by assumption) ?_
      refine J_iload_n (i := 1) qX5_at_31 rfl rfl ?_
      refine J_aald qX5_at_32 (by assumption) (by decide) (by decide) rfl (by omega) (by first | assumption | exact (by assumption : ∀ _, _) _ (by omega)) ?_
      refine J_iload_n (i := 2) qX5_at_33 rfl rfl ?_
      refine J_vi1 qX5_at_34 kX5_98 (by assumption) (s_has (d := d) w2 (by omega) hA i) (Nat.le_of_ble_eq_true rfl) (fun v1 μ' hr => ?_)
      obtain ⟨rfl, rfl⟩ := hr
      cases hi : hasB l.length i with
      | false =>
        refine J_if_ne qX5_at_37 (fun c => absurd b2i_f0 c) (fun c => ?_)
        rw [if_pos rfl]
        refine J_aload_n (i := 0) qX5_at_40 rfl rfl ?_
        refine J_pushI qX5_at_41 ?_
        refine J_vi1 qX5_at_42 kX5_86 (by assumption) (x_found (d := d) hL0 h (f := 2) (by omega)) (Nat.le_of_ble_eq_true rfl) (fun v1 ν hr => ?_)
        refine Ji_ret qX5_at_45 ?_
        exact hr
      | true =>
        refine J_if_ne qX5_at_37 (fun c => ?_) (fun c => absurd c b2i_t0)
        rw [if_neg (by decide)]
        have l40 := hA.2.1
        obtain ⟨k, hk, rfl⟩ := hasB_of (by omega) hi
        have e := hA.2.2 k hk
        refine J_aload_n (i := 0) qX5_at_46 rfl rfl ?_
        refine J_aload_n (i := 0) qX5_at_47 rfl rfl ?_
        refine J_getR qX5_at_48 fX5_11 (by assumption) (by assumption) ?_
        refine J_iload_n (i := 1) qX5_at_51 rfl rfl ?_
        refine J_aald qX5_at_52 (by assumption) (by decide) (by decide) rfl (by omega) (by first | assumption | exact (by assumption : ∀ _, _) _ (by omega)) ?_
        refine J_getR qX5_at_53 fX5_101 (by assumption) (by assumption) ?_
        refine J_iload_n (i := 2) qX5_at_56 rfl rfl ?_
        refine J_ialde qX5_at_57 (by assumption) rfl (by omega) (by (repeat first | with_reducible exact wI_e _ _ _ _ | (with_reducible apply rd_s; focus omega) | (with_reducible apply rd_c; focus omega) | (with_reducible apply rd_k; focus omega) | with_reducible exact rd_e (by omega)); first | done | assumption | rfl) ?_
        refine J_putI qX5_at_58 fX5_68p (by assumption) rfl rfl ?_
        refine J_pushI qX5_at_61 ?_
        refine Ji_ret qX5_at_62 ?_
        rw [ix_n (by omega)]
        exact ⟨rfl, h.ask (l.getD k 0)⟩
theorem x_mean (hL : LayX G) (h : RelX μ s) (r : Int32) : Si mX5_mean (d+1) [.ref 0, .int r] G μ (fun q μ' => q = (meanS s r).1 ∧ RelX μ' (meanS s r).2 ∧ FrX μ μ') := by
  have hL0 := hL
  obtain ⟨hO, ⟨q0, q1, q2, q3, q4, q5, q6, q7, q8, q9, q10⟩, ⟨a1, a2, a3, a4, a5⟩, hrw, -⟩ := hL
  refine Si_of (ls := [.ref 0, .int r]) (by decide +kernel) (Nat.le_of_ble_eq_true rfl) rfl ?_
  refine J_iload_n (i := 1) qX5_mean_0 rfl rfl ?_
  refine J_si1 qX5_mean_1 kX5_82 (x_isRow r) (Nat.le_of_ble_eq_true rfl) (fun v1 μ' hr => ?_)
  obtain ⟨rfl, rfl⟩ := hr
  cases hb : hasB 6 r with
  | false =>
    refine J_if_ne qX5_mean_4 (fun c => absurd b2i_f0 c) (fun c => ?_)
    refine J_pushI qX5_mean_7 ?_
    refine Ji_ret qX5_mean_8 ?_
    rw [show meanS s r = (-1, s) from if_pos hb]
    exact ⟨rfl, h, FrX.rf⟩
  | true =>
    refine J_if_ne qX5_mean_4 (fun c => ?_) (fun c => absurd c b2i_t0)
    obtain ⟨j, hj, rfl⟩ := hasB_of (by omega) hb
    obtain ⟨w1, w2⟩ := hrw j hj
    have w3 := w2.1
    have hA := h.1 j hj
    refine J_aload_n (i := 0) qX5_mean_9 rfl rfl ?_
    refine J_getR qX5_mean_10 fX5_11 (by assumption) (by assumption) ?_
    refine J_iload_n (i := 1) qX5_mean_13 rfl rfl ?_
    refine J_aald qX5_mean_14 (by assumption) (by decide) (by decide) rfl (by omega) (by first | assumption | exact (by assumption : ∀ _, _) _ (by omega)) ?_
    refine J_vi0 qX5_mean_15 kX5_94 (by assumption) (s_isMissing (d := d) w2 (by omega) hA) (Nat.le_of_ble_eq_true rfl) (fun v1 μ' hr => ?_)
    obtain ⟨rfl, rfl⟩ := hr
    cases hm : sRw s j with
    | none =>
      refine J_if_eq qX5_mean_18 (fun c => absurd c b2i_t0) (fun c => ?_)
      rw [meanS_n hb hj hm]
      refine J_aload_n (i := 0) qX5_mean_21 rfl rfl ?_
      refine J_pushI qX5_mean_22 ?_
      refine J_vi1 qX5_mean_23 kX5_86 (by assumption) (x_found (d := d) hL0 h (f := 1) (by omega)) (Nat.le_of_ble_eq_true rfl) (fun v1 ν hr => ?_)
      refine Ji_ret qX5_mean_26 ?_
      exact hr
    | some l =>
      refine J_if_eq qX5_mean_18 (fun c => ?_) (fun c => absurd b2i_f0 c)
      rw [hm] at hA
      rw [meanS_s hb hj hm]
      have l40 := hA.2.1
      have e := hA.1
      refine J_aload_n (i := 0) qX5_mean_27 rfl rfl ?_
      refine J_getR qX5_mean_28 fX5_11 (by assumption) (by assumption) ?_
      refine J_iload_n (i := 1) qX5_mean_31 rfl rfl ?_
      refine J_aald qX5_mean_32 (by assumption) (by decide) (by decide) rfl (by omega) (by first | assumption | exact (by assumption : ∀ _, _) _ (by omega)) ?_
      refine J_getIe qX5_mean_33 fX5_117 (by assumption) (by (repeat first | with_reducible exact wI_e _ _ _ _ | (with_reducible apply rd_s; focus omega) | (with_reducible apply rd_c; focus omega) | (with_reducible apply rd_k; focus omega) | with_reducible exact rd_e (by omega)); first | done | assumption | rfl) ?_
      first | with_reducible refine J_if_ne_n qX5_mean_36 (by omega) (fun c1 => ?_) (fun c1 => ?_) | refine J_if_ne qX5_mean_36 (fun c1 => ?_) (fun c1 => ?_)
      · rw [if_neg c1]
        refine J_aload_n (i := 0) qX5_mean_45 rfl rfl ?_
        refine J_aload_n (i := 0) qX5_mean_46 rfl rfl ?_
        refine J_getR qX5_mean_47 fX5_11 (by assumption) (by assumption) ?_
        refine J_iload_n (i := 1) qX5_mean_50 rfl rfl ?_
        refine J_aald qX5_mean_51 (by assumption) (by decide) (by decide) rfl (by omega) (by first | assumption | exact (by assumption : ∀ _, _) _ (by omega)) ?_
        refine J_vl0 qX5_mean_52 kX5_120 (by assumption) (s_sum (d := d) w2 (by omega) hA) (Nat.le_of_ble_eq_true rfl) (fun v1 μ' hr => ?_)
        obtain ⟨rfl, rfl⟩ := hr
        refine J_aload_n (i := 0) qX5_mean_55 rfl rfl ?_
        refine J_getR qX5_mean_56 fX5_11 (by assumption) (by assumption) ?_
        refine J_iload_n (i := 1) qX5_mean_59 rfl rfl ?_
        refine J_aald qX5_mean_60 (by assumption) (by decide) (by decide) rfl (by omega) (by first | assumption | exact (by assumption : ∀ _, _) _ (by omega)) ?_
        refine J_getIe qX5_mean_61 fX5_117 (by assumption) (by (repeat first | with_reducible exact wI_e _ _ _ _ | (with_reducible apply rd_s; focus omega) | (with_reducible apply rd_c; focus omega) | (with_reducible apply rd_k; focus omega) | with_reducible exact rd_e (by omega)); first | done | assumption | rfl) ?_
        have hne := lN_ne (n := l.length) (by omega) (by omega)
        refine J_i2l qX5_mean_64 ?_
        refine J_ldiv qX5_mean_65 (by first | assumption | decide) ?_
        refine J_l2i qX5_mean_66 ?_
        refine J_putI qX5_mean_67 fX5_68p (by assumption) rfl rfl ?_
        refine J_pushI qX5_mean_70 ?_
        refine Ji_ret qX5_mean_71 ?_
        exact ⟨rfl, h.ask _⟩
      · rw [if_pos c1]
        refine J_aload_n (i := 0) qX5_mean_39 rfl rfl ?_
        refine J_pushI qX5_mean_40 ?_
        refine J_vi1 qX5_mean_41 kX5_86 (by assumption) (x_found (d := d) hL0 h (f := 4) (by omega)) (Nat.le_of_ble_eq_true rfl) (fun v1 ν hr => ?_)
        refine Ji_ret qX5_mean_44 ?_
        exact hr
end XX
