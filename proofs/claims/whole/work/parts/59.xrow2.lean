/-! COMPONENT: lay, at, tear -/
def layS (s : St) (r i v : Int32) : Int32 × St :=
  if hasB 6 r = false then (-1, s) else match sRw s (ix r) with
    | none => (-3, uFnd s 1)
    | some l => if hasB l.length i = false then (-3, uFnd s 2) else (nI 1, uAsk (uRow s (ix r) (some (l.set (ix i) v))) (l.getD (ix i) 0))
def atS (s : St) (r i : Int32) : Int32 × St :=
  if hasB 6 r = false then (-1, s) else match sRw s (ix r) with
    | none => (-3, uFnd s 1)
    | some l => if hasB l.length i = false then (-3, uFnd s 2) else (nI 1, uAsk s (l.getD (ix i) 0))
theorem RelX.ask {μ : Mm} {s : St} (h : RelX μ s) (v : Int32) : RelX (wI μ 0 12 v) (uAsk s v) ∧ FrX μ (wI μ 0 12 v) := by
  obtain ⟨h1, h2, h3, h4, h5, h6, h7⟩ := (RelX_eq μ s).mp h
  have ag : ∀ lo hi, 0 < lo → Ag μ (wI μ 0 12 v) lo hi := fun lo hi a c k x y => wI_n (by omega)
  refine ⟨(RelX_eq _ _).mpr ⟨h1.ag (ag _ _ (by omega)), h2.ag (ag _ _ (by omega)), h3.ag (ag _ _ (by omega)), h4.ag (ag _ _ (by omega)) (ag _ _ (by omega)), ⟨wI_e _ _ _ _, h5.2.1, (wI_n (by omega)).trans h5.2.2.1, fun g hg => (wI_n (by omega)).trans (h5.2.2.2 g hg)⟩, h6.ag h3.2.2.1.2.1 (wI_n (by omega)) (ag _ _ (by omega)), h7⟩, fun c k hc => wI_n (by omega), fun _ _ _ => rfl⟩
section XX
variable {G : Gm} {μ : Mm} {d : Nat} {s : St}
theorem x_tear (hL : LayX G) (h : RelX μ s) (r : Int32) : Si mX5_tear (d+1) [.ref 0, .int r] G μ (fun v μ' => v = (tearS s r).1 ∧ RelX μ' (tearS s r).2 ∧ FrX μ μ') := by
  have hL0 := hL
  obtain ⟨hO, ⟨q0, q1, q2, q3, q4, q5, q6, q7, q8, q9, q10⟩, ⟨a1, a2, a3, a4, a5⟩, hrw, -⟩ := hL
  refine Si_of (ls := [.ref 0, .int r]) (by decide +kernel) (Nat.le_of_ble_eq_true rfl) rfl ?_
  refine J_iload_n (i := 1) qX5_tear_0 rfl rfl ?_
  refine J_si1 qX5_tear_1 kX5_82 (x_isRow r) (Nat.le_of_ble_eq_true rfl) (fun v μ' hr => ?_)
  obtain ⟨rfl, rfl⟩ := hr
  cases hb : hasB 6 r with
  | false =>
    refine J_if_ne qX5_tear_4 (fun c => absurd b2i_f0 c) (fun c => ?_)
    refine J_pushI qX5_tear_7 ?_
    refine Ji_ret qX5_tear_8 ?_
    rw [show tearS s r = (-1, s) from if_pos hb]
    exact ⟨rfl, h, FrX.rf⟩
  | true =>
    refine J_if_ne qX5_tear_4 (fun c => ?_) (fun c => absurd c b2i_t0)
    obtain ⟨j, hj, rfl⟩ := hasB_of (by omega) hb
    rw [show tearS s (nI j) = if (sRw s j).isNone then (-3, uFnd s 1) else (nI 1, uRow s j none) from by unfold tearS; rw [if_neg (by rw [hb]; decide), ix_n (by omega)]]
    obtain ⟨w1, w2⟩ := hrw j hj
    have w3 := w2.1
    have hA := h.1 j hj
    refine J_aload_n (i := 0) qX5_tear_9 rfl rfl ?_
    refine J_getR qX5_tear_10 fX5_11 (by assumption) (by assumption) ?_
    refine J_iload_n (i := 1) qX5_tear_13 rfl rfl ?_
    refine J_aald qX5_tear_14 (by assumption) (by decide) (by decide) rfl (by omega) (by first | assumption | exact (by assumption : ∀ _, _) _ (by omega)) ?_
    refine J_vi0 qX5_tear_15 kX5_94 (by assumption) (s_isMissing (d := d) w2 (by omega) hA) (Nat.le_of_ble_eq_true rfl) (fun v μ' hr => ?_)
    obtain ⟨rfl, rfl⟩ := hr
    cases hm : (sRw s j).isNone with
    | true =>
      refine J_if_eq qX5_tear_18 (fun c => absurd c b2i_t0) (fun c => ?_)
      rw [if_pos rfl]
      refine J_aload_n (i := 0) qX5_tear_21 rfl rfl ?_
      refine J_pushI qX5_tear_22 ?_
      refine J_vi1 qX5_tear_23 kX5_86 (by assumption) (x_found (d := d) hL0 h (f := 1) (by omega)) (Nat.le_of_ble_eq_true rfl) (fun v ν hr => ?_)
      refine Ji_ret qX5_tear_26 ?_
      exact hr
    | false =>
      refine J_if_eq qX5_tear_18 (fun c => ?_) (fun c => absurd b2i_f0 c)
      rw [if_neg (by decide)]
      refine J_aload_n (i := 0) qX5_tear_27 rfl rfl ?_
      refine J_getR qX5_tear_28 fX5_11 (by assumption) (by assumption) ?_
      refine J_iload_n (i := 1) qX5_tear_31 rfl rfl ?_
      refine J_aald qX5_tear_32 (by assumption) (by decide) (by decide) rfl (by omega) (by first | assumption | exact (by assumption : ∀ _, _) _ (by omega)) ?_
      refine J_vv0 qX5_tear_33 kX5_104 (by assumption) (s_drop (d := d) w2) (Nat.le_of_ble_eq_true rfl) (fun ν hr => ?_)
      obtain rfl := hr
      refine J_pushI qX5_tear_36 ?_
      refine Ji_ret qX5_tear_37 ?_
      exact ⟨rfl, h.row (Fr.w Fr.rf (Or.inl ⟨rfl, rfl⟩)) hj (wI_e _ _ _ _)⟩
end XX
