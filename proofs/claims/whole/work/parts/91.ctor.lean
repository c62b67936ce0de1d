/-! the constructors of Program, Reader, Writer, Plan -/
def mz (r : Nat) : List Ce := (15, 12, (List.range 12).map (fun j => some (r + 1 + j))) :: List.replicate 12 (10, 12, [])
theorem mz_ok (r b : Nat) : mulL (b + r) = sh b (mz r) := by
  unfold mulL mz sh
  rw [List.map_cons, List.map_replicate]
  refine congrArg (fun z => (15, 12, z) :: _) ?_
  rw [List.map_map]
  refine List.map_congr_left (fun j _ => ?_)
  show some (b + r + 1 + j) = some (b + (r + 1 + j))
  congr 1
  omega
def yP0 : List Ce := [(1, 13, [none, none, none, none, none, none, none, none, none, none, none, none, none])]
def yP1 : List Ce := [(1, 13, [none, none, none, none, none, none, none, none, none, none, none, none, none]), (10, 12, [])]
def yP2 : List Ce := [(1, 13, [some 1, none, none, none, none, none, none, none, none, none, none, none, none]), (10, 12, [])]
def yP3 : List Ce := [(1, 13, [some 1, none, none, none, none, none, none, none, none, none, none, none, none]), (10, 12, []), (10, 12, [])]
def yP4 : List Ce := [(1, 13, [some 1, some 2, none, none, none, none, none, none, none, none, none, none, none]), (10, 12, []), (10, 12, [])]
def yP5 : List Ce := [(1, 13, [some 1, some 2, none, none, none, none, none, none, none, none, none, none, none]), (10, 12, []), (10, 12, []), (10, 12, [])]
def yP6 : List Ce := [(1, 13, [some 1, some 2, some 3, none, none, none, none, none, none, none, none, none, none]), (10, 12, []), (10, 12, []), (10, 12, [])]
def yP7 : List Ce := [(1, 13, [some 1, some 2, some 3, none, none, none, none, none, none, none, none, none, none]), (10, 12, []), (10, 12, []), (10, 12, []), (10, 12, [])]
def yP8 : List Ce := [(1, 13, [some 1, some 2, some 3, some 4, none, none, none, none, none, none, none, none, none]), (10, 12, []), (10, 12, []), (10, 12, []), (10, 12, [])]
def yP9 : List Ce := [(1, 13, [some 1, some 2, some 3, some 4, none, none, none, none, none, none, none, none, none]), (10, 12, []), (10, 12, []), (10, 12, []), (10, 12, []), (10, 40, [])]
def yP10 : List Ce := [(1, 13, [some 1, some 2, some 3, some 4, none, none, some 5, none, none, none, none, none, none]), (10, 12, []), (10, 12, []), (10, 12, []), (10, 12, []), (10, 40, [])]
def yP11 : List Ce := [(1, 13, [some 1, some 2, some 3, some 4, none, none, some 5, none, none, none, none, none, none]), (10, 12, []), (10, 12, []), (10, 12, []), (10, 12, []), (10, 40, []), (10, 40, [])]
def yP12 : List Ce := [(1, 13, [some 1, some 2, some 3, some 4, none, none, some 5, some 6, none, none, none, none, none]), (10, 12, []), (10, 12, []), (10, 12, []), (10, 12, []), (10, 40, []), (10, 40, [])]
def yP13 : List Ce := [(1, 13, [some 1, some 2, some 3, some 4, none, none, some 5, some 6, none, none, none, none, none]), (10, 12, []), (10, 12, []), (10, 12, []), (10, 12, []), (10, 40, []), (10, 40, []), (10, 40, [])]
def yP14 : List Ce := [(1, 13, [some 1, some 2, some 3, some 4, none, none, some 5, some 6, some 7, none, none, none, none]), (10, 12, []), (10, 12, []), (10, 12, []), (10, 12, []), (10, 40, []), (10, 40, []), (10, 40, [])]
def yP15 : List Ce := [(1, 13, [some 1, some 2, some 3, some 4, none, none, some 5, some 6, some 7, none, none, none, none]), (10, 12, []), (10, 12, []), (10, 12, []), (10, 12, []), (10, 40, []), (10, 40, []), (10, 40, []), (10, 40, [])]
def yP16 : List Ce := [(1, 13, [some 1, some 2, some 3, some 4, none, none, some 5, some 6, some 7, some 8, none, none, none]), (10, 12, []), (10, 12, []), (10, 12, []), (10, 12, []), (10, 40, []), (10, 40, []), (10, 40, []), (10, 40, [])]
def yP17 : List Ce := [(1, 13, [some 1, some 2, some 3, some 4, none, none, some 5, some 6, some 7, some 8, none, none, none]), (10, 12, []), (10, 12, []), (10, 12, []), (10, 12, []), (10, 40, []), (10, 40, []), (10, 40, []), (10, 40, []), (10, 40, [])]
def yP18 : List Ce := [(1, 13, [some 1, some 2, some 3, some 4, none, none, some 5, some 6, some 7, some 8, some 9, none, none]), (10, 12, []), (10, 12, []), (10, 12, []), (10, 12, []), (10, 40, []), (10, 40, []), (10, 40, []), (10, 40, []), (10, 40, [])]
def yP19 : List Ce := [(1, 13, [some 1, some 2, some 3, some 4, none, none, some 5, some 6, some 7, some 8, some 9, none, none]), (10, 12, []), (10, 12, []), (10, 12, []), (10, 12, []), (10, 40, []), (10, 40, []), (10, 40, []), (10, 40, []), (10, 40, []), (10, 40, [])]
def yP20 : List Ce := [(1, 13, [some 1, some 2, some 3, some 4, none, none, some 5, some 6, some 7, some 8, some 9, some 10, none]), (10, 12, []), (10, 12, []), (10, 12, []), (10, 12, []), (10, 40, []), (10, 40, []), (10, 40, []), (10, 40, []), (10, 40, []), (10, 40, [])]
def yPY : List Ce := yP20
theorem oiX1 : OI RX1 3 := ⟨lw_gm (by decide +kernel) rfl, lw_gm (by decide +kernel) rfl, lw_gm (by decide +kernel) rfl⟩
theorem ct_prog {d : Nat} {L : List Ce} {μ : Mm} (hL : WfL L L.length) (hz : Zr μ L.length) (h6 : L.length ≤ 100000) : Ct mX1_init d (10, 288) 1 [] L yPY μ μ := by
  unfold Ct
  rw [sh_obj]
  refine C_of_J (ls := [.ref L.length]) (by decide +kernel) (Nat.le_of_ble_eq_true rfl) rfl ?_
  show J mX1_init d (10, 288) s0 _ (0, 0) 0 [.ref L.length] [] (gL (L ++ sh L.length yP0), μ)
  refine J_aload_n (i := 0) qX1_init_0 rfl rfl ?_
  refine J_oinit qX1_init_1 oiX1 (Nat.le_of_ble_eq_true rfl) ?_
  refine J_aload_n (i := 0) qX1_init_4 rfl rfl ?_
  refine J_pushI qX1_init_5 ?_
  refine R_newA (Y := yP0) (Y' := yP1) (r0 := 1) (n := 12) qX1_init_7 na_i rfl (by decide) hL (by rfl) hz h6 (by decide) (old1 _) (by decide) (by decide) (by decide) (by rfl) (by rfl) ?_
  refine R_putR (Y := yP1) (Y' := yP2) (r0 := 1) (rs := [none, none, none, none, none, none, none, none, none, none, none, none, none]) qX1_init_9 ⟨fX1_9, rfl, rfl, rfl⟩ (by rfl) (by decide) (by rfl) ?_
  refine J_aload_n (i := 0) qX1_init_12 rfl rfl ?_
  refine J_pushI qX1_init_13 ?_
  refine R_newA (Y := yP2) (Y' := yP3) (r0 := 2) (n := 12) qX1_init_15 na_i rfl (by decide) hL (by rfl) hz h6 (by decide) (old1 _) (by decide) (by decide) (by decide) (by rfl) (by rfl) ?_
  refine R_putR (Y := yP3) (Y' := yP4) (r0 := 2) (rs := [some 1, none, none, none, none, none, none, none, none, none, none, none, none]) qX1_init_17 ⟨fX1_15, rfl, rfl, rfl⟩ (by rfl) (by decide) (by rfl) ?_
  refine J_aload_n (i := 0) qX1_init_20 rfl rfl ?_
  refine J_pushI qX1_init_21 ?_
  refine R_newA (Y := yP4) (Y' := yP5) (r0 := 3) (n := 12) qX1_init_23 na_i rfl (by decide) hL (by rfl) hz h6 (by decide) (old1 _) (by decide) (by decide) (by decide) (by rfl) (by rfl) ?_
  refine R_putR (Y := yP5) (Y' := yP6) (r0 := 3) (rs := [some 1, some 2, none, none, none, none, none, none, none, none, none, none, none]) qX1_init_25 ⟨fX1_18, rfl, rfl, rfl⟩ (by rfl) (by decide) (by rfl) ?_
  refine J_aload_n (i := 0) qX1_init_28 rfl rfl ?_
  refine J_pushI qX1_init_29 ?_
  refine R_newA (Y := yP6) (Y' := yP7) (r0 := 4) (n := 12) qX1_init_31 na_i rfl (by decide) hL (by rfl) hz h6 (by decide) (old1 _) (by decide) (by decide) (by decide) (by rfl) (by rfl) ?_
  refine R_putR (Y := yP7) (Y' := yP8) (r0 := 4) (rs := [some 1, some 2, some 3, none, none, none, none, none, none, none, none, none, none]) qX1_init_33 ⟨fX1_21, rfl, rfl, rfl⟩ (by rfl) (by decide) (by rfl) ?_
  refine J_aload_n (i := 0) qX1_init_36 rfl rfl ?_
  refine J_pushI qX1_init_37 ?_
  refine R_put0 (Y := yP8) qX1_init_38 fX1_24p (rs := [some 1, some 2, some 3, some 4, none, none, none, none, none, none, none, none, none]) (by rfl) rfl rfl ((hz _ (Nat.le_refl _)).1 _) ?_
  refine J_aload_n (i := 0) qX1_init_41 rfl rfl ?_
  refine J_pushI qX1_init_42 ?_
  refine R_put0 (Y := yP8) qX1_init_43 fX1_28p (rs := [some 1, some 2, some 3, some 4, none, none, none, none, none, none, none, none, none]) (by rfl) rfl rfl ((hz _ (Nat.le_refl _)).1 _) ?_
  refine J_aload_n (i := 0) qX1_init_46 rfl rfl ?_
  refine J_pushI qX1_init_47 ?_
  refine R_newA (Y := yP8) (Y' := yP9) (r0 := 5) (n := 40) qX1_init_49 na_i rfl (by decide) hL (by rfl) hz h6 (by decide) (old1 _) (by decide) (by decide) (by decide) (by rfl) (by rfl) ?_
  refine R_putR (Y := yP9) (Y' := yP10) (r0 := 5) (rs := [some 1, some 2, some 3, some 4, none, none, none, none, none, none, none, none, none]) qX1_init_51 ⟨fX1_31, rfl, rfl, rfl⟩ (by rfl) (by decide) (by rfl) ?_
  refine J_aload_n (i := 0) qX1_init_54 rfl rfl ?_
  refine J_pushI qX1_init_55 ?_
  refine R_newA (Y := yP10) (Y' := yP11) (r0 := 6) (n := 40) qX1_init_57 na_i rfl (by decide) hL (by rfl) hz h6 (by decide) (old1 _) (by decide) (by decide) (by decide) (by rfl) (by rfl) ?_
  refine R_putR (Y := yP11) (Y' := yP12) (r0 := 6) (rs := [some 1, some 2, some 3, some 4, none, none, some 5, none, none, none, none, none, none]) qX1_init_59 ⟨fX1_34, rfl, rfl, rfl⟩ (by rfl) (by decide) (by rfl) ?_
  refine J_aload_n (i := 0) qX1_init_62 rfl rfl ?_
  refine J_pushI qX1_init_63 ?_
  refine R_newA (Y := yP12) (Y' := yP13) (r0 := 7) (n := 40) qX1_init_65 na_i rfl (by decide) hL (by rfl) hz h6 (by decide) (old1 _) (by decide) (by decide) (by decide) (by rfl) (by rfl) ?_
  refine R_putR (Y := yP13) (Y' := yP14) (r0 := 7) (rs := [some 1, some 2, some 3, some 4, none, none, some 5, some 6, none, none, none, none, none]) qX1_init_67 ⟨fX1_37, rfl, rfl, rfl⟩ (by rfl) (by decide) (by rfl) ?_
  refine J_aload_n (i := 0) qX1_init_70 rfl rfl ?_
  refine J_pushI qX1_init_71 ?_
  refine R_newA (Y := yP14) (Y' := yP15) (r0 := 8) (n := 40) qX1_init_73 na_i rfl (by decide) hL (by rfl) hz h6 (by decide) (old1 _) (by decide) (by decide) (by decide) (by rfl) (by rfl) ?_
  refine R_putR (Y := yP15) (Y' := yP16) (r0 := 8) (rs := [some 1, some 2, some 3, some 4, none, none, some 5, some 6, some 7, none, none, none, none]) qX1_init_75 ⟨fX1_40, rfl, rfl, rfl⟩ (by rfl) (by decide) (by rfl) ?_
  refine J_aload_n (i := 0) qX1_init_78 rfl rfl ?_
  refine J_pushI qX1_init_79 ?_
  refine R_newA (Y := yP16) (Y' := yP17) (r0 := 9) (n := 40) qX1_init_81 na_i rfl (by decide) hL (by rfl) hz h6 (by decide) (old1 _) (by decide) (by decide) (by decide) (by rfl) (by rfl) ?_
  refine R_putR (Y := yP17) (Y' := yP18) (r0 := 9) (rs := [some 1, some 2, some 3, some 4, none, none, some 5, some 6, some 7, some 8, none, none, none]) qX1_init_83 ⟨fX1_43, rfl, rfl, rfl⟩ (by rfl) (by decide) (by rfl) ?_
  refine J_aload_n (i := 0) qX1_init_86 rfl rfl ?_
  refine J_pushI qX1_init_87 ?_
  refine R_newA (Y := yP18) (Y' := yP19) (r0 := 10) (n := 40) qX1_init_89 na_i rfl (by decide) hL (by rfl) hz h6 (by decide) (old1 _) (by decide) (by decide) (by decide) (by rfl) (by rfl) ?_
  refine R_putR (Y := yP19) (Y' := yP20) (r0 := 10) (rs := [some 1, some 2, some 3, some 4, none, none, some 5, some 6, some 7, some 8, some 9, none, none]) qX1_init_91 ⟨fX1_46, rfl, rfl, rfl⟩ (by rfl) (by decide) (by rfl) ?_
  refine J_aload_n (i := 0) qX1_init_94 rfl rfl ?_
  refine J_pushI qX1_init_95 ?_
  refine R_put0 (Y := yP20) qX1_init_96 fX1_49p (rs := [some 1, some 2, some 3, some 4, none, none, some 5, some 6, some 7, some 8, some 9, some 10, none]) (by rfl) rfl rfl ((hz _ (Nat.le_refl _)).1 _) ?_
  exact J_vret qX1_init_99.1 qX1_init_99.2 (by decide) (by decide) ⟨rfl, rfl⟩
def yR0 : List Ce := [(2, 9, [none, none, none, none, none, none, none, none, none])]
def yR1 : List Ce := [(2, 9, [none, none, none, none, none, none, none, none, none]), (10, 120, [])]
def yR2 : List Ce := [(2, 9, [some 1, none, none, none, none, none, none, none, none]), (10, 120, [])]
def yRY : List Ce := yR2
theorem oiX2 : OI RX2 3 := ⟨lw_gm (by decide +kernel) rfl, lw_gm (by decide +kernel) rfl, lw_gm (by decide +kernel) rfl⟩
theorem ct_rd {d : Nat} {L : List Ce} {μ : Mm} (hL : WfL L L.length) (hz : Zr μ L.length) (h6 : L.length ≤ 100000) : Ct mX2_init d (1, 120) 2 [] L yRY μ μ := by
  unfold Ct
  rw [sh_obj]
  refine C_of_J (ls := [.ref L.length]) (by decide +kernel) (Nat.le_of_ble_eq_true rfl) rfl ?_
  show J mX2_init d (1, 120) s0 _ (0, 0) 0 [.ref L.length] [] (gL (L ++ sh L.length yR0), μ)
  refine J_aload_n (i := 0) qX2_init_0 rfl rfl ?_
  refine J_oinit qX2_init_1 oiX2 (Nat.le_of_ble_eq_true rfl) ?_
  refine J_aload_n (i := 0) qX2_init_4 rfl rfl ?_
  refine J_pushI qX2_init_5 ?_
  refine R_newA (Y := yR0) (Y' := yR1) (r0 := 1) (n := 120) qX2_init_7 na_i rfl (by decide) hL (by rfl) hz h6 (by decide) (old1 _) (by decide) (by decide) (by decide) (by rfl) (by rfl) ?_
  refine R_putR (Y := yR1) (Y' := yR2) (r0 := 1) (rs := [none, none, none, none, none, none, none, none, none]) qX2_init_9 ⟨fX2_9, rfl, rfl, rfl⟩ (by rfl) (by decide) (by rfl) ?_
  refine J_aload_n (i := 0) qX2_init_12 rfl rfl ?_
  refine J_pushI qX2_init_13 ?_
  refine R_put0 (Y := yR2) qX2_init_14 fX2_15p (rs := [some 1, none, none, none, none, none, none, none, none]) (by rfl) rfl rfl ((hz _ (Nat.le_refl _)).1 _) ?_
  refine J_aload_n (i := 0) qX2_init_17 rfl rfl ?_
  refine J_pushI qX2_init_18 ?_
  refine R_put0 (Y := yR2) qX2_init_19 fX2_19p (rs := [some 1, none, none, none, none, none, none, none, none]) (by rfl) rfl rfl ((hz _ (Nat.le_refl _)).1 _) ?_
  refine J_aload_n (i := 0) qX2_init_22 rfl rfl ?_
  refine J_pushI qX2_init_23 ?_
  refine R_put0 (Y := yR2) qX2_init_24 fX2_22p (rs := [some 1, none, none, none, none, none, none, none, none]) (by rfl) rfl rfl ((hz _ (Nat.le_refl _)).1 _) ?_
  refine J_aload_n (i := 0) qX2_init_27 rfl rfl ?_
  refine J_pushI qX2_init_28 ?_
  refine R_put0 (Y := yR2) qX2_init_29 fX2_25p (rs := [some 1, none, none, none, none, none, none, none, none]) (by rfl) rfl rfl ((hz _ (Nat.le_refl _)).1 _) ?_
  refine J_aload_n (i := 0) qX2_init_32 rfl rfl ?_
  refine J_pushL qX2_init_33 ?_
  refine R_put0L (Y := yR2) qX2_init_34 fX2_28p (rs := [some 1, none, none, none, none, none, none, none, none]) (by rfl) rfl rfl ((hz _ (Nat.le_refl _)).2 _) ?_
  refine J_aload_n (i := 0) qX2_init_37 rfl rfl ?_
  refine J_pushI qX2_init_38 ?_
  refine R_put0 (Y := yR2) qX2_init_39 fX2_32p (rs := [some 1, none, none, none, none, none, none, none, none]) (by rfl) rfl rfl ((hz _ (Nat.le_refl _)).1 _) ?_
  refine J_aload_n (i := 0) qX2_init_42 rfl rfl ?_
  refine J_pushI qX2_init_43 ?_
  refine R_put0 (Y := yR2) qX2_init_44 fX2_35p (rs := [some 1, none, none, none, none, none, none, none, none]) (by rfl) rfl rfl ((hz _ (Nat.le_refl _)).1 _) ?_
  refine J_aload_n (i := 0) qX2_init_47 rfl rfl ?_
  refine J_pushI qX2_init_48 ?_
  refine R_put0 (Y := yR2) qX2_init_49 fX2_38p (rs := [some 1, none, none, none, none, none, none, none, none]) (by rfl) rfl rfl ((hz _ (Nat.le_refl _)).1 _) ?_
  exact J_vret qX2_init_52.1 qX2_init_52.2 (by decide) (by decide) ⟨rfl, rfl⟩
def yW0 : List Ce := [(4, 3, [none, none, none])]
def yW1 : List Ce := [(4, 3, [none, none, none]), (10, 120, [])]
def yW2 : List Ce := [(4, 3, [some 1, none, none]), (10, 120, [])]
def yW3 : List Ce := [(4, 3, [some 1, none, none]), (10, 120, []), (10, 10, [])]
def yW4 : List Ce := [(4, 3, [some 1, some 2, none]), (10, 120, []), (10, 10, [])]
def yWY : List Ce := yW4
theorem oiX4 : OI RX4 3 := ⟨lw_gm (by decide +kernel) rfl, lw_gm (by decide +kernel) rfl, lw_gm (by decide +kernel) rfl⟩
theorem ct_wr {d : Nat} {L : List Ce} {μ : Mm} (hL : WfL L L.length) (hz : Zr μ L.length) (h6 : L.length ≤ 100000) : Ct mX4_init d (2, 130) 4 [] L yWY μ μ := by
  unfold Ct
  rw [sh_obj]
  refine C_of_J (ls := [.ref L.length]) (by decide +kernel) (Nat.le_of_ble_eq_true rfl) rfl ?_
  show J mX4_init d (2, 130) s0 _ (0, 0) 0 [.ref L.length] [] (gL (L ++ sh L.length yW0), μ)
  refine J_aload_n (i := 0) qX4_init_0 rfl rfl ?_
  refine J_oinit qX4_init_1 oiX4 (Nat.le_of_ble_eq_true rfl) ?_
  refine J_aload_n (i := 0) qX4_init_4 rfl rfl ?_
  refine J_pushI qX4_init_5 ?_
  refine R_newA (Y := yW0) (Y' := yW1) (r0 := 1) (n := 120) qX4_init_7 na_i rfl (by decide) hL (by rfl) hz h6 (by decide) (old1 _) (by decide) (by decide) (by decide) (by rfl) (by rfl) ?_
  refine R_putR (Y := yW1) (Y' := yW2) (r0 := 1) (rs := [none, none, none]) qX4_init_9 ⟨fX4_9, rfl, rfl, rfl⟩ (by rfl) (by decide) (by rfl) ?_
  refine J_aload_n (i := 0) qX4_init_12 rfl rfl ?_
  refine J_pushI qX4_init_13 ?_
  refine R_newA (Y := yW2) (Y' := yW3) (r0 := 2) (n := 10) qX4_init_15 na_i rfl (by decide) hL (by rfl) hz h6 (by decide) (old1 _) (by decide) (by decide) (by decide) (by rfl) (by rfl) ?_
  refine R_putR (Y := yW3) (Y' := yW4) (r0 := 2) (rs := [some 1, none, none]) qX4_init_17 ⟨fX4_15, rfl, rfl, rfl⟩ (by rfl) (by decide) (by rfl) ?_
  refine J_aload_n (i := 0) qX4_init_20 rfl rfl ?_
  refine J_pushI qX4_init_21 ?_
  refine R_put0 (Y := yW4) qX4_init_22 fX4_18p (rs := [some 1, some 2, none]) (by rfl) rfl rfl ((hz _ (Nat.le_refl _)).1 _) ?_
  exact J_vret qX4_init_25.1 qX4_init_25.2 (by decide) (by decide) ⟨rfl, rfl⟩
def yL0 : List Ce := [(0, 9, [none, none, none, none, none, none, none, none, none])]
def yL1 : List Ce := [(0, 9, [none, none, none, none, none, none, none, none, none]), (15, 12, [some 2, some 3, some 4, some 5, some 6, some 7, some 8, some 9, some 10, some 11, some 12, some 13]), (10, 12, []), (10, 12, []), (10, 12, []), (10, 12, []), (10, 12, []), (10, 12, []), (10, 12, []), (10, 12, []), (10, 12, []), (10, 12, []), (10, 12, []), (10, 12, [])]
def yL2 : List Ce := [(0, 9, [some 1, none, none, none, none, none, none, none, none]), (15, 12, [some 2, some 3, some 4, some 5, some 6, some 7, some 8, some 9, some 10, some 11, some 12, some 13]), (10, 12, []), (10, 12, []), (10, 12, []), (10, 12, []), (10, 12, []), (10, 12, []), (10, 12, []), (10, 12, []), (10, 12, []), (10, 12, []), (10, 12, []), (10, 12, [])]
def yL3 : List Ce := [(0, 9, [some 1, none, none, none, none, none, none, none, none]), (15, 12, [some 2, some 3, some 4, some 5, some 6, some 7, some 8, some 9, some 10, some 11, some 12, some 13]), (10, 12, []), (10, 12, []), (10, 12, []), (10, 12, []), (10, 12, []), (10, 12, []), (10, 12, []), (10, 12, []), (10, 12, []), (10, 12, []), (10, 12, []), (10, 12, []), (15, 12, [some 15, some 16, some 17, some 18, some 19, some 20, some 21, some 22, some 23, some 24, some 25, some 26]), (10, 12, []), (10, 12, []), (10, 12, []), (10, 12, []), (10, 12, []), (10, 12, []), (10, 12, []), (10, 12, []), (10, 12, []), (10, 12, []), (10, 12, []), (10, 12, [])]
def yL4 : List Ce := [(0, 9, [some 1, some 14, none, none, none, none, none, none, none]), (15, 12, [some 2, some 3, some 4, some 5, some 6, some 7, some 8, some 9, some 10, some 11, some 12, some 13]), (10, 12, []), (10, 12, []), (10, 12, []), (10, 12, []), (10, 12, []), (10, 12, []), (10, 12, []), (10, 12, []), (10, 12, []), (10, 12, []), (10, 12, []), (10, 12, []), (15, 12, [some 15, some 16, some 17, some 18, some 19, some 20, some 21, some 22, some 23, some 24, some 25, some 26]), (10, 12, []), (10, 12, []), (10, 12, []), (10, 12, []), (10, 12, []), (10, 12, []), (10, 12, []), (10, 12, []), (10, 12, []), (10, 12, []), (10, 12, []), (10, 12, [])]
def yL5 : List Ce := [(0, 9, [some 1, some 14, none, none, none, none, none, none, none]), (15, 12, [some 2, some 3, some 4, some 5, some 6, some 7, some 8, some 9, some 10, some 11, some 12, some 13]), (10, 12, []), (10, 12, []), (10, 12, []), (10, 12, []), (10, 12, []), (10, 12, []), (10, 12, []), (10, 12, []), (10, 12, []), (10, 12, []), (10, 12, []), (10, 12, []), (15, 12, [some 15, some 16, some 17, some 18, some 19, some 20, some 21, some 22, some 23, some 24, some 25, some 26]), (10, 12, []), (10, 12, []), (10, 12, []), (10, 12, []), (10, 12, []), (10, 12, []), (10, 12, []), (10, 12, []), (10, 12, []), (10, 12, []), (10, 12, []), (10, 12, []), (15, 12, [some 28, some 29, some 30, some 31, some 32, some 33, some 34, some 35, some 36, some 37, some 38, some 39]), (10, 12, []), (10, 12, []), (10, 12, []), (10, 12, []), (10, 12, []), (10, 12, []), (10, 12, []), (10, 12, []), (10, 12, []), (10, 12, []), (10, 12, []), (10, 12, [])]
def yL6 : List Ce := [(0, 9, [some 1, some 14, some 27, none, none, none, none, none, none]), (15, 12, [some 2, some 3, some 4, some 5, some 6, some 7, some 8, some 9, some 10, some 11, some 12, some 13]), (10, 12, []), (10, 12, []), (10, 12, []), (10, 12, []), (10, 12, []), (10, 12, []), (10, 12, []), (10, 12, []), (10, 12, []), (10, 12, []), (10, 12, []), (10, 12, []), (15, 12, [some 15, some 16, some 17, some 18, some 19, some 20, some 21, some 22, some 23, some 24, some 25, some 26]), (10, 12, []), (10, 12, []), (10, 12, []), (10, 12, []), (10, 12, []), (10, 12, []), (10, 12, []), (10, 12, []), (10, 12, []), (10, 12, []), (10, 12, []), (10, 12, []), (15, 12, [some 28, some 29, some 30, some 31, some 32, some 33, some 34, some 35, some 36, some 37, some 38, some 39]), (10, 12, []), (10, 12, []), (10, 12, []), (10, 12, []), (10, 12, []), (10, 12, []), (10, 12, []), (10, 12, []), (10, 12, []), (10, 12, []), (10, 12, []), (10, 12, [])]
def yL7 : List Ce := [(0, 9, [some 1, some 14, some 27, none, none, none, none, none, none]), (15, 12, [some 2, some 3, some 4, some 5, some 6, some 7, some 8, some 9, some 10, some 11, some 12, some 13]), (10, 12, []), (10, 12, []), (10, 12, []), (10, 12, []), (10, 12, []), (10, 12, []), (10, 12, []), (10, 12, []), (10, 12, []), (10, 12, []), (10, 12, []), (10, 12, []), (15, 12, [some 15, some 16, some 17, some 18, some 19, some 20, some 21, some 22, some 23, some 24, some 25, some 26]), (10, 12, []), (10, 12, []), (10, 12, []), (10, 12, []), (10, 12, []), (10, 12, []), (10, 12, []), (10, 12, []), (10, 12, []), (10, 12, []), (10, 12, []), (10, 12, []), (15, 12, [some 28, some 29, some 30, some 31, some 32, some 33, some 34, some 35, some 36, some 37, some 38, some 39]), (10, 12, []), (10, 12, []), (10, 12, []), (10, 12, []), (10, 12, []), (10, 12, []), (10, 12, []), (10, 12, []), (10, 12, []), (10, 12, []), (10, 12, []), (10, 12, []), (15, 12, [some 41, some 42, some 43, some 44, some 45, some 46, some 47, some 48, some 49, some 50, some 51, some 52]), (10, 12, []), (10, 12, []), (10, 12, []), (10, 12, []), (10, 12, []), (10, 12, []), (10, 12, []), (10, 12, []), (10, 12, []), (10, 12, []), (10, 12, []), (10, 12, [])]
def yL8 : List Ce := [(0, 9, [some 1, some 14, some 27, some 40, none, none, none, none, none]), (15, 12, [some 2, some 3, some 4, some 5, some 6, some 7, some 8, some 9, some 10, some 11, some 12, some 13]), (10, 12, []), (10, 12, []), (10, 12, []), (10, 12, []), (10, 12, []), (10, 12, []), (10, 12, []), (10, 12, []), (10, 12, []), (10, 12, []), (10, 12, []), (10, 12, []), (15, 12, [some 15, some 16, some 17, some 18, some 19, some 20, some 21, some 22, some 23, some 24, some 25, some 26]), (10, 12, []), (10, 12, []), (10, 12, []), (10, 12, []), (10, 12, []), (10, 12, []), (10, 12, []), (10, 12, []), (10, 12, []), (10, 12, []), (10, 12, []), (10, 12, []), (15, 12, [some 28, some 29, some 30, some 31, some 32, some 33, some 34, some 35, some 36, some 37, some 38, some 39]), (10, 12, []), (10, 12, []), (10, 12, []), (10, 12, []), (10, 12, []), (10, 12, []), (10, 12, []), (10, 12, []), (10, 12, []), (10, 12, []), (10, 12, []), (10, 12, []), (15, 12, [some 41, some 42, some 43, some 44, some 45, some 46, some 47, some 48, some 49, some 50, some 51, some 52]), (10, 12, []), (10, 12, []), (10, 12, []), (10, 12, []), (10, 12, []), (10, 12, []), (10, 12, []), (10, 12, []), (10, 12, []), (10, 12, []), (10, 12, []), (10, 12, [])]
def yL9 : List Ce := [(0, 9, [some 1, some 14, some 27, some 40, none, none, none, none, none]), (15, 12, [some 2, some 3, some 4, some 5, some 6, some 7, some 8, some 9, some 10, some 11, some 12, some 13]), (10, 12, []), (10, 12, []), (10, 12, []), (10, 12, []), (10, 12, []), (10, 12, []), (10, 12, []), (10, 12, []), (10, 12, []), (10, 12, []), (10, 12, []), (10, 12, []), (15, 12, [some 15, some 16, some 17, some 18, some 19, some 20, some 21, some 22, some 23, some 24, some 25, some 26]), (10, 12, []), (10, 12, []), (10, 12, []), (10, 12, []), (10, 12, []), (10, 12, []), (10, 12, []), (10, 12, []), (10, 12, []), (10, 12, []), (10, 12, []), (10, 12, []), (15, 12, [some 28, some 29, some 30, some 31, some 32, some 33, some 34, some 35, some 36, some 37, some 38, some 39]), (10, 12, []), (10, 12, []), (10, 12, []), (10, 12, []), (10, 12, []), (10, 12, []), (10, 12, []), (10, 12, []), (10, 12, []), (10, 12, []), (10, 12, []), (10, 12, []), (15, 12, [some 41, some 42, some 43, some 44, some 45, some 46, some 47, some 48, some 49, some 50, some 51, some 52]), (10, 12, []), (10, 12, []), (10, 12, []), (10, 12, []), (10, 12, []), (10, 12, []), (10, 12, []), (10, 12, []), (10, 12, []), (10, 12, []), (10, 12, []), (10, 12, []), (10, 12, [])]
def yL10 : List Ce := [(0, 9, [some 1, some 14, some 27, some 40, some 53, none, none, none, none]), (15, 12, [some 2, some 3, some 4, some 5, some 6, some 7, some 8, some 9, some 10, some 11, some 12, some 13]), (10, 12, []), (10, 12, []), (10, 12, []), (10, 12, []), (10, 12, []), (10, 12, []), (10, 12, []), (10, 12, []), (10, 12, []), (10, 12, []), (10, 12, []), (10, 12, []), (15, 12, [some 15, some 16, some 17, some 18, some 19, some 20, some 21, some 22, some 23, some 24, some 25, some 26]), (10, 12, []), (10, 12, []), (10, 12, []), (10, 12, []), (10, 12, []), (10, 12, []), (10, 12, []), (10, 12, []), (10, 12, []), (10, 12, []), (10, 12, []), (10, 12, []), (15, 12, [some 28, some 29, some 30, some 31, some 32, some 33, some 34, some 35, some 36, some 37, some 38, some 39]), (10, 12, []), (10, 12, []), (10, 12, []), (10, 12, []), (10, 12, []), (10, 12, []), (10, 12, []), (10, 12, []), (10, 12, []), (10, 12, []), (10, 12, []), (10, 12, []), (15, 12, [some 41, some 42, some 43, some 44, some 45, some 46, some 47, some 48, some 49, some 50, some 51, some 52]), (10, 12, []), (10, 12, []), (10, 12, []), (10, 12, []), (10, 12, []), (10, 12, []), (10, 12, []), (10, 12, []), (10, 12, []), (10, 12, []), (10, 12, []), (10, 12, []), (10, 12, [])]
def yL11 : List Ce := [(0, 9, [some 1, some 14, some 27, some 40, some 53, none, none, none, none]), (15, 12, [some 2, some 3, some 4, some 5, some 6, some 7, some 8, some 9, some 10, some 11, some 12, some 13]), (10, 12, []), (10, 12, []), (10, 12, []), (10, 12, []), (10, 12, []), (10, 12, []), (10, 12, []), (10, 12, []), (10, 12, []), (10, 12, []), (10, 12, []), (10, 12, []), (15, 12, [some 15, some 16, some 17, some 18, some 19, some 20, some 21, some 22, some 23, some 24, some 25, some 26]), (10, 12, []), (10, 12, []), (10, 12, []), (10, 12, []), (10, 12, []), (10, 12, []), (10, 12, []), (10, 12, []), (10, 12, []), (10, 12, []), (10, 12, []), (10, 12, []), (15, 12, [some 28, some 29, some 30, some 31, some 32, some 33, some 34, some 35, some 36, some 37, some 38, some 39]), (10, 12, []), (10, 12, []), (10, 12, []), (10, 12, []), (10, 12, []), (10, 12, []), (10, 12, []), (10, 12, []), (10, 12, []), (10, 12, []), (10, 12, []), (10, 12, []), (15, 12, [some 41, some 42, some 43, some 44, some 45, some 46, some 47, some 48, some 49, some 50, some 51, some 52]), (10, 12, []), (10, 12, []), (10, 12, []), (10, 12, []), (10, 12, []), (10, 12, []), (10, 12, []), (10, 12, []), (10, 12, []), (10, 12, []), (10, 12, []), (10, 12, []), (10, 12, []), (10, 12, [])]
def yL12 : List Ce := [(0, 9, [some 1, some 14, some 27, some 40, some 53, some 54, none, none, none]), (15, 12, [some 2, some 3, some 4, some 5, some 6, some 7, some 8, some 9, some 10, some 11, some 12, some 13]), (10, 12, []), (10, 12, []), (10, 12, []), (10, 12, []), (10, 12, []), (10, 12, []), (10, 12, []), (10, 12, []), (10, 12, []), (10, 12, []), (10, 12, []), (10, 12, []), (15, 12, [some 15, some 16, some 17, some 18, some 19, some 20, some 21, some 22, some 23, some 24, some 25, some 26]), (10, 12, []), (10, 12, []), (10, 12, []), (10, 12, []), (10, 12, []), (10, 12, []), (10, 12, []), (10, 12, []), (10, 12, []), (10, 12, []), (10, 12, []), (10, 12, []), (15, 12, [some 28, some 29, some 30, some 31, some 32, some 33, some 34, some 35, some 36, some 37, some 38, some 39]), (10, 12, []), (10, 12, []), (10, 12, []), (10, 12, []), (10, 12, []), (10, 12, []), (10, 12, []), (10, 12, []), (10, 12, []), (10, 12, []), (10, 12, []), (10, 12, []), (15, 12, [some 41, some 42, some 43, some 44, some 45, some 46, some 47, some 48, some 49, some 50, some 51, some 52]), (10, 12, []), (10, 12, []), (10, 12, []), (10, 12, []), (10, 12, []), (10, 12, []), (10, 12, []), (10, 12, []), (10, 12, []), (10, 12, []), (10, 12, []), (10, 12, []), (10, 12, []), (10, 12, [])]
def yL13 : List Ce := [(0, 9, [some 1, some 14, some 27, some 40, some 53, some 54, none, none, none]), (15, 12, [some 2, some 3, some 4, some 5, some 6, some 7, some 8, some 9, some 10, some 11, some 12, some 13]), (10, 12, []), (10, 12, []), (10, 12, []), (10, 12, []), (10, 12, []), (10, 12, []), (10, 12, []), (10, 12, []), (10, 12, []), (10, 12, []), (10, 12, []), (10, 12, []), (15, 12, [some 15, some 16, some 17, some 18, some 19, some 20, some 21, some 22, some 23, some 24, some 25, some 26]), (10, 12, []), (10, 12, []), (10, 12, []), (10, 12, []), (10, 12, []), (10, 12, []), (10, 12, []), (10, 12, []), (10, 12, []), (10, 12, []), (10, 12, []), (10, 12, []), (15, 12, [some 28, some 29, some 30, some 31, some 32, some 33, some 34, some 35, some 36, some 37, some 38, some 39]), (10, 12, []), (10, 12, []), (10, 12, []), (10, 12, []), (10, 12, []), (10, 12, []), (10, 12, []), (10, 12, []), (10, 12, []), (10, 12, []), (10, 12, []), (10, 12, []), (15, 12, [some 41, some 42, some 43, some 44, some 45, some 46, some 47, some 48, some 49, some 50, some 51, some 52]), (10, 12, []), (10, 12, []), (10, 12, []), (10, 12, []), (10, 12, []), (10, 12, []), (10, 12, []), (10, 12, []), (10, 12, []), (10, 12, []), (10, 12, []), (10, 12, []), (10, 12, []), (10, 12, []), (10, 12, [])]
def yL14 : List Ce := [(0, 9, [some 1, some 14, some 27, some 40, some 53, some 54, some 55, none, none]), (15, 12, [some 2, some 3, some 4, some 5, some 6, some 7, some 8, some 9, some 10, some 11, some 12, some 13]), (10, 12, []), (10, 12, []), (10, 12, []), (10, 12, []), (10, 12, []), (10, 12, []), (10, 12, []), (10, 12, []), (10, 12, []), (10, 12, []), (10, 12, []), (10, 12, []), (15, 12, [some 15, some 16, some 17, some 18, some 19, some 20, some 21, some 22, some 23, some 24, some 25, some 26]), (10, 12, []), (10, 12, []), (10, 12, []), (10, 12, []), (10, 12, []), (10, 12, []), (10, 12, []), (10, 12, []), (10, 12, []), (10, 12, []), (10, 12, []), (10, 12, []), (15, 12, [some 28, some 29, some 30, some 31, some 32, some 33, some 34, some 35, some 36, some 37, some 38, some 39]), (10, 12, []), (10, 12, []), (10, 12, []), (10, 12, []), (10, 12, []), (10, 12, []), (10, 12, []), (10, 12, []), (10, 12, []), (10, 12, []), (10, 12, []), (10, 12, []), (15, 12, [some 41, some 42, some 43, some 44, some 45, some 46, some 47, some 48, some 49, some 50, some 51, some 52]), (10, 12, []), (10, 12, []), (10, 12, []), (10, 12, []), (10, 12, []), (10, 12, []), (10, 12, []), (10, 12, []), (10, 12, []), (10, 12, []), (10, 12, []), (10, 12, []), (10, 12, []), (10, 12, []), (10, 12, [])]
def yLY : List Ce := yL14
theorem oiX0 : OI RX0 3 := ⟨lw_gm (by decide +kernel) rfl, lw_gm (by decide +kernel) rfl, lw_gm (by decide +kernel) rfl⟩
theorem mcX0 : Cond.classLink RX0 9 ("[" ++ (FieldType.array .int).toString) ∈ lw_g := lw_gm (by decide +kernel) rfl
theorem ct_plan {d : Nat} {L : List Ce} {μ : Mm} (hL : WfL L L.length) (hz : Zr μ L.length) (h6 : L.length ≤ 100000) : Ct mX0_init d (55, 660) 0 [] L yLY μ μ := by
  unfold Ct
  rw [sh_obj]
  refine C_of_J (ls := [.ref L.length]) (by decide +kernel) (Nat.le_of_ble_eq_true rfl) rfl ?_
  show J mX0_init d (55, 660) s0 _ (0, 0) 0 [.ref L.length] [] (gL (L ++ sh L.length yL0), μ)
  refine J_aload_n (i := 0) qX0_init_0 rfl rfl ?_
  refine J_oinit qX0_init_1 oiX0 (Nat.le_of_ble_eq_true rfl) ?_
  refine J_aload_n (i := 0) qX0_init_4 rfl rfl ?_
  refine J_pushI qX0_init_5 ?_
  refine J_pushI qX0_init_7 ?_
  refine R_multi (Y := yL0) (Y' := yL1) (r0 := 1) (Z := mz 1) qX0_init_9 mcX0 hL (by rfl) hz h6 (by decide) (old1 _) (by decide) (by decide) (by decide) (by rfl) (mz_ok 1) (by rfl) ?_
  refine R_putR (Y := yL1) (Y' := yL2) (r0 := 1) (rs := [none, none, none, none, none, none, none, none, none]) qX0_init_13 ⟨fX0_11, rfl, rfl, rfl⟩ (by rfl) (by decide) (by rfl) ?_
  refine J_aload_n (i := 0) qX0_init_16 rfl rfl ?_
  refine J_pushI qX0_init_17 ?_
  refine J_pushI qX0_init_19 ?_
  refine R_multi (Y := yL2) (Y' := yL3) (r0 := 14) (Z := mz 14) qX0_init_21 mcX0 hL (by rfl) hz h6 (by decide) (old1 _) (by decide) (by decide) (by decide) (by rfl) (mz_ok 14) (by rfl) ?_
  refine R_putR (Y := yL3) (Y' := yL4) (r0 := 14) (rs := [some 1, none, none, none, none, none, none, none, none]) qX0_init_25 ⟨fX0_16, rfl, rfl, rfl⟩ (by rfl) (by decide) (by rfl) ?_
  refine J_aload_n (i := 0) qX0_init_28 rfl rfl ?_
  refine J_pushI qX0_init_29 ?_
  refine J_pushI qX0_init_31 ?_
  refine R_multi (Y := yL4) (Y' := yL5) (r0 := 27) (Z := mz 27) qX0_init_33 mcX0 hL (by rfl) hz h6 (by decide) (old1 _) (by decide) (by decide) (by decide) (by rfl) (mz_ok 27) (by rfl) ?_
  refine R_putR (Y := yL5) (Y' := yL6) (r0 := 27) (rs := [some 1, some 14, none, none, none, none, none, none, none]) qX0_init_37 ⟨fX0_19, rfl, rfl, rfl⟩ (by rfl) (by decide) (by rfl) ?_
  refine J_aload_n (i := 0) qX0_init_40 rfl rfl ?_
  refine J_pushI qX0_init_41 ?_
  refine J_pushI qX0_init_43 ?_
  refine R_multi (Y := yL6) (Y' := yL7) (r0 := 40) (Z := mz 40) qX0_init_45 mcX0 hL (by rfl) hz h6 (by decide) (old1 _) (by decide) (by decide) (by decide) (by rfl) (mz_ok 40) (by rfl) ?_
  refine R_putR (Y := yL7) (Y' := yL8) (r0 := 40) (rs := [some 1, some 14, some 27, none, none, none, none, none, none]) qX0_init_49 ⟨fX0_22, rfl, rfl, rfl⟩ (by rfl) (by decide) (by rfl) ?_
  refine J_aload_n (i := 0) qX0_init_52 rfl rfl ?_
  refine J_pushI qX0_init_53 ?_
  refine R_newA (Y := yL8) (Y' := yL9) (r0 := 53) (n := 12) qX0_init_55 na_i rfl (by decide) hL (by rfl) hz h6 (by decide) (old1 _) (by decide) (by decide) (by decide) (by rfl) (by rfl) ?_
  refine R_putR (Y := yL9) (Y' := yL10) (r0 := 53) (rs := [some 1, some 14, some 27, some 40, none, none, none, none, none]) qX0_init_57 ⟨fX0_25, rfl, rfl, rfl⟩ (by rfl) (by decide) (by rfl) ?_
  refine J_aload_n (i := 0) qX0_init_60 rfl rfl ?_
  refine J_pushI qX0_init_61 ?_
  refine R_newA (Y := yL10) (Y' := yL11) (r0 := 54) (n := 12) qX0_init_63 na_i rfl (by decide) hL (by rfl) hz h6 (by decide) (old1 _) (by decide) (by decide) (by decide) (by rfl) (by rfl) ?_
  refine R_putR (Y := yL11) (Y' := yL12) (r0 := 54) (rs := [some 1, some 14, some 27, some 40, some 53, none, none, none, none]) qX0_init_65 ⟨fX0_29, rfl, rfl, rfl⟩ (by rfl) (by decide) (by rfl) ?_
  refine J_aload_n (i := 0) qX0_init_68 rfl rfl ?_
  refine J_pushI qX0_init_69 ?_
  refine R_newA (Y := yL12) (Y' := yL13) (r0 := 55) (n := 12) qX0_init_71 na_i rfl (by decide) hL (by rfl) hz h6 (by decide) (old1 _) (by decide) (by decide) (by decide) (by rfl) (by rfl) ?_
  refine R_putR (Y := yL13) (Y' := yL14) (r0 := 55) (rs := [some 1, some 14, some 27, some 40, some 53, some 54, none, none, none]) qX0_init_73 ⟨fX0_32, rfl, rfl, rfl⟩ (by rfl) (by decide) (by rfl) ?_
  refine J_aload_n (i := 0) qX0_init_76 rfl rfl ?_
  refine J_pushI qX0_init_77 ?_
  refine R_put0 (Y := yL14) qX0_init_78 fX0_35p (rs := [some 1, some 14, some 27, some 40, some 53, some 54, some 55, none, none]) (by rfl) rfl rfl ((hz _ (Nat.le_refl _)).1 _) ?_
  refine J_aload_n (i := 0) qX0_init_81 rfl rfl ?_
  refine J_pushI qX0_init_82 ?_
  refine R_put0 (Y := yL14) qX0_init_83 fX0_39p (rs := [some 1, some 14, some 27, some 40, some 53, some 54, some 55, none, none]) (by rfl) rfl rfl ((hz _ (Nat.le_refl _)).1 _) ?_
  exact J_vret qX0_init_86.1 qX0_init_86.2 (by decide) (by decide) ⟨rfl, rfl⟩
