/-! Strip's constructor; making cells behind a list that is written out -/
theorem J_mmaxG {mi : MI} {d : Nat} {lim cs : Nat × Nat} {sc : Nat × (Nat → Int32)} {K : Option Value → Wd → Prop} {pc nx idx : Nat} {ls st : List Value} {w : Wd} {x y : Int32} (h : Dc mi pc (.invokestatic idx) 3 nx) (hl : CS mi.1.cls idx mJ9_max_7cf53 2) (hst : (st.map fun v => v.category).sum ≤ 8) (g1 : cs.1 ≤ lim.1) (g2 : cs.2 ≤ lim.2) (k : J mi (d + 1) lim sc K cs nx ls (.int (if x < y then y else x) :: st) w) : J mi (d + 1) lim sc K cs pc ls (.int y :: .int x :: st) w := by
  obtain ⟨hd, rfl⟩ := h
  obtain ⟨l1, l2, -, -, l3, l4⟩ := hl
  intro p l e R s m args below meth c H locs D tc ad A lr Q hC hR hE hL hret
  have hts := hC.2.2.2.2.2.1
  have e1 : ((st.map (trV ad)).map fun v => v.category).sum ≤ 8 := by rw [tr_cats]; exact hst
  have e2 := hR.2.1
  exact va_mmax hC.1 hC.2.1 (hC.2.2.2.1.trans hL.1.symm) hC.2.2.2.2.1 (hts _ l1) (hts _ l2) (hts _ l4) (hts _ l3) (Nat.le_trans (by omega) hR.1) (by omega) (Nat.le_trans g1 hR.2.2.1) (Nat.le_trans g2 hR.2.2.2) hd (k p l e R s m args below meth c H locs D tc ad A lr Q hC hR hE hL hret)
section AB
variable {mi mj : MI} {d : Nat} {lim lim' : Nat × Nat} {sc : Nat × (Nat → Int32)} {K : Option Value → Wd → Prop} {cs : Nat × Nat} {pc nx idx n : Nat} {ls st : List Value} {X X' : List Ce} {μ : Mm}
theorem A_newA {t : ArrayType} {kd r : Nat} {i : Int32} (h : Dc mi pc (.newarray t) 2 nx) (hk : NA t kd) (hi : i = nI n) (hn : n < 100000) (hw : wfB X = true) (hr : X.length = r) (h6 : r ≤ 1000) (hz : Zr μ r) (hold : Old ls st r) (h1 : cs.1 + 1 ≤ lim.1) (h2 : cs.2 + n ≤ lim.2) (hX : X ++ [(kd, n, [])] = X')
    (kk : J mi d lim sc K (cs.1 + 1, cs.2 + n) nx ls (.ref r :: st) (gL X', μ)) : J mi d lim sc K cs pc ls (.int i :: st) (gL X, μ) := by
  subst hr hX
  exact J_newA h hk hi hn (wfB_ok hw) hz (by omega) hold h1 h2 kk
theorem A_newQ {kd cj r : Nat} {i : Int32} (h : Dc mi pc (.anewarray idx) 3 nx) (hk : NQ mi.1.cls idx kd cj) (hi : i = nI n) (hn : n < 100000) (hw : wfB X = true) (hr : X.length = r) (h6 : r ≤ 1000) (hold : Old ls st r) (h1 : cs.1 + 1 ≤ lim.1) (h2 : cs.2 + n ≤ lim.2) (hX : X ++ [(kd, n, List.replicate n none)] = X')
    (kk : J mi d lim sc K (cs.1 + 1, cs.2 + n) nx ls (.ref r :: st) (gL X', μ)) : J mi d lim sc K cs pc ls (.int i :: st) (gL X, μ) := by
  subst hr hX
  exact J_newQ h hk hi hn (wfB_ok hw) (by omega) hold h1 h2 kk
theorem A_newO {ci r : Nat} (h : Dc mi pc (.new idx) 3 nx) (hk : NO mi.1.cls idx ci) (hw : wfB X = true) (hr : X.length = r) (h6 : r ≤ 1000) (hz : Zr μ r) (hold : Old ls st r) (h1 : cs.1 + 1 ≤ lim.1) (h2 : cs.2 + clN ci ≤ lim.2)
    (kk : J mi d lim sc K (cs.1 + 1, cs.2 + clN ci) nx ls (.ref r :: st) (gL (X ++ [(ci, clN ci, List.replicate (clN ci) none)]), μ)) : J mi d lim sc K cs pc ls st (gL X, μ) := by
  subst hr
  exact J_newO h hk (wfB_ok hw) hz (by omega) hold h1 h2 kk
/-- a constructor's call -/
theorem A_init {host : String} {ci r : Nat} {Y : List Ce} {μ' : Mm} (h : Dc mi pc (.invokespecial idx) 3 nx) (hl : CIN mi.1.cls idx mj 0 host) (hr : X.length = r) (hM : Ct mj d lim' ci [] X Y μ μ') (h1 : cs.1 + lim'.1 ≤ lim.1) (h2 : cs.2 + lim'.2 ≤ lim.2) (hst : (st.map fun v => v.category).sum ≤ 8) (hold : Old ls st (r + 1)) (hX : X ++ sh r Y = X')
    (kk : J mi (d + 1) lim sc K (cs.1 + lim'.1, cs.2 + lim'.2) nx ls st (gL X', μ')) : J mi (d + 1) lim sc K cs pc ls (.ref r :: st) (gL (X ++ [(ci, clN ci, List.replicate (clN ci) none)]), μ) := by
  subst hr hX
  have hlen : (gL (X ++ [(ci, clN ci, List.replicate (clN ci) none)])).2 = X.length + 1 := by
    show (X ++ [(ci, clN ci, List.replicate (clN ci) none)]).length = _
    rw [List.length_append]; rfl
  refine J_callIN (As := []) h hl rfl hM h1 h2 hst (Or.inr (fun i hi => by rw [hlen]; exact hold i hi)) (fun v w' hq => ?_)
  obtain ⟨rfl, rfl⟩ := hq
  exact kk
theorem A_init1 {ci r : Nat} {x : Value} {Y : List Ce} {μ' : Mm} (h : Dc mi pc (.invokespecial idx) 3 nx) (hl : CI mi.1.cls idx mj 1) (hr : X.length = r) (hM : Ct mj d lim' ci [x] X Y μ μ') (h1 : cs.1 + lim'.1 ≤ lim.1) (h2 : cs.2 + lim'.2 ≤ lim.2) (hst : (st.map fun v => v.category).sum ≤ 8) (hold : Old ls st (r + 1)) (hX : X ++ sh r Y = X')
    (kk : J mi (d + 1) lim sc K (cs.1 + lim'.1, cs.2 + lim'.2) nx ls st (gL X', μ')) : J mi (d + 1) lim sc K cs pc ls (x :: .ref r :: st) (gL (X ++ [(ci, clN ci, List.replicate (clN ci) none)]), μ) := by
  subst hr hX
  have hlen : (gL (X ++ [(ci, clN ci, List.replicate (clN ci) none)])).2 = X.length + 1 := by
    show (X ++ [(ci, clN ci, List.replicate (clN ci) none)]).length = _
    rw [List.length_append]; rfl
  refine J_callI (As := [x]) h hl rfl hM h1 h2 hst (Or.inr (fun i hi => by rw [hlen]; exact hold i hi)) (fun v w' hq => ?_)
  obtain ⟨rfl, rfl⟩ := hq
  exact kk
end AB
def ys (N : Nat) : List Ce := [(3, 2, [some 1, none]), (10, N, [])]
theorem oiX3 : OI RX3 1 := ⟨lw_gm (by decide +kernel) rfl, lw_gm (by decide +kernel) rfl, lw_gm (by decide +kernel) rfl⟩
theorem ct_strip {d N : Nat} {L : List Ce} {μ : Mm} (hN : N < 100000) (hL : WfL L L.length) (hz : Zr μ L.length) (h6 : L.length ≤ 100000) : Ct mX3_init (d + 1) (1, N) 3 [.int (nI N)] L (ys N) μ (wI μ L.length 1 (-1)) := by
  unfold Ct
  rw [sh_obj]
  refine C_of_J (ls := [.ref L.length, .int (nI N)]) (by decide +kernel) (Nat.le_of_ble_eq_true rfl) rfl ?_
  show J mX3_init (d + 1) (1, N) s0 _ (0, 0) 0 [.ref L.length, .int (nI N)] [] (gL (L ++ sh L.length [(3, 2, [none, none])]), μ)
  refine J_aload_n (i := 0) qX3_init_0 rfl rfl ?_
  refine J_oinit qX3_init_1 oiX3 (Nat.le_of_ble_eq_true rfl) ?_
  refine J_aload_n (i := 0) qX3_init_4 rfl rfl ?_
  refine J_pushI qX3_init_5 ?_
  refine J_putI qX3_init_6 fX3_7p (isO_L (rs := [none, none]) (sh_at (i := 0) (e := (3, 2, [none, none])) rfl)) rfl rfl ?_
  refine J_aload_n (i := 0) qX3_init_9 rfl rfl ?_
  refine J_iload_n (i := 1) qX3_init_10 rfl rfl ?_
  refine J_pushI qX3_init_11 ?_
  refine J_mmaxG qX3_init_12 kX3_13 (Nat.le_of_ble_eq_true rfl) (Nat.zero_le _) (Nat.zero_le _) ?_
  have hng : ¬ nI N < nI 0 := fun q => (vp_inN (n := N + 1) (k := N) rfl (Nat.lt_succ_self N) (by omega)).1 (Or.inl q)
  rw [if_neg hng]
  have hlen := sh_len L [(3, 2, [none, none])]
  refine J_newA (n := N) qX3_init_15 na_i rfl hN (wf_sh hL rfl) ((hz.le (Nat.le_succ _)).w (Nat.lt_succ_self _) |>.le (by rw [hlen]; exact Nat.le_refl _)) (by rw [hlen]; show L.length + 1 + 1 ≤ _; omega) (fun q hq => (old2 L.length (nI N) q hq).imp (fun z => by rw [hlen]; exact z) id) (Nat.le_refl _) (by show 0 + N ≤ N; omega) ?_
  rw [sh_new (Y' := [(3, 2, [none, none]), (10, N, [])]) rfl, hlen]
  refine R_putR (r0 := 1) (rs := [none, none]) (Y' := ys N) qX3_init_17 ⟨fX3_19, rfl, rfl, rfl⟩ rfl (by decide) rfl ?_
  exact J_vret qX3_init_20.1 qX3_init_20.2 (Nat.le_refl _) (by show 0 + N ≤ N; omega) ⟨rfl, rfl⟩
