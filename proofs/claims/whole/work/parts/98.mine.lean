theorem noL5 : NO RL 7 5 := ⟨by decide, lw_gm (by decide +kernel) rfl, lw_gm (by decide +kernel) rfl, lw_gm (by decide +kernel) rfl⟩
theorem noL6 : NO RL 10 6 := ⟨by decide, lw_gm (by decide +kernel) rfl, lw_gm (by decide +kernel) rfl, lw_gm (by decide +kernel) rfl⟩
/-- the law's walk -/
theorem law_J (nm : String) {L : Nat} {xs : Nat → Int32} (hL : L ≤ 3072) : J (mLn nm) 40 (218, 13249) (L + 1, xs) Kt (0, 0) 0 [.ref 3000000, .null, .null, .null] [] (gL [], ((fun _ _ => 0, fun _ _ => 0) : Mm)) := by
  have hz : Zr ((fun _ _ => 0, fun _ _ => 0) : Mm) 0 := fun i _ => ⟨fun _ => rfl, fun _ => rfl⟩
  refine A_newO (X := []) (r := 0) qL_law_0 noL5 rfl rfl (by decide) hz (fun i hi => Or.inr (by simp at hi; subst hi; exact Nat.le_of_ble_eq_true rfl)) (by decide) (by decide) ?_
  refine J_dup qL_law_3 rfl ?_
  refine J_callI (As := []) (a := 0) (lim' := (197, 3867)) (K1 := Kx) qL_law_4 kL_9 rfl (ct_x hz) (by decide) (by decide) (Nat.le_of_ble_eq_true rfl) (Or.inr (fun i hi => by
    simp at hi
    rcases hi with rfl | rfl
    · exact Or.inr (Nat.le_of_ble_eq_true rfl)
    · exact Or.inl (Nat.le_of_ble_eq_true rfl))) (fun v w' hq => ?_)
  obtain ⟨rfl, μ1, rfl, hp⟩ := hq
  refine J_ast1 qL_law_7 (Nat.le_of_ble_eq_true rfl) rfl ?_
  obtain ⟨k1, k2, k3⟩ := xk_ok 3 (by decide)
  have hz1 : Zr μ1 198 := hp.z.le (by decide)
  refine A_newO (X := xk 3) (r := 198) qL_law_8 noL6 k2 k1 (by decide) hz1 (fun i hi => by
    simp at hi
    rcases hi with rfl | rfl
    · exact Or.inr (Nat.le_of_ble_eq_true rfl)
    · exact Or.inl (Nat.le_of_ble_eq_true rfl)) (by decide) (by decide) ?_
  refine J_dup qL_law_11 rfl ?_
  have hlen : (gL (xk 3 ++ [(6, clN 6, List.replicate (clN 6) none)])).2 = 199 := by
    show (xk 3 ++ [(6, clN 6, List.replicate (clN 6) none)]).length = _
    rw [List.length_append, k1]; rfl
  refine J_callI (As := []) (a := 198) (lim' := (19, 9332)) (K1 := Kmd μ1) qL_law_12 kL_12 rfl (ct_m hz1) (by decide) (by decide) (Nat.le_of_ble_eq_true rfl) (Or.inr (fun i hi => by
    rw [hlen]
    simp at hi
    rcases hi with rfl | rfl | rfl
    · exact Or.inr (Nat.le_of_ble_eq_true rfl)
    · exact Or.inl (Nat.le_of_ble_eq_true rfl)
    · exact Or.inl (Nat.le_of_ble_eq_true rfl))) (fun v w' hq => ?_)
  obtain ⟨rfl, μ2, rfl, hq⟩ := hq
  obtain ⟨hX, hM⟩ := rel0 hp hq
  refine J_ast2 qL_law_15 (Nat.le_of_ble_eq_true rfl) rfl ?_
  refine J_pushI qL_law_16 ?_
  refine J_ist3 qL_law_17 (Nat.le_of_ble_eq_true rfl) rfl ?_
  exact lw_loop layX_end layM_end (by decide) (by decide) hL (L + 7) 0 μ2 st0 (by omega) (by omega) hX hM
def lx_tm (i : Nat) : Term := match i with
  | 0 => .string "CaseCutter$Reader" 75
  | 1 => .string "CaseCutter$Reader" 84
  | 2 => .string "CaseCutter$Reader" 86
  | _ => .string "CaseCutter$Reader" 88
abbrev lx_N : Cond := Jvm.Cond.and given_1 narrow_1
theorem lx_1 : ∀ i, i < 4 → Cond.exactly (lx_tm i) "java/lang/String" ∈ flatC lx_N := by decide +kernel
theorem lx_2 : ∀ i, i < 4 → Cond.eq (.field (lx_tm i) "java/lang/String" "coder" "B") (.int 0) ∈ flatC lx_N := by decide +kernel
theorem lx_3 : ∀ i, i < 4 → Cond.arrayOf (.field (lx_tm i) "java/lang/String" "value" "[B") .byte ∈ flatC lx_N := by decide +kernel
theorem lx_4 : ∀ i, i < 4 → Cond.eq (.length (.field (lx_tm i) "java/lang/String" "value" "[B")) (.int (Int32.ofNat (strN.getD i 0))) ∈ flatC lx_N := by decide +kernel
theorem lx_5 : ∀ i, i < 4 → ∀ j, j < strN.getD i 0 → Cond.eq (.elem (.field (lx_tm i) "java/lang/String" "value" "[B") (.int (Int32.ofNat j))) (.int ((strB.getD i []).getD j 0)) ∈ flatC lx_N := by decide +kernel
theorem lx_6 : ∀ i, i < 4 → ∀ j, j < 4 → i ≠ j → Cond.not (Cond.eq (lx_tm i) (lx_tm j)) ∈ flatC lx_N ∨ Cond.not (Cond.eq (lx_tm j) (lx_tm i)) ∈ flatC lx_N := by decide +kernel
theorem lx_7 : ∀ q ∈ nestL, Cond.methodLinkNest q.1 q.2.1 q.2.2.1 q.2.2.2 ∈ lw_tbl := by decide +kernel
theorem lx_8 : ∀ q ∈ strL, Cond.stringRef q.1 q.2.1 q.2.2.1 ∈ lw_tbl := by decide +kernel
theorem lx_9 : ∀ q ∈ strL, Cond.eq (lx_tm q.2.2.2) (.string q.1 q.2.1) ∈ flatC lx_N ∨ lx_tm q.2.2.2 = .string q.1 q.2.1 := by decide +kernel
theorem lx_10 : ∀ q ∈ strL, q.2.2.2 < 4 := by decide +kernel
def lx_ad (adK adV : Nat → Nat) (b t : Nat) : Nat → Nat := fun i => if i = 3000000 then b else if i = 2000000 then t else if 1000010 ≤ i then adV (i - 1000010) else adK (i - 1000000)
theorem lx_adK (adK adV : Nat → Nat) (b t : Nat) {i : Nat} (h : i < 4) : lx_ad adK adV b t (1000000 + i) = adK i := by
  unfold lx_ad
  rw [if_neg (by omega), if_neg (by omega), if_neg (by omega), Nat.add_sub_cancel_left]
theorem lx_adV (adK adV : Nat → Nat) (b t : Nat) {i : Nat} (h : i < 4) : lx_ad adK adV b t (1000010 + i) = adV i := by
  unfold lx_ad
  rw [if_neg (by omega), if_neg (by omega), if_pos (by omega), Nat.add_sub_cancel_left]
theorem lx_Xs {args : Array Value} {s : State} (hts : ∀ w ∈ lw_tbl, w.before args s = true) (hgv : lx_N.before args s = true) (b : Nat) : ∃ ad : Nat → Nat, Xs ad (fun q => s.heap.size ≤ q) s ∧ ad 3000000 = b := by
  have hs := flat_of_before _ hgv
  have hA : ∀ a : Nat, a < s.heap.size → ¬ (fun q => s.heap.size ≤ q) a := fun a h => Nat.not_le.mpr h
  obtain ⟨adK, adV, hS, hev⟩ := vk_Sof (N := 4) (tm := lx_tm) (len := strN) (byt := strB) (A := fun q => s.heap.size ≤ q) (args := args) (s := s) (by decide) (fun i hi => hs _ (lx_1 i hi)) (fun i hi => hs _ (lx_2 i hi)) (fun i hi => hs _ (lx_3 i hi)) (fun i hi => hs _ (lx_4 i hi)) (fun i hi j hj => hs _ (lx_5 i hi j hj)) (fun i j hi hj hne => (lx_6 i hi j hj hne).imp (fun h => hs _ h) (fun h => hs _ h)) hA
  have hZ : va_Z "java/lang/String" "COMPACT_STRINGS" "Z" (.int 1) (fun q => s.heap.size ≤ q) s s.heap := va_Zof (hts (.laysStatic "java/lang/String" "COMPACT_STRINGS" "Z") (by decide +kernel)) (hts (.initialized "java/lang/String") (by decide +kernel)) (va_eqt (hs (.eq (.static "java/lang/String" "COMPACT_STRINGS" "Z") (.int 1)) (by decide +kernel))) hA
  have hQ : va_Zq "jdk/internal/util/Preconditions" "SIOOBE_FORMATTER" "Ljava/util/function/BiFunction;" (fun q => s.heap.size ≤ q) s s.heap := va_Zqof (hts (.laysStatic "jdk/internal/util/Preconditions" "SIOOBE_FORMATTER" "Ljava/util/function/BiFunction;") (by decide +kernel)) (hts (.initialized "jdk/internal/util/Preconditions") (by decide +kernel)) (hs (.isRef (.static "jdk/internal/util/Preconditions" "SIOOBE_FORMATTER" "Ljava/util/function/BiFunction;")) (by decide +kernel)) hA
  obtain ⟨t, ht⟩ : ∃ t : Nat, va_Z "jdk/internal/util/Preconditions" "SIOOBE_FORMATTER" "Ljava/util/function/BiFunction;" .null (fun q => s.heap.size ≤ q) s s.heap ∨ va_Z "jdk/internal/util/Preconditions" "SIOOBE_FORMATTER" "Ljava/util/function/BiFunction;" (.ref t) (fun q => s.heap.size ≤ q) s s.heap := by
    rcases hQ with h | ⟨t, h⟩
    · exact ⟨0, Or.inl h⟩
    · exact ⟨t, Or.inr h⟩
  refine ⟨lx_ad adK adV b t, ⟨fun q hq => va_Nw.of rfl (hts _ (lx_7 q hq)), ⟨fun i hi => ?_, fun i j hi hj e => ?_⟩, fun q hq => ?_, hZ, va_AO.of (hts (.arrayOver (.object RX3)) (by decide +kernel)), ⟨va_AO.of (hts (.arrayOver (.object RX1)) (by decide +kernel)), hts (.arrayOver (.array .int)) (by decide +kernel)⟩, ?_⟩, ?_⟩
  · have h1 := hS.1 i hi
    dsimp only
    rw [lx_adK adK adV b t hi, lx_adV adK adV b t hi]
    exact h1
  · dsimp only at e
    rw [lx_adK adK adV b t hi, lx_adK adK adV b t hj] at e
    exact hS.2 i j hi hj e
  · have h4 := lx_10 q hq
    rw [lx_adK adK adV b t h4]
    refine vk_R.of (A := args) (hts _ (lx_8 q hq)) ?_
    rcases lx_9 q hq with h | h
    · exact va_eqR (hs _ h) (hev _ h4)
    · rw [← h]; exact hev _ h4
  · rw [show lx_ad adK adV b t 2000000 = t from by unfold lx_ad; rw [if_neg (by decide), if_pos rfl]]
    exact ht
  · unfold lx_ad
    rw [if_pos rfl]
theorem lx_K {args : Array Value} {s : State} (hts : ∀ w ∈ lw_tbl, w.before args s = true) : ∃ (D : va_G) (tc : Nat → ClassId), va_K D cls7 (tyL tc) s := by
  have hg : ∀ w ∈ lw_g, w.before args s = true := fun w hw => hts w (List.mem_filter.mp hw).1
  have hk : ∀ c, c < 7 → ∃ q : ClassId × (Nat → Nat), u_Kn s (clR c) (clT c) (clN c) q.1 q.2 := fun c hc => by
    obtain ⟨a, b, h⟩ := u_known (C := clR c) (T := clT c) (N := clN c) (n := clN c) hg (cl_in hc) (by
      match c, hc with
      | 0, _ => exact hts (.instantiable RX0 9) (by decide +kernel)
      | 1, _ => exact hts (.instantiable RX1 13) (by decide +kernel)
      | 2, _ => exact hts (.instantiable RX2 9) (by decide +kernel)
      | 3, _ => exact hts (.instantiable RX3 2) (by decide +kernel)
      | 4, _ => exact hts (.instantiable RX4 3) (by decide +kernel)
      | 5, _ => exact hts (.instantiable RX5 15) (by decide +kernel)
      | 6, _ => exact hts (.instantiable RX6 35) (by decide +kernel))
    exact ⟨(a, b), h⟩
  have hk' : ∀ c : Nat, ∃ q : ClassId × (Nat → Nat), c < 7 → u_Kn s (clR c) (clT c) (clN c) q.1 q.2 := fun c => by
    by_cases hc : c < 7
    · obtain ⟨q, h⟩ := hk c hc
      exact ⟨q, fun _ => h⟩
    · exact ⟨(0, fun _ => 0), fun h => absurd h hc⟩
  obtain ⟨D, hD⟩ := Classical.axiomOfChoice hk'
  obtain ⟨c0, k0, p0, a1, a2, a3⟩ := Cond.arrayClass_spec (hts (.arrayClass .int) (by decide +kernel))
  obtain ⟨c1, k1, p1, b1, b2, b3⟩ := Cond.arrayClass_spec (hts (.arrayClass .byte) (by decide +kernel))
  obtain ⟨c2, k2, p2, d1, d2, d3⟩ := Cond.arrayClass_spec (hts (.arrayClass .boolean) (by decide +kernel))
  obtain ⟨p3, c3, k3, e1, e2, e3, e4, e5⟩ := Cond.arrayOver_spec (hts (.arrayOver (.object RX3)) (by decide +kernel))
  obtain ⟨p4, c4, k4, f1, f2, f3, f4, f5⟩ := Cond.arrayOver_spec (hts (.arrayOver (.object RX1)) (by decide +kernel))
  obtain ⟨p5, c5, k5, g1, g4, g2, g3⟩ := grd_over (hts (.arrayOver (.array .int)) (by decide +kernel))
  refine ⟨(fun c => (D c).1, fun c => (D c).2), fun k => if k = 10 then c0 else if k = 11 then c1 else if k = 12 then c2 else if k = 13 then c3 else if k = 14 then c4 else c5, fun c q hq => ?_, fun k q hq => ?_⟩
  · have hc : c < 7 := (List.getElem?_eq_some_iff.mp hq).1
    rw [cls7_at hc] at hq
    cases hq
    exact hD c hc
  · match k, hq with
    | 0, hq => cases hq; exact ⟨fun n z => ⟨fun q h => (by cases h), k0, a2, p0, a3⟩, a1⟩
    | 1, hq => cases hq; exact ⟨fun n z => ⟨fun q h => (by cases h), k1, b2, p1, b3⟩, b1⟩
    | 2, hq => cases hq; exact ⟨fun n z => ⟨fun q h => (by cases h), k2, d2, p2, d3⟩, d1⟩
    | 3, hq => cases hq; exact ⟨fun n z => ⟨fun q h => (by cases h), k3, e3, p3, e4⟩, k3, p3, e3, e4, e1, e5⟩
    | 4, hq => cases hq; exact ⟨fun n z => ⟨fun q h => (by cases h), k4, f3, p4, f4⟩, k4, p4, f3, f4, f1, f5⟩
    | 5, hq => cases hq; exact ⟨fun n z => ⟨fun q h => (by cases h), k5, g2, p5, g3⟩, g4⟩
    | k + 6, hq => cases hq
