/-! the component's constructor -/
def oldB (ls st : List Value) (n : Nat) : Bool := (ls ++ st).all (fun v => match v with | .ref i => decide (i < n) | _ => true)
theorem old_b {ls st : List Value} {n : Nat} (h : oldB ls st n = true) : Old ls st n := fun i hi => Or.inl (of_decide_eq_true (List.all_eq_true.mp h _ hi))
theorem oiX5 : OI RX5 1 := ⟨lw_gm (by decide +kernel) rfl, lw_gm (by decide +kernel) rfl, lw_gm (by decide +kernel) rfl⟩
theorem nq9 : NQ RX5 9 13 3 := ⟨by decide, lw_gm (by decide +kernel) rfl, fun _ _ _ h => h.2.2.2.2.1, fun tc s D cA h h2 => by
  obtain ⟨_, _, _, _, _, e1⟩ := h2
  obtain ⟨_, _, _, _, _, e2⟩ := (h.2 3 (tc 13, .object RX3) rfl).2
  exact Option.some.inj (e1.symm.trans e2)⟩
theorem nq18 : NQ RX5 18 14 1 := ⟨by decide, lw_gm (by decide +kernel) rfl, fun _ _ _ h => h.2.2.2.2.2.1.1, fun tc s D cA h h2 => by
  obtain ⟨_, _, _, _, _, e1⟩ := h2
  obtain ⟨_, _, _, _, _, e2⟩ := (h.2 4 (tc 14, .object RX1) rfl).2
  exact Option.some.inj (e1.symm.trans e2)⟩
theorem noX1 : NO RX5 18 1 := ⟨by decide, lw_gm (by decide +kernel) rfl, lw_gm (by decide +kernel) rfl, lw_gm (by decide +kernel) rfl⟩
theorem noX2 : NO RX5 36 2 := ⟨by decide, lw_gm (by decide +kernel) rfl, lw_gm (by decide +kernel) rfl, lw_gm (by decide +kernel) rfl⟩
theorem noX4 : NO RX5 43 4 := ⟨by decide, lw_gm (by decide +kernel) rfl, lw_gm (by decide +kernel) rfl, lw_gm (by decide +kernel) rfl⟩
theorem noX0 : NO RX5 50 0 := ⟨by decide, lw_gm (by decide +kernel) rfl, lw_gm (by decide +kernel) rfl, lw_gm (by decide +kernel) rfl⟩
theorem noX3 : NO RX5 9 3 := ⟨by decide, lw_gm (by decide +kernel) rfl, lw_gm (by decide +kernel) rfl, lw_gm (by decide +kernel) rfl⟩
/-- what stands in the component's cells when j Strips have been made -/
def Pm (j : Nat) (μ : Mm) : Prop := μ.1 0 11 = nI 1 ∧ (∀ i, i < j → μ.1 (145 + 2 * i) 1 = -1) ∧ (∀ c k, ¬ (c = 0 ∧ k = 11) → ¬ (k = 1 ∧ 145 ≤ c ∧ c < 145 + 2 * j) → μ.1 c k = 0) ∧ ∀ c k, μ.2 c k = 0
theorem Pm.z {j : Nat} {μ : Mm} (h : Pm j μ) : Zr μ (145 + 2 * j) := fun i hi => ⟨fun k => h.2.2.1 i k (by omega) (by omega), fun k => h.2.2.2 i k⟩
theorem Pm.next {j : Nat} {μ : Mm} (h : Pm j μ) : Pm (j + 1) (wI μ (145 + 2 * j) 1 (-1)) := by
  refine ⟨(wI_n (by omega)).trans h.1, fun i hi => ?_, fun c k h1 h2 => (wI_n (by omega)).trans (h.2.2.1 c k h1 (by omega)), h.2.2.2⟩
  rcases Nat.lt_succ_iff_lt_or_eq.mp hi with hi | rfl
  · exact (wI_n (by omega)).trans (h.2.1 i hi)
  · exact wI_e _ _ _ _
def xc0 : List Ce := [] ++ [(5, clN 5, List.replicate (clN 5) none)]
def xc1 : List Ce := xc0 ++ [(13, 6, List.replicate 6 none)]
def xc2 : List Ce := xc1.set 0 (5, clN 5, [none, none, none, none, none, none, none, none, none, none, none, none, none, none, none].set 0 (some 1))
def xc3 : List Ce := xc2 ++ [(13, 4, List.replicate 4 none)]
def xc4 : List Ce := xc3.set 0 (5, clN 5, [some 1, none, none, none, none, none, none, none, none, none, none, none, none, none, none].set 1 (some 2))
def xc5 : List Ce := xc4 ++ sh 3 yPY
def xc6 : List Ce := xc5.set 0 (5, clN 5, [some 1, some 2, none, none, none, none, none, none, none, none, none, none, none, none, none].set 2 (some 3))
def xc7 : List Ce := xc6 ++ [(14, 3, List.replicate 3 none)]
def xc8 : List Ce := xc7.set 0 (5, clN 5, [some 1, some 2, some 3, none, none, none, none, none, none, none, none, none, none, none, none].set 3 (some 14))
def xc9 : List Ce := xc8 ++ [(12, 3, [])]
def xc10 : List Ce := xc9.set 0 (5, clN 5, [some 1, some 2, some 3, some 14, none, none, none, none, none, none, none, none, none, none, none].set 4 (some 15))
def xc11 : List Ce := xc10 ++ sh 16 yPY
def xc12 : List Ce := xc11.set 0 (5, clN 5, [some 1, some 2, some 3, some 14, some 15, none, none, none, none, none, none, none, none, none, none].set 5 (some 16))
def xc13 : List Ce := xc12 ++ sh 27 yRY
def xc14 : List Ce := xc13.set 0 (5, clN 5, [some 1, some 2, some 3, some 14, some 15, some 16, none, none, none, none, none, none, none, none, none].set 6 (some 27))
def xc15 : List Ce := xc14 ++ sh 29 yWY
def xc16 : List Ce := xc15.set 0 (5, clN 5, [some 1, some 2, some 3, some 14, some 15, some 16, some 27, none, none, none, none, none, none, none, none].set 7 (some 29))
def xc17 : List Ce := xc16 ++ sh 32 yLY
def xc18 : List Ce := xc17.set 0 (5, clN 5, [some 1, some 2, some 3, some 14, some 15, some 16, some 27, some 29, none, none, none, none, none, none, none].set 8 (some 32))
def xc19 : List Ce := xc18 ++ sh 88 yLY
def xc20 : List Ce := xc19.set 0 (5, clN 5, [some 1, some 2, some 3, some 14, some 15, some 16, some 27, some 29, some 32, none, none, none, none, none, none].set 9 (some 88))
def xc21 : List Ce := xc20 ++ [(10, 6, [])]
def xc22 : List Ce := xc21.set 0 (5, clN 5, [some 1, some 2, some 3, some 14, some 15, some 16, some 27, some 29, some 32, some 88, none, none, none, none, none].set 10 (some 144))
def rwL (r : Nat) : List (Option Nat) := (List.range 6).map (fun j => if j < r then some (145 + 2 * j) else none)
def txL (r : Nat) : List (Option Nat) := (List.range 4).map (fun j => if j < r then some (157 + 2 * j) else none)
def kpL (r : Nat) : List (Option Nat) := (List.range 3).map (fun j => if j < r then some (165 + 11 * j) else none)
def xr : Nat → List Ce
  | 0 => xc22
  | r + 1 => (xr r ++ sh (145 + 2 * r) (ys 40)).set 1 (13, 6, (rwL r).set r (some (145 + 2 * r)))
def xt : Nat → List Ce
  | 0 => xr 6
  | r + 1 => (xt r ++ sh (157 + 2 * r) (ys 120)).set 2 (13, 4, (txL r).set r (some (157 + 2 * r)))
def xk : Nat → List Ce
  | 0 => xt 4
  | r + 1 => (xk r ++ sh (165 + 11 * r) yPY).set 14 (14, 3, (kpL r).set r (some (165 + 11 * r)))
theorem xr_ok : ∀ r, r < 7 → (xr r).length = 145 + 2 * r ∧ wfB (xr r) = true ∧ (xr r)[0]? = some (5, clN 5, [some 1, some 2, some 3, some 14, some 15, some 16, some 27, some 29, some 32, some 88, some 144, none, none, none, none]) := by decide +kernel
theorem xr_at0 : ∀ r, r < 6 → (xr r ++ sh (145 + 2 * r) (ys 40))[1]? = some (13, 6, rwL r) := by decide +kernel
theorem xr_at1 : ∀ r, r < 6 → (xr r ++ sh (145 + 2 * r) (ys 40))[145 + 2 * r]? = some (3, clN 3, [some (145 + 2 * r + 1), none]) := by decide +kernel
theorem xr_at2 : ∀ r, r < 6 → r < (rwL r).length := by decide +kernel
theorem xr_at : ∀ r, r < 6 → (xr r ++ sh (145 + 2 * r) (ys 40))[1]? = some (13, 6, rwL r) ∧ (xr r ++ sh (145 + 2 * r) (ys 40))[145 + 2 * r]? = some (3, clN 3, [some (145 + 2 * r + 1), none]) ∧ r < (rwL r).length := fun r h => ⟨xr_at0 r h, xr_at1 r h, xr_at2 r h⟩
theorem xt_ok : ∀ r, r < 5 → (xt r).length = 157 + 2 * r ∧ wfB (xt r) = true ∧ (xt r)[0]? = some (5, clN 5, [some 1, some 2, some 3, some 14, some 15, some 16, some 27, some 29, some 32, some 88, some 144, none, none, none, none]) := by decide +kernel
theorem xt_at0 : ∀ r, r < 4 → (xt r ++ sh (157 + 2 * r) (ys 120))[2]? = some (13, 4, txL r) := by decide +kernel
theorem xt_at1 : ∀ r, r < 4 → (xt r ++ sh (157 + 2 * r) (ys 120))[157 + 2 * r]? = some (3, clN 3, [some (157 + 2 * r + 1), none]) := by decide +kernel
theorem xt_at2 : ∀ r, r < 4 → r < (txL r).length := by decide +kernel
theorem xt_at : ∀ r, r < 4 → (xt r ++ sh (157 + 2 * r) (ys 120))[2]? = some (13, 4, txL r) ∧ (xt r ++ sh (157 + 2 * r) (ys 120))[157 + 2 * r]? = some (3, clN 3, [some (157 + 2 * r + 1), none]) ∧ r < (txL r).length := fun r h => ⟨xt_at0 r h, xt_at1 r h, xt_at2 r h⟩
theorem xk_ok : ∀ r, r < 4 → (xk r).length = 165 + 11 * r ∧ wfB (xk r) = true ∧ (xk r)[0]? = some (5, clN 5, [some 1, some 2, some 3, some 14, some 15, some 16, some 27, some 29, some 32, some 88, some 144, none, none, none, none]) := by decide +kernel
theorem xk_at0 : ∀ r, r < 3 → (xk r ++ sh (165 + 11 * r) yPY)[14]? = some (14, 3, kpL r) := by decide +kernel
theorem xk_at1 : ∀ r, r < 3 → (xk r ++ sh (165 + 11 * r) yPY)[165 + 11 * r]? = some (1, clN 1, [some (165 + 11 * r + 1), some (165 + 11 * r + 2), some (165 + 11 * r + 3), some (165 + 11 * r + 4), none, none, some (165 + 11 * r + 5), some (165 + 11 * r + 6), some (165 + 11 * r + 7), some (165 + 11 * r + 8), some (165 + 11 * r + 9), some (165 + 11 * r + 10), none]) := by decide +kernel
theorem xk_at2 : ∀ r, r < 3 → r < (kpL r).length := by decide +kernel
theorem xk_at : ∀ r, r < 3 → (xk r ++ sh (165 + 11 * r) yPY)[14]? = some (14, 3, kpL r) ∧ (xk r ++ sh (165 + 11 * r) yPY)[165 + 11 * r]? = some (1, clN 1, [some (165 + 11 * r + 1), some (165 + 11 * r + 2), some (165 + 11 * r + 3), some (165 + 11 * r + 4), none, none, some (165 + 11 * r + 5), some (165 + 11 * r + 6), some (165 + 11 * r + 7), some (165 + 11 * r + 8), some (165 + 11 * r + 9), some (165 + 11 * r + 10), none]) ∧ r < (kpL r).length := fun r h => ⟨xk_at0 r h, xk_at1 r h, xk_at2 r h⟩
def Kx : Option Value → Wd → Prop := fun v w' => v = none ∧ ∃ μ', w' = (gL (xk 3), μ') ∧ Pm 10 μ'
theorem old_lp (b x : Nat) (i : Int32) (hx : x < b) (h0 : 0 < b) : Old [.ref 0, .int i] [.int i, .ref x] b := fun j hj => by
  simp at hj
  rcases hj with rfl | rfl
  · exact Or.inl h0
  · exact Or.inl hx
theorem old_lp2 (b x : Nat) (i : Int32) (hx : x < b) (h0 : 0 < b) : Old [.ref 0, .int i] [.ref b, .int i, .ref x] (b + 1) := fun j hj => by
  simp at hj
  rcases hj with rfl | rfl | rfl
  · exact Or.inl (Nat.lt_succ_of_lt h0)
  · exact Or.inl (Nat.lt_succ_self _)
  · exact Or.inl (Nat.lt_succ_of_lt hx)
theorem lp_k {d : Nat} : ∀ (f r : Nat) (cs : Nat × Nat) (μ : Mm), 3 - r = f → r ≤ 3 → Pm 10 μ → cs.1 + 11 * (3 - r) + 0 ≤ 197 → cs.2 + 301 * (3 - r) + 0 ≤ 3867 → J mX5_init (d + 2) (197, 3867) s0 Kx cs 189 [.ref 0, .int (nI r)] [] (gL (xk r), μ) := by
  intro f
  induction f with
  | zero =>
    intro r cs μ hf hr hp h1 h2
    have hr6 : r = 3 := by omega
    subst hr6
    refine J_iload_n (i := 1) qX5_init_189 rfl rfl ?_
    refine J_pushI qX5_init_190 ?_
    refine J_icmp_ge_n qX5_init_191 (by omega) (by omega) (fun c => ?_) (fun c => absurd c (Nat.lt_irrefl _))
    exact J_vret qX5_init_213.1 qX5_init_213.2 (by show cs.1 ≤ _; omega) (by show cs.2 ≤ _; omega) ⟨rfl, μ, rfl, hp⟩
  | succ f ih =>
    intro r cs μ hf hr hp h1 h2
    have hlt : r < 3 := by omega
    obtain ⟨e1, e2, e3⟩ := xk_ok r (by omega)
    obtain ⟨e4, e5, e6⟩ := xk_at r hlt
    have hb : 3 - r = (3 - (r + 1)) + 1 := by omega
    have hcl : clN 1 = 13 := rfl
    refine J_iload_n (i := 1) qX5_init_189 rfl rfl ?_
    refine J_pushI qX5_init_190 ?_
    refine J_icmp_ge_n qX5_init_191 (by omega) (by omega) (fun c => absurd hlt (by omega)) (fun c => ?_)
    refine J_aload_n (i := 0) qX5_init_194 rfl rfl ?_
    refine J_getR (k := 3) (r := 14) qX5_init_195 fX5_25 (isO_L e3) (rF_L e3 rfl) ?_
    refine J_iload_n (i := 1) qX5_init_198 rfl rfl ?_
    refine A_newO (r := 165 + 11 * r) qX5_init_199 noX1 e2 e1 (by omega) (hp.z.le (by omega)) (old_lp _ _ _ (by omega) (by omega)) (by omega) (by show cs.2 + 13 ≤ _; omega) ?_
    refine J_dup qX5_init_202 rfl ?_
    refine A_init (X := xk r) (r := 165 + 11 * r) (lim' := (10, 288)) (Y := yPY) (μ' := μ) qX5_init_203 kX5_20 e1 (ct_prog (wfB_ok e2) (by rw [e1]; exact (hp.z.le (by omega))) (by omega)) (by show cs.1 + 1 + 10 ≤ _; omega) (by show cs.2 + 13 + 288 ≤ _; omega) (Nat.le_of_ble_eq_true rfl) (old_lp2 _ _ _ (by omega) (by omega)) rfl ?_
    refine J_astR (a := 14) (kd := 14) (n := 3) (cj := 1) (t0 := 4) (k := r) qX5_init_206 (by decide) (fun _ => rfl) (by decide) e4 e5 (by decide) rfl hlt e6 rfl ?_
    refine J_inc1 qX5_init_207 (Nat.le_of_ble_eq_true rfl) (by first | with_reducible exact nI_inc _ | rfl) rfl ?_
    refine J_goto qX5_init_210 ?_
    exact ih (r + 1) _ _ (by omega) hlt hp (by show _ + _ + _ + _ + _ ≤ _; omega) (by show _ + _ + _ + _ + _ ≤ _; omega)
theorem lp_t {d : Nat} : ∀ (f r : Nat) (cs : Nat × Nat) (μ : Mm), 4 - r = f → r ≤ 4 → Pm (6 + r) μ → cs.1 + 2 * (4 - r) + 33 ≤ 197 → cs.2 + 122 * (4 - r) + 903 ≤ 3867 → J mX5_init (d + 2) (197, 3867) s0 Kx cs 161 [.ref 0, .int (nI r)] [] (gL (xt r), μ) := by
  intro f
  induction f with
  | zero =>
    intro r cs μ hf hr hp h1 h2
    have hr6 : r = 4 := by omega
    subst hr6
    refine J_iload_n (i := 1) qX5_init_161 rfl rfl ?_
    refine J_pushI qX5_init_162 ?_
    refine J_icmp_ge_n qX5_init_163 (by omega) (by omega) (fun c => ?_) (fun c => absurd c (Nat.lt_irrefl _))
    refine J_pushI qX5_init_187 ?_
    refine J_ist1 qX5_init_188 (Nat.le_of_ble_eq_true rfl) rfl ?_
    exact lp_k 3 0 cs μ rfl (by decide) hp (by omega) (by omega)
  | succ f ih =>
    intro r cs μ hf hr hp h1 h2
    have hlt : r < 4 := by omega
    obtain ⟨e1, e2, e3⟩ := xt_ok r (by omega)
    obtain ⟨e4, e5, e6⟩ := xt_at r hlt
    have hb : 4 - r = (4 - (r + 1)) + 1 := by omega
    have hcl : clN 3 = 2 := rfl
    refine J_iload_n (i := 1) qX5_init_161 rfl rfl ?_
    refine J_pushI qX5_init_162 ?_
    refine J_icmp_ge_n qX5_init_163 (by omega) (by omega) (fun c => absurd hlt (by omega)) (fun c => ?_)
    refine J_aload_n (i := 0) qX5_init_166 rfl rfl ?_
    refine J_getR (k := 1) (r := 2) qX5_init_167 fX5_15 (isO_L e3) (rF_L e3 rfl) ?_
    refine J_iload_n (i := 1) qX5_init_170 rfl rfl ?_
    refine A_newO (r := 157 + 2 * r) qX5_init_171 noX3 e2 e1 (by omega) (hp.z.le (by omega)) (old_lp _ _ _ (by omega) (by omega)) (by omega) (by show cs.2 + 2 ≤ _; omega) ?_
    refine J_dup qX5_init_174 rfl ?_
    refine J_pushI qX5_init_175 ?_
    refine A_init1 (X := xt r) (r := 157 + 2 * r) (lim' := (1, 120)) (Y := ys 120) (μ' := wI μ (157 + 2 * r) 1 (-1)) qX5_init_177 kX5_79 e1 (by have hh := ct_strip (d := d) (N := 120) (by decide) (wfB_ok e2) (by rw [e1]; exact (hp.z.le (by omega))) (by omega); rw [e1] at hh; exact hh) (by show cs.1 + 1 + 1 ≤ _; omega) (by show cs.2 + 2 + 120 ≤ _; omega) (Nat.le_of_ble_eq_true rfl) (old_lp2 _ _ _ (by omega) (by omega)) rfl ?_
    refine J_astR (a := 2) (kd := 13) (n := 4) (cj := 3) (t0 := 3) (k := r) qX5_init_180 (by decide) (fun _ => rfl) (by decide) e4 e5 (by decide) rfl hlt e6 rfl ?_
    refine J_inc1 qX5_init_181 (Nat.le_of_ble_eq_true rfl) (by first | with_reducible exact nI_inc _ | rfl) rfl ?_
    refine J_goto qX5_init_184 ?_
    exact ih (r + 1) _ _ (by omega) hlt (by have hq := hp.next; rw [show 145 + 2 * (6 + r) = 157 + 2 * r by omega] at hq; exact hq) (by show _ + _ + _ + _ + _ ≤ _; omega) (by show _ + _ + _ + _ + _ ≤ _; omega)
theorem lp_r {d : Nat} : ∀ (f r : Nat) (cs : Nat × Nat) (μ : Mm), 6 - r = f → r ≤ 6 → Pm r μ → cs.1 + 2 * (6 - r) + 41 ≤ 197 → cs.2 + 42 * (6 - r) + 1391 ≤ 3867 → J mX5_init (d + 2) (197, 3867) s0 Kx cs 132 [.ref 0, .int (nI r)] [] (gL (xr r), μ) := by
  intro f
  induction f with
  | zero =>
    intro r cs μ hf hr hp h1 h2
    have hr6 : r = 6 := by omega
    subst hr6
    refine J_iload_n (i := 1) qX5_init_132 rfl rfl ?_
    refine J_pushI qX5_init_133 ?_
    refine J_icmp_ge_n qX5_init_135 (by omega) (by omega) (fun c => ?_) (fun c => absurd c (Nat.lt_irrefl _))
    refine J_pushI qX5_init_159 ?_
    refine J_ist1 qX5_init_160 (Nat.le_of_ble_eq_true rfl) rfl ?_
    exact lp_t 4 0 cs μ rfl (by decide) hp (by omega) (by omega)
  | succ f ih =>
    intro r cs μ hf hr hp h1 h2
    have hlt : r < 6 := by omega
    obtain ⟨e1, e2, e3⟩ := xr_ok r (by omega)
    obtain ⟨e4, e5, e6⟩ := xr_at r hlt
    have hb : 6 - r = (6 - (r + 1)) + 1 := by omega
    have hcl : clN 3 = 2 := rfl
    refine J_iload_n (i := 1) qX5_init_132 rfl rfl ?_
    refine J_pushI qX5_init_133 ?_
    refine J_icmp_ge_n qX5_init_135 (by omega) (by omega) (fun c => absurd hlt (by omega)) (fun c => ?_)
    refine J_aload_n (i := 0) qX5_init_138 rfl rfl ?_
    refine J_getR (k := 0) (r := 1) qX5_init_139 fX5_11 (isO_L e3) (rF_L e3 rfl) ?_
    refine J_iload_n (i := 1) qX5_init_142 rfl rfl ?_
    refine A_newO (r := 145 + 2 * r) qX5_init_143 noX3 e2 e1 (by omega) hp.z (old_lp _ _ _ (by omega) (by omega)) (by omega) (by show cs.2 + 2 ≤ _; omega) ?_
    refine J_dup qX5_init_146 rfl ?_
    refine J_pushI qX5_init_147 ?_
    refine A_init1 (X := xr r) (r := 145 + 2 * r) (lim' := (1, 40)) (Y := ys 40) (μ' := wI μ (145 + 2 * r) 1 (-1)) qX5_init_149 kX5_79 e1 (by have hh := ct_strip (d := d) (N := 40) (by decide) (wfB_ok e2) (by rw [e1]; exact hp.z) (by omega); rw [e1] at hh; exact hh) (by show cs.1 + 1 + 1 ≤ _; omega) (by show cs.2 + 2 + 40 ≤ _; omega) (Nat.le_of_ble_eq_true rfl) (old_lp2 _ _ _ (by omega) (by omega)) rfl ?_
    refine J_astR (a := 1) (kd := 13) (n := 6) (cj := 3) (t0 := 3) (k := r) qX5_init_152 (by decide) (fun _ => rfl) (by decide) e4 e5 (by decide) rfl hlt e6 rfl ?_
    refine J_inc1 qX5_init_153 (Nat.le_of_ble_eq_true rfl) (by first | with_reducible exact nI_inc _ | rfl) rfl ?_
    refine J_goto qX5_init_156 ?_
    exact ih (r + 1) _ _ (by omega) hlt hp.next (by show _ + _ + _ + _ + _ ≤ _; omega) (by show _ + _ + _ + _ + _ ≤ _; omega)
theorem ct_x {d : Nat} {μ : Mm} (hz : Zr μ 0) : C mX5_init (d + 2) (197, 3867) [.ref 0] (gL ([] ++ [(5, clN 5, List.replicate (clN 5) none)]), μ) Kx := by
  refine C_of_J (ls := [.ref 0, .null]) (by decide +kernel) (Nat.le_of_ble_eq_true rfl) rfl ?_
  show J mX5_init (d + 2) (197, 3867) s0 Kx (0, 0) 0 [.ref 0, .null] [] (gL xc0, μ)
  refine J_aload_n (i := 0) qX5_init_0 rfl rfl ?_
  refine J_oinit qX5_init_1 oiX5 (Nat.le_of_ble_eq_true rfl) ?_
  refine J_aload_n (i := 0) qX5_init_4 rfl rfl ?_
  refine J_pushI qX5_init_5 ?_
  refine A_newQ (X := xc0) (X' := xc1) (r := 1) (n := 6) qX5_init_7 nq9 rfl (by decide) (by decide +kernel) (by decide +kernel) (by decide) (old_b (by rfl)) (by decide) (by decide) rfl ?_
  refine J_putR (X := xc1) (X' := xc2) (a := 0) (r := 1) (rs := [none, none, none, none, none, none, none, none, none, none, none, none, none, none, none]) qX5_init_10 ⟨fX5_11, rfl, rfl, rfl⟩ (by decide +kernel) (by decide) rfl ?_
  refine J_aload_n (i := 0) qX5_init_13 rfl rfl ?_
  refine J_pushI qX5_init_14 ?_
  refine A_newQ (X := xc2) (X' := xc3) (r := 2) (n := 4) qX5_init_15 nq9 rfl (by decide) (by decide +kernel) (by decide +kernel) (by decide) (old_b (by rfl)) (by decide) (by decide) rfl ?_
  refine J_putR (X := xc3) (X' := xc4) (a := 0) (r := 2) (rs := [some 1, none, none, none, none, none, none, none, none, none, none, none, none, none, none]) qX5_init_18 ⟨fX5_15, rfl, rfl, rfl⟩ (by decide +kernel) (by decide) rfl ?_
  refine J_aload_n (i := 0) qX5_init_21 rfl rfl ?_
  refine A_newO (X := xc4) (r := 3) qX5_init_22 noX1 (by decide +kernel) (by decide +kernel) (by decide) (hz.le (Nat.zero_le _)) (old_b (by rfl)) (by decide) (by decide) ?_
  refine J_dup qX5_init_25 rfl ?_
  refine A_init (X := xc4) (X' := xc5) (r := 3) qX5_init_26 kX5_20 (by decide +kernel) (ct_prog (wfB_ok (by decide +kernel)) (hz.le (Nat.zero_le _)) (by decide +kernel)) (by decide) (by decide) (Nat.le_of_ble_eq_true rfl) (old_b (by rfl)) rfl ?_
  refine J_putR (X := xc5) (X' := xc6) (a := 0) (r := 3) (rs := [some 1, some 2, none, none, none, none, none, none, none, none, none, none, none, none, none]) qX5_init_29 ⟨fX5_21, rfl, rfl, rfl⟩ (by decide +kernel) (by decide) rfl ?_
  refine J_aload_n (i := 0) qX5_init_32 rfl rfl ?_
  refine J_pushI qX5_init_33 ?_
  refine A_newQ (X := xc6) (X' := xc7) (r := 14) (n := 3) qX5_init_34 nq18 rfl (by decide) (by decide +kernel) (by decide +kernel) (by decide) (old_b (by rfl)) (by decide) (by decide) rfl ?_
  refine J_putR (X := xc7) (X' := xc8) (a := 0) (r := 14) (rs := [some 1, some 2, some 3, none, none, none, none, none, none, none, none, none, none, none, none]) qX5_init_37 ⟨fX5_25, rfl, rfl, rfl⟩ (by decide +kernel) (by decide) rfl ?_
  refine J_aload_n (i := 0) qX5_init_40 rfl rfl ?_
  refine J_pushI qX5_init_41 ?_
  refine A_newA (X := xc8) (X' := xc9) (r := 15) (n := 3) qX5_init_42 na_z rfl (by decide) (by decide +kernel) (by decide +kernel) (by decide) (hz.le (Nat.zero_le _)) (old_b (by rfl)) (by decide) (by decide) rfl ?_
  refine J_putR (X := xc9) (X' := xc10) (a := 0) (r := 15) (rs := [some 1, some 2, some 3, some 14, none, none, none, none, none, none, none, none, none, none, none]) qX5_init_44 ⟨fX5_29, rfl, rfl, rfl⟩ (by decide +kernel) (by decide) rfl ?_
  refine J_aload_n (i := 0) qX5_init_47 rfl rfl ?_
  refine A_newO (X := xc10) (r := 16) qX5_init_48 noX1 (by decide +kernel) (by decide +kernel) (by decide) (hz.le (Nat.zero_le _)) (old_b (by rfl)) (by decide) (by decide) ?_
  refine J_dup qX5_init_51 rfl ?_
  refine A_init (X := xc10) (X' := xc11) (r := 16) qX5_init_52 kX5_20 (by decide +kernel) (ct_prog (wfB_ok (by decide +kernel)) (hz.le (Nat.zero_le _)) (by decide +kernel)) (by decide) (by decide) (Nat.le_of_ble_eq_true rfl) (old_b (by rfl)) rfl ?_
  refine J_putR (X := xc11) (X' := xc12) (a := 0) (r := 16) (rs := [some 1, some 2, some 3, some 14, some 15, none, none, none, none, none, none, none, none, none, none]) qX5_init_55 ⟨fX5_33, rfl, rfl, rfl⟩ (by decide +kernel) (by decide) rfl ?_
  refine J_aload_n (i := 0) qX5_init_58 rfl rfl ?_
  refine A_newO (X := xc12) (r := 27) qX5_init_59 noX2 (by decide +kernel) (by decide +kernel) (by decide) (hz.le (Nat.zero_le _)) (old_b (by rfl)) (by decide) (by decide) ?_
  refine J_dup qX5_init_62 rfl ?_
  refine A_init (X := xc12) (X' := xc13) (r := 27) qX5_init_63 kX5_38 (by decide +kernel) (ct_rd (wfB_ok (by decide +kernel)) (hz.le (Nat.zero_le _)) (by decide +kernel)) (by decide) (by decide) (Nat.le_of_ble_eq_true rfl) (old_b (by rfl)) rfl ?_
  refine J_putR (X := xc13) (X' := xc14) (a := 0) (r := 27) (rs := [some 1, some 2, some 3, some 14, some 15, some 16, none, none, none, none, none, none, none, none, none]) qX5_init_66 ⟨fX5_39, rfl, rfl, rfl⟩ (by decide +kernel) (by decide) rfl ?_
  refine J_aload_n (i := 0) qX5_init_69 rfl rfl ?_
  refine A_newO (X := xc14) (r := 29) qX5_init_70 noX4 (by decide +kernel) (by decide +kernel) (by decide) (hz.le (Nat.zero_le _)) (old_b (by rfl)) (by decide) (by decide) ?_
  refine J_dup qX5_init_73 rfl ?_
  refine A_init (X := xc14) (X' := xc15) (r := 29) qX5_init_74 kX5_45 (by decide +kernel) (ct_wr (wfB_ok (by decide +kernel)) (hz.le (Nat.zero_le _)) (by decide +kernel)) (by decide) (by decide) (Nat.le_of_ble_eq_true rfl) (old_b (by rfl)) rfl ?_
  refine J_putR (X := xc15) (X' := xc16) (a := 0) (r := 29) (rs := [some 1, some 2, some 3, some 14, some 15, some 16, some 27, none, none, none, none, none, none, none, none]) qX5_init_77 ⟨fX5_46, rfl, rfl, rfl⟩ (by decide +kernel) (by decide) rfl ?_
  refine J_aload_n (i := 0) qX5_init_80 rfl rfl ?_
  refine A_newO (X := xc16) (r := 32) qX5_init_81 noX0 (by decide +kernel) (by decide +kernel) (by decide) (hz.le (Nat.zero_le _)) (old_b (by rfl)) (by decide) (by decide) ?_
  refine J_dup qX5_init_84 rfl ?_
  refine A_init (X := xc16) (X' := xc17) (r := 32) qX5_init_85 kX5_52 (by decide +kernel) (ct_plan (wfB_ok (by decide +kernel)) (hz.le (Nat.zero_le _)) (by decide +kernel)) (by decide) (by decide) (Nat.le_of_ble_eq_true rfl) (old_b (by rfl)) rfl ?_
  refine J_putR (X := xc17) (X' := xc18) (a := 0) (r := 32) (rs := [some 1, some 2, some 3, some 14, some 15, some 16, some 27, some 29, none, none, none, none, none, none, none]) qX5_init_88 ⟨fX5_53, rfl, rfl, rfl⟩ (by decide +kernel) (by decide) rfl ?_
  refine J_aload_n (i := 0) qX5_init_91 rfl rfl ?_
  refine A_newO (X := xc18) (r := 88) qX5_init_92 noX0 (by decide +kernel) (by decide +kernel) (by decide) (hz.le (Nat.zero_le _)) (old_b (by rfl)) (by decide) (by decide) ?_
  refine J_dup qX5_init_95 rfl ?_
  refine A_init (X := xc18) (X' := xc19) (r := 88) qX5_init_96 kX5_52 (by decide +kernel) (ct_plan (wfB_ok (by decide +kernel)) (hz.le (Nat.zero_le _)) (by decide +kernel)) (by decide) (by decide) (Nat.le_of_ble_eq_true rfl) (old_b (by rfl)) rfl ?_
  refine J_putR (X := xc19) (X' := xc20) (a := 0) (r := 88) (rs := [some 1, some 2, some 3, some 14, some 15, some 16, some 27, some 29, some 32, none, none, none, none, none, none]) qX5_init_99 ⟨fX5_57, rfl, rfl, rfl⟩ (by decide +kernel) (by decide) rfl ?_
  refine J_aload_n (i := 0) qX5_init_102 rfl rfl ?_
  refine J_pushI qX5_init_103 ?_
  refine A_newA (X := xc20) (X' := xc21) (r := 144) (n := 6) qX5_init_105 na_i rfl (by decide) (by decide +kernel) (by decide +kernel) (by decide) (hz.le (Nat.zero_le _)) (old_b (by rfl)) (by decide) (by decide) rfl ?_
  refine J_putR (X := xc21) (X' := xc22) (a := 0) (r := 144) (rs := [some 1, some 2, some 3, some 14, some 15, some 16, some 27, some 29, some 32, some 88, none, none, none, none, none]) qX5_init_107 ⟨fX5_60, rfl, rfl, rfl⟩ (by decide +kernel) (by decide) rfl ?_
  have hp : Pm 0 (wI μ 0 11 (nI 1)) := ⟨wI_e _ _ _ _, fun i hi => absurd hi (Nat.not_lt_zero _), fun c k h1 _ => (wI_n h1).trans ((hz c (Nat.zero_le _)).1 k), fun c k => (hz c (Nat.zero_le _)).2 k⟩
  obtain ⟨e1, e2, e3⟩ := xr_ok 0 (by decide)
  have hO : IsO (gL xc22) 0 5 := isO_L e3
  refine J_aload_n (i := 0) qX5_init_110 rfl rfl ?_
  refine J_pushI qX5_init_111 ?_
  refine J_putI qX5_init_112 fX5_64p hO rfl rfl ?_
  generalize wI μ 0 11 (nI 1) = μ1 at hp ⊢
  refine J_aload_n (i := 0) qX5_init_115 rfl rfl ?_
  refine J_pushI qX5_init_116 ?_
  refine J_putI qX5_init_117 fX5_68p hO rfl rfl ?_
  rw [wI_same (show μ1.1 0 12 = nI 0 from hp.2.2.1 0 12 (by omega) (by omega))]
  refine J_aload_n (i := 0) qX5_init_120 rfl rfl ?_
  refine J_pushL qX5_init_121 ?_
  refine J_putL qX5_init_122 fX5_72p hO rfl rfl ?_
  rw [wL_same (show μ1.2 0 13 = (lN 0) from hp.2.2.2 0 13)]
  refine J_aload_n (i := 0) qX5_init_125 rfl rfl ?_
  refine J_pushI qX5_init_126 ?_
  refine J_putI qX5_init_127 fX5_76p hO rfl rfl ?_
  rw [wI_same (show μ1.1 0 14 = nI 0 from hp.2.2.1 0 14 (by omega) (by omega))]
  refine J_pushI qX5_init_130 ?_
  refine J_ist1 qX5_init_131 (Nat.le_of_ble_eq_true rfl) rfl ?_
  exact lp_r 6 0 _ μ1 rfl (by decide) hp (by decide) (by decide)
