/-! PROGRAM: DEEDS, their undoing, copies -/
def cpI (μ : Mm) (a0 sp a1 dp n : Nat) : Mm := (fun c k => if c = a1 ∧ dp ≤ k ∧ k < dp + n then μ.1 a0 (sp + (k - dp)) else μ.1 c k, μ.2)
theorem cpI_n {μ : Mm} {a0 sp a1 dp n c k : Nat} (h : ¬ (c = a1 ∧ dp ≤ k ∧ k < dp + n)) : (cpI μ a0 sp a1 dp n).1 c k = μ.1 c k := if_neg h
theorem cpI_e {μ : Mm} {a0 sp a1 dp n k : Nat} (h : dp ≤ k) (h2 : k < dp + n) : (cpI μ a0 sp a1 dp n).1 a1 k = μ.1 a0 (sp + (k - dp)) := if_pos ⟨rfl, h, h2⟩
theorem rd_c {μ : Mm} {a0 sp a1 dp n c k : Nat} {x : Int32} (h : c ≠ a1) (he : μ.1 c k = x) : (cpI μ a0 sp a1 dp n).1 c k = x := (cpI_n (fun q => h q.1)).trans he
def AC (own : String) (idx : Nat) : Prop := Cond.methodLink own idx arraycopyName ∈ lw_g ∧ Cond.native arraycopyName ∈ lw_g ∧ Cond.static arraycopyName ∈ lw_g ∧ Cond.initialized "java/lang/System" ∈ lw_g
theorem acX5_111 : AC RX5 111 := ⟨lw_at 367 (by decide +kernel) rfl, lw_at 369 (by decide +kernel) rfl, lw_at 368 (by decide +kernel) rfl, lw_at 79 (by decide +kernel) rfl⟩
theorem acX1_52 : AC RX1 52 := ⟨lw_at 526 (by decide +kernel) rfl, lw_at 369 (by decide +kernel) rfl, lw_at 368 (by decide +kernel) rfl, lw_at 79 (by decide +kernel) rfl⟩
theorem acX2_57 : AC RX2 57 := ⟨lw_at 399 (by decide +kernel) rfl, lw_at 369 (by decide +kernel) rfl, lw_at 368 (by decide +kernel) rfl, lw_at 79 (by decide +kernel) rfl⟩
theorem ob_cpI {tc : Nat → ClassId} {ad : Nat → Nat} {G : Gm} {μ : Mm} {a0 sp a1 dp n i : Nat} (h : i ≠ a1) : ob tc ad (G, cpI μ a0 sp a1 dp n) i = ob tc ad (G, μ) i := by
  have e : (fun j => (cpI μ a0 sp a1 dp n).1 i j) = fun j => μ.1 i j := funext fun j => cpI_n (fun q => h q.1)
  have f : fv ad (G, cpI μ a0 sp a1 dp n) i = fv ad (G, μ) i := funext fun j => by
    unfold fv
    dsimp only
    rw [cpI_n (fun q => h q.1)]
    rfl
  unfold ob
  dsimp only
  rw [e, f]
theorem J_acpy {mi : MI} {d : Nat} {lim : Nat × Nat} {sc : Nat × (Nat → Int32)} {K : Option Value → Wd → Prop} {cs : Nat × Nat} {pc nx idx a0 a1 n0 n1 sp dp n : Nat} {ls st : List Value} {G : Gm} {μ : Mm} (h : Dc mi pc (.invokestatic idx) 3 nx) (hw : AC mi.1.cls idx) (h0 : IsA G a0 10 n0) (h1 : IsA G a1 10 n1) (b1 : sp + n ≤ n0) (b2 : dp + n ≤ n1) (hst : (st.map fun v => v.category).sum ≤ 8)
    (kk : J mi (d + 1) lim sc K cs nx ls st (G, cpI μ a0 sp a1 dp n)) : J mi (d + 1) lim sc K cs pc ls (.int (nI n) :: .int (nI dp) :: .ref a1 :: .int (nI sp) :: .ref a0 :: st) (G, μ) := by
  obtain ⟨hd, rfl⟩ := h
  obtain ⟨w1, w2, w3, w4⟩ := hw
  have g0 := h0.2.2.2
  have g1 := h1.2.2.2
  have c1 : (nI sp).toNatClampNeg = sp := nI_clamp (by omega)
  have c2 : (nI dp).toNatClampNeg = dp := nI_clamp (by omega)
  have c3 : (nI n).toNatClampNeg = n := nI_clamp (by omega)
  intro p l e R s m args below meth c H locs D tc ad A lr Q hC hR hE hL hret
  have hts := hC.2.2.2.2.2.1
  refine va_copyi hC.1 hC.2.1 (hC.2.2.2.1.trans hL.1.symm) hC.2.2.2.2.1 (hts _ w1) (hts _ w2) (hts _ w3) (hts _ w4) hE.1 hE.2.1 hE.2.2.1 hE.2.2.2.1 a0 a1 0 0 (f := fun j => μ.1 a0 j) (g := fun j => μ.1 a1 j) (ty := .int) ?_ ?_ rfl rfl rfl (nI_pos (by omega)) (nI_pos (by omega)) (nI_pos (by omega)) (by rw [c1, c3]; exact b1) (by rw [c2, c3]; exact b2) (fun _ _ => rfl) (Nat.le_trans (by omega) hR.1) ?_ hd (fun H1 locs1 hP hD hS => ?_)
  · rw [wsW_at h0.1, ob_i h0 (by omega) (by omega)]
  · rw [wsW_at h1.1, ob_i h1 (by omega) (by omega)]
  · have e1 : ((st.map (trV ad)).map fun v => v.category).sum ≤ 8 := by rw [tr_cats]; exact hst
    have e2 := hR.2.1
    have e3 : nativeFrameWords "java/lang/System" "arraycopy" 5 = 7 := rfl
    rw [e3]
    omega
  · rw [c1, c2, c3] at hP hD
    refine kk p l e R s m args below meth c H1 locs1 D tc ad A lr Q hC hR (hE.put (w' := (G, cpI μ a0 sp a1 dp n)) rfl (fun i hi => ob_cpI hi) ?_ hP hD hS) hL hret
    rw [ob_i (w := (G, cpI μ a0 sp a1 dp n)) h1 (by omega) (by omega)]
    refine congrArg (fun z => Sum.inl (tc 10, n1, Sum.inl z)) (funext fun j => ?_)
    by_cases hj : dp ≤ j ∧ j < dp + n
    · rw [pk_cpy_in hj.1 hj.2]
      exact cpI_e hj.1 hj.2
    · rw [pk_cpy_out (by omega)]
      exact cpI_n (fun q => hj q.2)
/-- a DEED's six numbers -/
def w6 (μ : Mm) (b i : Nat) (v : Nat → Int32) : Mm := wI (wI (wI (wI (wI (wI μ (b + 5) i (v 0)) (b + 6) i (v 1)) (b + 7) i (v 2)) (b + 8) i (v 3)) (b + 9) i (v 4)) (b + 10) i (v 5)
theorem w6_e {μ : Mm} {b i j : Nat} {v : Nat → Int32} (hj : j < 6) : (w6 μ b i v).1 (b + 5 + j) i = v j := by
  unfold w6
  match j, hj with
  | 0, _ => rw [wI_n (by omega), wI_n (by omega), wI_n (by omega), wI_n (by omega), wI_n (by omega), wI_e]
  | 1, _ => rw [wI_n (by omega), wI_n (by omega), wI_n (by omega), wI_n (by omega), wI_e]
  | 2, _ => rw [wI_n (by omega), wI_n (by omega), wI_n (by omega), wI_e]
  | 3, _ => rw [wI_n (by omega), wI_n (by omega), wI_e]
  | 4, _ => rw [wI_n (by omega), wI_e]
  | 5, _ => rw [wI_e]
theorem w6_n {μ : Mm} {b i c k : Nat} {v : Nat → Int32} (h : ¬ (b + 5 ≤ c ∧ c ≤ b + 10 ∧ k = i)) : (w6 μ b i v).1 c k = μ.1 c k := by
  unfold w6
  rw [wI_n (by omega), wI_n (by omega), wI_n (by omega), wI_n (by omega), wI_n (by omega), wI_n (by omega)]
def recV (kd i : Nat) (cs : List Cs) (j : Nat) : Int32 := match j with
  | 0 => nI kd
  | 1 => nI i
  | 2 => (cg cs i).1
  | 3 => (cg cs i).2.1
  | 4 => nI (cg cs i).2.2.1
  | _ => nI (cg cs i).2.2.2
def recM (μ : Mm) (b n kd i : Nat) (cs : List Cs) : Mm := wI (w6 μ b n (recV kd i cs)) b 12 (nI (n + 1))
theorem recM_fr {μ : Mm} {b n kd i : Nat} {cs : List Cs} : Fr μ (recM μ b n kd i cs) (Pdd b) := Fr.w ⟨fun c k h => w6_n (fun q => h (Or.inl ⟨q.1, q.2.1⟩)), rfl⟩ (Or.inr ⟨rfl, rfl⟩)
def setA (cs : List Cs) (i a : Nat) : List Cs := cs.set i ((cg cs i).1, (cg cs i).2.1, a, (cg cs i).2.2.2)
def setW (cs : List Cs) (i w : Nat) : List Cs := cs.set i ((cg cs i).1, (cg cs i).2.1, (cg cs i).2.2.1, w)
/-- DEED e, undone, makes pv of nx -/
def Und (μ : Mm) (b e : Nat) (nx pv : List Cs) : Prop :=
  (μ.1 (b + 5) e = nI 0 ∧ pv = nx) ∨
  (μ.1 (b + 5) e = nI 1 ∧ ∃ i, i < nx.length ∧ μ.1 (b + 6) e = nI i ∧ pv = nx.eraseIdx i) ∨
  (μ.1 (b + 5) e = nI 2 ∧ nx.length < 12 ∧ ∃ a w, μ.1 (b + 9) e = nI a ∧ μ.1 (b + 10) e = nI w ∧ pv = insF nx (μ.1 (b + 7) e, μ.1 (b + 8) e, a, w)) ∨
  (μ.1 (b + 5) e = nI 3 ∧ ∃ i a, i < nx.length ∧ μ.1 (b + 6) e = nI i ∧ μ.1 (b + 9) e = nI a ∧ pv = setA nx i a) ∨
  (μ.1 (b + 5) e = nI 4 ∧ ∃ i w, i < nx.length ∧ μ.1 (b + 6) e = nI i ∧ μ.1 (b + 10) e = nI w ∧ pv = setW nx i w)
theorem Und.cg {μ μ' : Mm} {b b' e : Nat} {nx pv : List Cs} (h : Und μ b e nx pv) (hr : ∀ j, j < 6 → μ'.1 (b' + 5 + j) e = μ.1 (b + 5 + j) e) : Und μ' b' e nx pv := by
  have h0 : μ'.1 (b' + 5) e = μ.1 (b + 5) e := hr 0 (by omega)
  have h1 : μ'.1 (b' + 6) e = μ.1 (b + 6) e := hr 1 (by omega)
  have h2 : μ'.1 (b' + 7) e = μ.1 (b + 7) e := hr 2 (by omega)
  have h3 : μ'.1 (b' + 8) e = μ.1 (b + 8) e := hr 3 (by omega)
  have h4 : μ'.1 (b' + 9) e = μ.1 (b + 9) e := hr 4 (by omega)
  have h5 : μ'.1 (b' + 10) e = μ.1 (b + 10) e := hr 5 (by omega)
  unfold Und
  rw [h0, h1, h2, h3, h4, h5]
  exact h
def nxtF (hs : List (List Cs)) (cs : List Cs) (e : Nat) : List Cs := (hs ++ [cs]).getD (e + 1) []
def AbH (μ : Mm) (b : Nat) (cs : List Cs) (hs : List (List Cs)) : Prop := μ.1 b 12 = nI hs.length ∧ hs.length ≤ 40 ∧ ∀ e, e < hs.length → Und μ b e (nxtF hs cs e) (hs.getD e [])
theorem nxt_old {hs : List (List Cs)} {cs cs' : List Cs} {e : Nat} (h : e < hs.length) : nxtF (hs ++ [cs]) cs' e = nxtF hs cs e := by
  unfold nxtF
  rw [List.getD_eq_getElem?_getD, List.getD_eq_getElem?_getD, List.getElem?_append_left (by simp; omega)]
theorem nxt_new (hs : List (List Cs)) (cs cs' : List Cs) : nxtF (hs ++ [cs]) cs' hs.length = cs' := by
  unfold nxtF
  rw [List.getD_eq_getElem?_getD, List.getElem?_append_right (by simp)]
  simp
theorem gd_old {hs : List (List Cs)} {cs : List Cs} {e : Nat} (h : e < hs.length) : (hs ++ [cs]).getD e [] = hs.getD e [] := by
  rw [List.getD_eq_getElem?_getD, List.getD_eq_getElem?_getD, List.getElem?_append_left h]
theorem gd_new (hs : List (List Cs)) (cs : List Cs) : (hs ++ [cs]).getD hs.length [] = cs := by
  rw [List.getD_eq_getElem?_getD, List.getElem?_append_right (Nat.le_refl _)]
  simp
theorem AbH.push {μ μ' : Mm} {b : Nat} {cs cs' : List Cs} {hs : List (List Cs)} (h : AbH μ b cs hs) (hl : hs.length < 40) (hr : ∀ j, j < 6 → ∀ e, e < hs.length → μ'.1 (b + 5 + j) e = μ.1 (b + 5 + j) e) (h12 : μ'.1 b 12 = nI (hs.length + 1)) (hu : Und μ' b hs.length cs' cs) : AbH μ' b cs' (hs ++ [cs]) := by
  refine ⟨by rw [h12]; simp, by simp; omega, fun e he => ?_⟩
  by_cases q : e < hs.length
  · rw [nxt_old q, gd_old q]
    exact (h.2.2 e q).cg (fun j hj => hr j hj e q)
  · have : e = hs.length := by simp at he; omega
    subst this
    rw [nxt_new, gd_new]
    exact hu
theorem AbH.pop {μ μ' : Mm} {b : Nat} {cs p : List Cs} {hs : List (List Cs)} (h : AbH μ b cs (hs ++ [p])) (hr : ∀ j, j < 6 → ∀ e, e < hs.length → μ'.1 (b + 5 + j) e = μ.1 (b + 5 + j) e) (h12 : μ'.1 b 12 = nI hs.length) : AbH μ' b p hs := by
  refine ⟨h12, by have := h.2.1; simp at this; omega, fun e he => ?_⟩
  have h1 := h.2.2 e (by simp; omega)
  rw [nxt_old he, gd_old he] at h1
  exact h1.cg (fun j hj => hr j hj e he)
theorem AbH.top {μ : Mm} {b : Nat} {cs p : List Cs} {hs : List (List Cs)} (h : AbH μ b cs (hs ++ [p])) : Und μ b hs.length cs p := by
  have h1 := h.2.2 hs.length (by simp)
  rw [nxt_new, gd_new] at h1
  exact h1
theorem AbH.fr {μ μ' : Mm} {b : Nat} {cs : List Cs} {hs : List (List Cs)} {P : Nat → Nat → Prop} (h : AbH μ b cs hs) (hF : Fr μ μ' P) (hP : ∀ c k, P c k → ¬ Pdd b c k) : AbH μ' b cs hs :=
  ⟨(hF.1 _ _ (fun q => hP _ _ q (Or.inr ⟨rfl, rfl⟩))).trans h.1, h.2.1, fun e he => (h.2.2 e he).cg (fun j hj => hF.1 _ _ (fun q => hP _ _ q (Or.inl ⟨by omega, by omega⟩)))⟩
theorem pcs_pdd {b c k : Nat} (h : Pcs b c k) : ¬ Pdd b c k := fun q => by unfold Pcs at h; unfold Pdd at q; omega
theorem pdd_pcs {b c k : Nat} (h : Pdd b c k) : ¬ Pcs b c k := fun q => pcs_pdd q h
theorem recM_n {μ : Mm} {b n kd i c k : Nat} {cs : List Cs} (h : ¬ (b + 5 ≤ c ∧ c ≤ b + 10 ∧ k = n)) (h2 : ¬ (c = b ∧ k = 12)) : (recM μ b n kd i cs).1 c k = μ.1 c k := (wI_n h2).trans (w6_n h)
theorem recM_e {μ : Mm} {b n kd i j : Nat} {cs : List Cs} (h : j < 6) : (recM μ b n kd i cs).1 (b + 5 + j) n = recV kd i cs j := (wI_n (by omega)).trans (w6_e h)
theorem era_ins {cs : List Cs} {p : Nat} {c : Cs} (h : p ≤ cs.length) : (insA cs p c).eraseIdx p = cs := by
  unfold insA
  rw [List.eraseIdx_append_of_length_le (by rw [List.length_take]; omega), List.length_take, show p - min p cs.length = 0 by omega, List.eraseIdx_cons_zero, List.take_append_drop]
section PR
variable {G : Gm} {μ : Mm} {b d : Nat} {cs : List Cs} {hs : List (List Cs)}
theorem p_noteDeed (hP : IsP G b) (hc : AbC μ b cs) {n : Nat} (hd : μ.1 b 12 = nI n) (h40 : n < 40) (kd : Nat) {i : Nat} (hi : i < cs.length) : Sv mX1_noteDeed (d+1) [.ref b, .int (nI kd), .int (nI i)] G μ (fun μ' => recM μ b n kd i cs = μ') := by
  have hP0 := hP
  have hc0 := hc
  obtain ⟨hO, ⟨r0, r1, r2, r3⟩, ⟨r6, r7, r8, r9, r10, r11⟩, ⟨a1, a2, a3, a4⟩, ⟨a5, a6, a7, a8, a9, a10⟩⟩ := hP
  obtain ⟨hn, h12, hk⟩ := hc
  obtain ⟨e1, e2, e3, e4⟩ := hk i hi
  refine Sv_of (ls := [.ref b, .int (nI kd), .int (nI i)]) (by decide +kernel) (Nat.le_of_ble_eq_true rfl) rfl ?_
  refine J_aload_n (i := 0) qX1_noteDeed_0 rfl rfl ?_
  refine J_getIe qX1_noteDeed_1 fX1_49 (by assumption) (by (repeat first | with_reducible exact wI_e _ _ _ _ | (with_reducible apply rd_s; focus omega) | (with_reducible apply rd_c; focus omega) | (with_reducible apply rd_k; focus omega) | with_reducible exact rd_e (by omega)); first | done | assumption | rfl) ?_
  refine J_pushI qX1_noteDeed_4 ?_
  first | with_reducible refine J_icmp_ge_n qX1_noteDeed_6 (by omega) (by omega) (fun c => ?_) (fun c => ?_) | refine J_icmp_ge qX1_noteDeed_6 (fun c => ?_) (fun c => ?_)
  · omega
  · refine J_aload_n (i := 0) qX1_noteDeed_9 rfl rfl ?_
    refine J_iload_n (i := 2) qX1_noteDeed_10 rfl rfl ?_
    refine J_vi1 qX1_noteDeed_11 kX1_80 (by assumption) (p_has hP0 hc0 (nI i)) (Nat.le_of_ble_eq_true rfl) (fun r μ' hr => ?_)
    obtain ⟨rfl, rfl⟩ := hr
    rw [show hasB cs.length (nI i) = true from decide_eq_true ⟨nI_pos' (by omega), nI_lt hi (by omega)⟩]
    refine J_if_ne_n (a := 1) qX1_noteDeed_14 (by omega) (fun c => ?_) (fun c => absurd c (by omega))
    refine J_aload_n (i := 0) qX1_noteDeed_18 rfl rfl ?_
    refine J_getR qX1_noteDeed_19 fX1_31 (by assumption) (by assumption) ?_
    refine J_aload_n (i := 0) qX1_noteDeed_22 rfl rfl ?_
    refine J_getIe qX1_noteDeed_23 fX1_49 (by assumption) (by (repeat first | with_reducible exact wI_e _ _ _ _ | (with_reducible apply rd_s; focus omega) | (with_reducible apply rd_c; focus omega) | (with_reducible apply rd_k; focus omega) | with_reducible exact rd_e (by omega)); first | done | assumption | rfl) ?_
    refine J_iload_n (i := 1) qX1_noteDeed_26 rfl rfl ?_
    refine J_iast qX1_noteDeed_27 (by assumption) rfl (by omega) ?_
    refine J_aload_n (i := 0) qX1_noteDeed_28 rfl rfl ?_
    refine J_getR qX1_noteDeed_29 fX1_34 (by assumption) (by assumption) ?_
    refine J_aload_n (i := 0) qX1_noteDeed_32 rfl rfl ?_
    refine J_getIe qX1_noteDeed_33 fX1_49 (by assumption) (by (repeat first | with_reducible exact wI_e _ _ _ _ | (with_reducible apply rd_s; focus omega) | (with_reducible apply rd_c; focus omega) | (with_reducible apply rd_k; focus omega) | with_reducible exact rd_e (by omega)); first | done | assumption | rfl) ?_
    refine J_iload_n (i := 2) qX1_noteDeed_36 rfl rfl ?_
    refine J_iast qX1_noteDeed_37 (by assumption) rfl (by omega) ?_
    refine J_aload_n (i := 0) qX1_noteDeed_38 rfl rfl ?_
    refine J_getR qX1_noteDeed_39 fX1_37 (by assumption) (by assumption) ?_
    refine J_aload_n (i := 0) qX1_noteDeed_42 rfl rfl ?_
    refine J_getIe qX1_noteDeed_43 fX1_49 (by assumption) (by (repeat first | with_reducible exact wI_e _ _ _ _ | (with_reducible apply rd_s; focus omega) | (with_reducible apply rd_c; focus omega) | (with_reducible apply rd_k; focus omega) | with_reducible exact rd_e (by omega)); first | done | assumption | rfl) ?_
    refine J_aload_n (i := 0) qX1_noteDeed_46 rfl rfl ?_
    refine J_getR qX1_noteDeed_47 fX1_9 (by assumption) (by assumption) ?_
    refine J_iload_n (i := 2) qX1_noteDeed_50 rfl rfl ?_
    refine J_ialde qX1_noteDeed_51 (by assumption) rfl (by omega) (by (repeat first | with_reducible exact wI_e _ _ _ _ | (with_reducible apply rd_s; focus omega) | (with_reducible apply rd_c; focus omega) | (with_reducible apply rd_k; focus omega) | with_reducible exact rd_e (by omega)); first | done | assumption | rfl) ?_
    refine J_iast qX1_noteDeed_52 (by assumption) rfl (by omega) ?_
    refine J_aload_n (i := 0) qX1_noteDeed_53 rfl rfl ?_
    refine J_getR qX1_noteDeed_54 fX1_40 (by assumption) (by assumption) ?_
    refine J_aload_n (i := 0) qX1_noteDeed_57 rfl rfl ?_
    refine J_getIe qX1_noteDeed_58 fX1_49 (by assumption) (by (repeat first | with_reducible exact wI_e _ _ _ _ | (with_reducible apply rd_s; focus omega) | (with_reducible apply rd_c; focus omega) | (with_reducible apply rd_k; focus omega) | with_reducible exact rd_e (by omega)); first | done | assumption | rfl) ?_
    refine J_aload_n (i := 0) qX1_noteDeed_61 rfl rfl ?_
    refine J_getR qX1_noteDeed_62 fX1_15 (by assumption) (by assumption) ?_
    refine J_iload_n (i := 2) qX1_noteDeed_65 rfl rfl ?_
    refine J_ialde qX1_noteDeed_66 (by assumption) rfl (by omega) (by (repeat first | with_reducible exact wI_e _ _ _ _ | (with_reducible apply rd_s; focus omega) | (with_reducible apply rd_c; focus omega) | (with_reducible apply rd_k; focus omega) | with_reducible exact rd_e (by omega)); first | done | assumption | rfl) ?_
    refine J_iast qX1_noteDeed_67 (by assumption) rfl (by omega) ?_
    refine J_aload_n (i := 0) qX1_noteDeed_68 rfl rfl ?_
    refine J_getR qX1_noteDeed_69 fX1_43 (by assumption) (by assumption) ?_
    refine J_aload_n (i := 0) qX1_noteDeed_72 rfl rfl ?_
    refine J_getIe qX1_noteDeed_73 fX1_49 (by assumption) (by (repeat first | with_reducible exact wI_e _ _ _ _ | (with_reducible apply rd_s; focus omega) | (with_reducible apply rd_c; focus omega) | (with_reducible apply rd_k; focus omega) | with_reducible exact rd_e (by omega)); first | done | assumption | rfl) ?_
    refine J_aload_n (i := 0) qX1_noteDeed_76 rfl rfl ?_
    refine J_getR qX1_noteDeed_77 fX1_18 (by assumption) (by assumption) ?_
    refine J_iload_n (i := 2) qX1_noteDeed_80 rfl rfl ?_
    refine J_ialde qX1_noteDeed_81 (by assumption) rfl (by omega) (by (repeat first | with_reducible exact wI_e _ _ _ _ | (with_reducible apply rd_s; focus omega) | (with_reducible apply rd_c; focus omega) | (with_reducible apply rd_k; focus omega) | with_reducible exact rd_e (by omega)); first | done | assumption | rfl) ?_
    refine J_iast qX1_noteDeed_82 (by assumption) rfl (by omega) ?_
    refine J_aload_n (i := 0) qX1_noteDeed_83 rfl rfl ?_
    refine J_getR qX1_noteDeed_84 fX1_46 (by assumption) (by assumption) ?_
    refine J_aload_n (i := 0) qX1_noteDeed_87 rfl rfl ?_
    refine J_getIe qX1_noteDeed_88 fX1_49 (by assumption) (by (repeat first | with_reducible exact wI_e _ _ _ _ | (with_reducible apply rd_s; focus omega) | (with_reducible apply rd_c; focus omega) | (with_reducible apply rd_k; focus omega) | with_reducible exact rd_e (by omega)); first | done | assumption | rfl) ?_
    refine J_aload_n (i := 0) qX1_noteDeed_91 rfl rfl ?_
    refine J_getR qX1_noteDeed_92 fX1_21 (by assumption) (by assumption) ?_
    refine J_iload_n (i := 2) qX1_noteDeed_95 rfl rfl ?_
    refine J_ialde qX1_noteDeed_96 (by assumption) rfl (by omega) (by (repeat first | with_reducible exact wI_e _ _ _ _ | (with_reducible apply rd_s; focus omega) | (with_reducible apply rd_c; focus omega) | (with_reducible apply rd_k; focus omega) | with_reducible exact rd_e (by omega)); first | done | assumption | rfl) ?_
    refine J_iast qX1_noteDeed_97 (by assumption) rfl (by omega) ?_
    refine J_aload_n (i := 0) qX1_noteDeed_98 rfl rfl ?_
    refine J_dup qX1_noteDeed_99 rfl ?_
    refine J_getIe qX1_noteDeed_100 fX1_49 (by assumption) (by (repeat first | with_reducible exact wI_e _ _ _ _ | (with_reducible apply rd_s; focus omega) | (with_reducible apply rd_c; focus omega) | (with_reducible apply rd_k; focus omega) | with_reducible exact rd_e (by omega)); first | done | assumption | rfl) ?_
    refine J_pushI qX1_noteDeed_103 ?_
    first | with_reducible refine J_iadd_n qX1_noteDeed_104 ?_ | refine J_iadd qX1_noteDeed_104 ?_
    refine J_putI qX1_noteDeed_105 fX1_49p (by assumption) rfl rfl ?_
    refine Jv_ret qX1_noteDeed_108 ?_
    rfl
theorem p_addCase (hP : IsP G b) (hc : AbC μ b cs) (hh : AbH μ b cs hs) (lo hi : Int32) (a w : Nat) (hlt : cs.length < 12) (h40 : hs.length < 40) : Si mX1_addCase (d+2) [.ref b, .int lo, .int hi, .int (nI a), .int (nI w)] G μ (fun r μ' => r = nI (posF cs lo cs.length) ∧ AbC μ' b (insF cs (lo, hi, a, w)) ∧ AbH μ' b (insF cs (lo, hi, a, w)) (hs ++ [cs]) ∧ Fr μ μ' (fun c k => Pcs b c k ∨ Pdd b c k)) := by
  have hP0 := hP
  obtain ⟨hO, -⟩ := hP
  refine Si_of (ls := [.ref b, .int lo, .int hi, .int (nI a), .int (nI w), .null]) (by decide +kernel) (Nat.le_of_ble_eq_true rfl) rfl ?_
  refine J_aload_n (i := 0) qX1_addCase_0 rfl rfl ?_
  refine J_iload_n (i := 1) qX1_addCase_1 rfl rfl ?_
  refine J_iload_n (i := 2) qX1_addCase_2 rfl rfl ?_
  refine J_iload_n (i := 3) qX1_addCase_3 rfl rfl ?_
  refine J_iload (i := 4) qX1_addCase_4 rfl ?_
  refine J_vi4 qX1_addCase_6 kX1_68 (by assumption) (p_insert hP0 hc lo hi a w hlt) (Nat.le_of_ble_eq_true rfl) (fun r ν hr => ?_)
  obtain ⟨rfl, hcν, hF⟩ := hr
  have hpl := posF_le cs lo cs.length
  have hdν : ν.1 b 12 = nI hs.length := (hF.1 _ _ (fun q => pcs_pdd q (Or.inr ⟨rfl, rfl⟩))).trans hh.1
  refine J_ist5 qX1_addCase_9 (Nat.le_of_ble_eq_true rfl) rfl ?_
  refine J_aload_n (i := 0) qX1_addCase_11 rfl rfl ?_
  refine J_pushI qX1_addCase_12 ?_
  refine J_iload (i := 5) qX1_addCase_13 rfl ?_
  refine J_vv2 qX1_addCase_15 kX1_72 (by assumption) (p_noteDeed hP0 hcν hdν h40 1 (i := posF cs lo cs.length) (by rw [insF_len]; omega)) (Nat.le_of_ble_eq_true rfl) (fun ν' hr => ?_)
  obtain rfl := hr
  refine J_iload (i := 5) qX1_addCase_18 rfl ?_
  refine Ji_ret qX1_addCase_20 ?_
  refine ⟨rfl, hcν.fr recM_fr (fun _ _ => pdd_pcs), AbH.push (hh.fr hF (fun _ _ => pcs_pdd)) h40 (fun j hj e he => recM_n (by omega) (by omega)) (wI_e _ _ _ _) ?_, Fr.tr (hF.mono (fun _ _ => Or.inl)) (recM_fr.mono (fun _ _ => Or.inr))⟩
  refine Or.inr (Or.inl ⟨recM_e (j := 0) (by omega), posF cs lo cs.length, by rw [insF_len]; omega, recM_e (j := 1) (by omega), ?_⟩)
  exact (era_ins hpl).symm
theorem p_doNothing (hP : IsP G b) (hh : AbH μ b cs hs) (h40 : hs.length < 40) : Sv mX1_doNothing (d) [.ref b] G μ (fun μ' => AbH μ' b cs (hs ++ [cs]) ∧ Fr μ μ' (Pdd b)) := by
  obtain ⟨hO, -, ⟨r6, r7, r8, r9, r10, r11⟩, -, ⟨a5, a6, a7, a8, a9, a10⟩⟩ := hP
  have hd := hh.1
  refine Sv_of (ls := [.ref b]) (by decide +kernel) (Nat.le_of_ble_eq_true rfl) rfl ?_
  refine J_aload_n (i := 0) qX1_doNothing_0 rfl rfl ?_
  refine J_getIe qX1_doNothing_1 fX1_49 (by assumption) (by (repeat first | with_reducible exact wI_e _ _ _ _ | (with_reducible apply rd_s; focus omega) | (with_reducible apply rd_c; focus omega) | (with_reducible apply rd_k; focus omega) | with_reducible exact rd_e (by omega)); first | done | assumption | rfl) ?_
  refine J_pushI qX1_doNothing_4 ?_
  first | with_reducible refine J_icmp_ge_n qX1_doNothing_6 (by omega) (by omega) (fun c => ?_) (fun c => ?_) | refine J_icmp_ge qX1_doNothing_6 (fun c => ?_) (fun c => ?_)
  · omega
  · refine J_aload_n (i := 0) qX1_doNothing_9 rfl rfl ?_
    refine J_getR qX1_doNothing_10 fX1_31 (by assumption) (by assumption) ?_
    refine J_aload_n (i := 0) qX1_doNothing_13 rfl rfl ?_
    refine J_getIe qX1_doNothing_14 fX1_49 (by assumption) (by (repeat first | with_reducible exact wI_e _ _ _ _ | (with_reducible apply rd_s; focus omega) | (with_reducible apply rd_c; focus omega) | (with_reducible apply rd_k; focus omega) | with_reducible exact rd_e (by omega)); first | done | assumption | rfl) ?_
    refine J_pushI qX1_doNothing_17 ?_
    refine J_iast qX1_doNothing_18 (by assumption) rfl (by omega) ?_
    refine J_aload_n (i := 0) qX1_doNothing_19 rfl rfl ?_
    refine J_dup qX1_doNothing_20 rfl ?_
    refine J_getIe qX1_doNothing_21 fX1_49 (by assumption) (by (repeat first | with_reducible exact wI_e _ _ _ _ | (with_reducible apply rd_s; focus omega) | (with_reducible apply rd_c; focus omega) | (with_reducible apply rd_k; focus omega) | with_reducible exact rd_e (by omega)); first | done | assumption | rfl) ?_
    refine J_pushI qX1_doNothing_24 ?_
    first | with_reducible refine J_iadd_n qX1_doNothing_25 ?_ | refine J_iadd qX1_doNothing_25 ?_
    refine J_putI qX1_doNothing_26 fX1_49p (by assumption) rfl rfl ?_
    refine Jv_ret qX1_doNothing_29 ?_
    refine ⟨AbH.push hh h40 (fun j hj e he => ?_) (wI_e _ _ _ _) (Or.inl ⟨?_, rfl⟩), Fr.w (Fr.w Fr.rf (Or.inl ⟨by omega, by omega⟩)) (Or.inr ⟨rfl, rfl⟩)⟩
    · rw [wI_n (by omega), wI_n (by omega)]
    · rw [wI_n (by omega), wI_e]
end PR
