/-! THE MODEL: tokens -/
def MT (μ : Mm) (t : Nat) (T : List Int32) : Prop := μ.1 203 t = nI T.length ∧ T.length ≤ 120 ∧ ∀ k, k < T.length → μ.1 204 (120 * t + k) = bt T k
def RdM (μ : Mm) (t : Nat) (T : List Int32) (p : Nat) : Prop := MT μ t T ∧ μ.1 198 8 = nI p ∧ p ≤ T.length
/-- what a token's reading may change -/
def FrN (μ μ' : Mm) : Prop := (∀ c k, ¬ (c = 198 ∧ 8 ≤ k ∧ k ≤ 12) → μ'.1 c k = μ.1 c k) ∧ ∀ c k, ¬ (c = 198 ∧ k = 11) → μ'.2 c k = μ.2 c k
theorem FrN.rf {μ : Mm} : FrN μ μ := ⟨fun _ _ _ => rfl, fun _ _ _ => rfl⟩
theorem FrN.tr {μ μ1 μ2 : Mm} (h1 : FrN μ μ1) (h2 : FrN μ1 μ2) : FrN μ μ2 := ⟨fun c k h => (h2.1 c k h).trans (h1.1 c k h), fun c k h => (h2.2 c k h).trans (h1.2 c k h)⟩
theorem FrN.w {μ μ1 : Mm} {k : Nat} {v : Int32} (h : FrN μ μ1) (hk : 8 ≤ k ∧ k ≤ 12) : FrN μ (wI μ1 198 k v) := ⟨fun c j z => (wI_n (fun y => z ⟨y.1, by rw [y.2]; exact hk⟩)).trans (h.1 c j z), h.2⟩
theorem FrN.l {μ μ1 : Mm} {v : Int64} (h : FrN μ μ1) : FrN μ (wL μ1 198 11 v) := ⟨h.1, fun c j z => (wL_n z).trans (h.2 c j z)⟩
theorem MT.fr {μ μ' : Mm} {t : Nat} {T : List Int32} (h : MT μ t T) (hF : FrN μ μ') : MT μ' t T := ⟨(hF.1 _ _ (by omega)).trans h.1, h.2.1, fun k hk => (hF.1 _ _ (by omega)).trans (h.2.2 k hk)⟩
theorem runF_stop {f : Nat → Bool} {n : Nat} (hf : ∀ p, f p = true → p < n) : ∀ m p, n < p + m → f (runF f m p) = false
  | 0, p, h => by
    show f p = false
    cases e : f p with
    | false => rfl
    | true => have := hf p e; omega
  | m + 1, p, h => by
    rw [runF_succ]
    by_cases c : f p = true
    · rw [if_pos c]; exact runF_stop hf m (p + 1) (by omega)
    · rw [if_neg c]; cases e : f p with
      | false => rfl
      | true => exact absurd e c
theorem blk_stop (T : List Int32) (p : Nat) (hp : p ≤ T.length) : isBlk T (tkS T p) = false := runF_stop (blk_lt (T := T)) (T.length + 1 - p) p (by omega)
theorem tkS_id {T : List Int32} {p : Nat} (hp : p ≤ T.length) : tkS T (tkS T p) = tkS T p := over_no (blk_stop T p hp)
theorem tkK_id {T : List Int32} {p : Nat} (hp : p ≤ T.length) : tkK T (tkS T p) = tkK T p := by unfold tkK; rw [tkS_id hp]
theorem tkE_id {T : List Int32} {p : Nat} (hp : p ≤ T.length) : tkE T (tkS T p) = tkE T p := by unfold tkE; rw [tkS_id hp]
/-- the number as the model gathers it -/
def vM (T : List Int32) (a : Nat) : Nat → Nat
  | 0 => 0
  | m + 1 => if 9999999999 < vM T a m then vM T a m else 10 * vM T a m + dgt T (a + m)
theorem vM_succ (T : List Int32) (a m : Nat) : vM T a (m + 1) = if 9999999999 < vM T a m then vM T a m else 10 * vM T a m + dgt T (a + m) := rfl
theorem vM_is (T : List Int32) (a : Nat) : ∀ m, vM T a m = vN T a m ∨ (9999999999 < vM T a m ∧ 9999999999 < vN T a m)
  | 0 => Or.inl rfl
  | m + 1 => by
    have h := vM_is T a m
    rw [vM_succ, vN_succ]
    by_cases c : 9999999999 < vM T a m
    · rw [if_pos c]
      right
      omega
    · rw [if_neg c]
      left
      omega
def valL (T : List Int32) (s : Nat) : Int64 := if negB T s then -(lN (vM T (figA T s) (figE T s - figA T s))) else lN (vM T (figA T s) (figE T s - figA T s))
theorem fig_dgt {T : List Int32} {k : Nat} (h : isFig T k = true) : bt T k = nI (48 + dgt T k) ∧ dgt T k < 10 := fig_is (of_decide_eq_true h).2.1 (of_decide_eq_true h).2.2
theorem run_all {f : Nat → Bool} : ∀ m p k, p ≤ k → k < runF f m p → f k = true
  | 0, p, k, h1, h2 => by
    have : k < p := h2
    omega
  | m + 1, p, k, h1, h2 => by
    rw [runF_succ] at h2
    by_cases c : f p = true
    · rw [if_pos c] at h2
      by_cases e : k = p
      · rw [e]; exact c
      · exact run_all m (p + 1) k (by omega) h2
    · rw [if_neg c] at h2; omega
theorem over_all {T : List Int32} {f : List Int32 → Nat → Bool} {p k : Nat} (h1 : p ≤ k) (h2 : k < overF T f p) : f T k = true := run_all _ _ k h1 h2
theorem vM_lt {T : List Int32} {a : Nat} : ∀ m, (∀ k, k < m → dgt T (a + k) < 10) → vM T a m < 100000000000
  | 0, _ => by show 0 < _; omega
  | m + 1, h => by
    have h1 := vM_lt m (fun k hk => h k (by omega))
    have h2 := h m (by omega)
    rw [vM_succ]
    split <;> omega
theorem valL_i (T : List Int32) (s : Nat) : (valL T s).toInt = if negB T s then -(vM T (figA T s) (figE T s - figA T s) : Int) else (vM T (figA T s) (figE T s - figA T s) : Int) := by
  have h1 : vM T (figA T s) (figE T s - figA T s) < 100000000000 := vM_lt _ (fun k hk => (fig_dgt (over_all (f := isFig) (p := figA T s) (by omega) (by unfold figE at hk; omega))).2)
  unfold valL
  have e : (lN (vM T (figA T s) (figE T s - figA T s))).toInt = vM T (figA T s) (figE T s - figA T s) := pk_lT (by omega)
  split
  · rw [Int64.toInt_neg, e]
    exact Int.bmod_eq_of_le (by omega) (by omega)
  · exact e
theorem val_in {T : List Int32} {p : Nat} {lo hi : Int} (h1 : -2147483648 ≤ lo) (h2 : hi ≤ 2147483648) : (lo ≤ (valL T (tkS T p)).toInt ∧ (valL T (tkS T p)).toInt ≤ hi) ↔ (lo ≤ tkV T p ∧ tkV T p ≤ hi) := by
  rw [valL_i]
  unfold tkV magF
  have h := vM_is T (figA T (tkS T p)) (figE T (tkS T p) - figA T (tkS T p))
  split <;> omega
theorem val_eq {T : List Int32} {p : Nat} {lo hi : Int} (h1 : -2147483648 ≤ lo) (h2 : hi ≤ 2147483648) (h3 : lo ≤ tkV T p) (h4 : tkV T p ≤ hi) : (valL T (tkS T p)).toInt = tkV T p := by
  rw [valL_i]
  unfold tkV magF at h3 h4 ⊢
  have h := vM_is T (figA T (tkS T p)) (figE T (tkS T p) - figA T (tkS T p))
  split
  · rename_i c; rw [if_pos c] at h3 h4; omega
  · rename_i c; rw [if_neg c] at h3 h4; omega
def btM (T : List Int32) (k : Nat) : Int32 := if k < T.length then bt T k else -1
section MM
variable {G : Gm} {μ : Mm} {d t p : Nat} {s : St} {T : List Int32}
theorem m_byteAt (hM : LayM G) (ht : t < 4) (hT : MT μ t T) {k : Nat} (hk : k < 1000) : Si mX6_byteAt (d) [.ref 198, .int (nI t), .int (nI k)] G μ (fun r μ' => μ = μ' ∧ r = btM T k) := by
  obtain ⟨mO, ⟨f2, f3, f4, f5, f6, f7, -⟩, ⟨b199, b200, b201, b202, b203, b204, -⟩⟩ := hM
  obtain ⟨e1, e2, e3⟩ := hT
  refine Si_of (ls := [.ref 198, .int (nI t), .int (nI k)]) (by decide +kernel) (Nat.le_of_ble_eq_true rfl) rfl ?_
  refine J_iload_n (i := 2) qX6_byteAt_0 rfl rfl ?_
  refine J_aload_n (i := 0) qX6_byteAt_1 rfl rfl ?_
  refine J_getR qX6_byteAt_2 fX6_22 (by assumption) (by assumption) ?_
  refine J_iload_n (i := 1) qX6_byteAt_5 rfl rfl ?_
  refine J_ialde qX6_byteAt_6 (by assumption) rfl (by omega) (by (repeat first | with_reducible exact wI_e _ _ _ _ | (with_reducible apply rd_s; focus omega) | (with_reducible apply rd_c; focus omega) | (with_reducible apply rd_k; focus omega) | with_reducible exact rd_e (by omega)); first | done | assumption | rfl) ?_
  first | with_reducible refine J_icmp_ge_n qX6_byteAt_7 (by omega) (by omega) (fun c => ?_) (fun c => ?_) | refine J_icmp_ge qX6_byteAt_7 (fun c => ?_) (fun c => ?_)
  · refine J_pushI qX6_byteAt_24 ?_
    refine Ji_ret qX6_byteAt_25 ?_
    exact ⟨rfl, (if_neg (by omega)).symm⟩
  · refine J_aload_n (i := 0) qX6_byteAt_10 rfl rfl ?_
    refine J_getR qX6_byteAt_11 fX6_25 (by assumption) (by assumption) ?_
    refine J_pushI qX6_byteAt_14 ?_
    refine J_iload_n (i := 1) qX6_byteAt_16 rfl rfl ?_
    first | with_reducible refine J_imul_n qX6_byteAt_17 ?_ | refine J_imul qX6_byteAt_17 ?_
    refine J_iload_n (i := 2) qX6_byteAt_18 rfl rfl ?_
    first | with_reducible refine J_iadd_n qX6_byteAt_19 ?_ | refine J_iadd qX6_byteAt_19 ?_
    refine J_bald qX6_byteAt_20 b204 rfl (by omega) ?_
    rw [e3 k c]
    refine J_goto qX6_byteAt_21 ?_
    refine Ji_ret qX6_byteAt_25 ?_
    exact ⟨rfl, (if_pos c).symm⟩
theorem blk_btM (T : List Int32) (p : Nat) : isBlk T p = decide (btM T p = nI 32) := by
  unfold isBlk btM
  apply decide_eq_decide.mpr
  by_cases c : p < T.length
  · rw [if_pos c]; exact ⟨fun h => h.2, fun h => ⟨c, h⟩⟩
  · rw [if_neg c]; exact ⟨fun h => absurd h.1 c, fun h => absurd h (by decide)⟩
theorem m_blanks (hM : LayM G) (ht : t < 4) (hR : RdM μ t T p) : Sv mX6_blanks (d+1) [.ref 198, .int (nI t)] G μ (fun μ' => wI μ 198 8 (nI (tkS T p)) = μ' ∨ (μ = μ' ∧ tkS T p = p)) := by
  have mO := hM.1
  have e2 := hR.1.2.1
  have H : ∀ N q ν, T.length + 1 - q = N → q ≤ T.length → tkS T p = tkS T q → (ν = μ ∨ ν = wI μ 198 8 (nI q)) → RdM ν t T q → (ν = μ → q = p) → J mX6_blanks (d+1) (0, 0) s0 (Kv G (fun μ' => wI μ 198 8 (nI (tkS T p)) = μ' ∨ (μ = μ' ∧ tkS T p = p))) (0, 0) 0 [.ref 198, .int (nI t)] [] (G, ν) := by
    intro N
    induction N with
    | zero => intro q ν hN hq; omega
    | succ N ih =>
      intro q ν hN hq hs hν hR1 hq0
      have e8 := hR1.2.1
      have bb := blk_btM T q
      refine J_aload_n (i := 0) qX6_blanks_0 rfl rfl ?_
      refine J_iload_n (i := 1) qX6_blanks_1 rfl rfl ?_
      refine J_aload_n (i := 0) qX6_blanks_2 rfl rfl ?_
      refine J_getIe qX6_blanks_3 fX6_97 (by assumption) (by (repeat first | with_reducible exact wI_e _ _ _ _ | (with_reducible apply rd_s; focus omega) | (with_reducible apply rd_c; focus omega) | (with_reducible apply rd_k; focus omega) | with_reducible exact rd_e (by omega)); first | done | assumption | rfl) ?_
      refine J_vi2 qX6_blanks_6 kX6_100 (by assumption) (m_byteAt (d := d) hM ht hR1.1 (k := q) (by omega)) (Nat.le_of_ble_eq_true rfl) (fun v1 μ' hr => ?_)
      obtain ⟨rfl, rfl⟩ := hr
      refine J_pushI qX6_blanks_9 ?_
      refine J_icmp_ne qX6_blanks_11 (fun c => ?_) (fun c => ?_)
      · rw [decide_eq_false c] at bb
        refine Jv_ret qX6_blanks_27 ?_
        have e : tkS T q = q := over_no bb
        rw [hs, e]
        rcases hν with rfl | rfl
        · exact Or.inr ⟨rfl, hq0 rfl⟩
        · exact Or.inl rfl
      · rw [decide_eq_true c] at bb
        have hl := blk_lt q bb
        refine J_aload_n (i := 0) qX6_blanks_14 rfl rfl ?_
        refine J_dup qX6_blanks_15 rfl ?_
        refine J_getIe qX6_blanks_16 fX6_97 (by assumption) (by (repeat first | with_reducible exact wI_e _ _ _ _ | (with_reducible apply rd_s; focus omega) | (with_reducible apply rd_c; focus omega) | (with_reducible apply rd_k; focus omega) | with_reducible exact rd_e (by omega)); first | done | assumption | rfl) ?_
        refine J_pushI qX6_blanks_19 ?_
        first | with_reducible refine J_iadd_n qX6_blanks_20 ?_ | refine J_iadd qX6_blanks_20 ?_
        refine J_putI qX6_blanks_21 fX6_97p (by assumption) rfl rfl ?_
        refine J_goto qX6_blanks_24 ?_
        have e : tkS T q = tkS T (q + 1) := over_yes (by omega) bb
        refine ih (q + 1) _ (by omega) (by omega) (hs.trans e) (Or.inr ?_) ⟨?_, wI_e _ _ _ _, by omega⟩ (fun z => ?_)
        · rcases hν with rfl | rfl
          · rfl
          · refine Prod.ext (funext fun i => funext fun j => ?_) rfl
            by_cases c2 : i = 198 ∧ j = 8
            · rw [c2.1, c2.2, wI_e, wI_e]
            · rw [wI_n c2, wI_n c2, wI_n c2]
        · exact hR1.1.fr (FrN.w FrN.rf (by omega))
        · have h9 : (wI ν 198 8 (nI (q + 1))).1 198 8 = nI (q + 1) := wI_e _ _ _ _
          rw [z, hR.2.1] at h9
          have h10 := (nI_eq (by have := hR.2.2; omega) (by omega)).mp h9
          omega
  refine Sv_of (ls := [.ref 198, .int (nI t)]) (by decide +kernel) (Nat.le_of_ble_eq_true rfl) rfl ?_
  exact H _ p μ rfl hR.2.2 rfl (Or.inl rfl) hR (fun _ => rfl)
theorem inB_let (T : List Int32) {p : Nat} (h : p < T.length) : isLet T p = inB (btM T p) (nI 97) (nI 122) := by
  unfold isLet inB btM
  rw [if_pos h]
  apply decide_eq_decide.mpr
  exact ⟨fun q => q.2, fun q => ⟨h, q⟩⟩
theorem inB_fig (T : List Int32) {p : Nat} (h : p < T.length) : isFig T p = inB (btM T p) (nI 48) (nI 57) := by
  unfold isFig inB btM
  rw [if_pos h]
  apply decide_eq_decide.mpr
  exact ⟨fun q => q.2, fun q => ⟨h, q⟩⟩
theorem m_isLetter (hM : LayM G) (ht : t < 4) (hR : RdM μ t T p) : Si mX6_isLetter (d+1) [.ref 198, .int (nI t)] G μ (fun r μ' => μ = μ' ∧ r = b2i (isLet T p)) := by
  have hM0 := hM
  obtain ⟨mO, ⟨f2, f3, f4, f5, f6, f7, -⟩, ⟨b199, b200, b201, b202, b203, b204, -⟩⟩ := hM
  obtain ⟨hT, e8, hp⟩ := hR
  have e1 := hT.1
  have e2 := hT.2.1
  refine Si_of (ls := [.ref 198, .int (nI t)]) (by decide +kernel) (Nat.le_of_ble_eq_true rfl) rfl ?_
  refine J_aload_n (i := 0) qX6_isLetter_0 rfl rfl ?_
  refine J_getIe qX6_isLetter_1 fX6_97 (by assumption) (by (repeat first | with_reducible exact wI_e _ _ _ _ | (with_reducible apply rd_s; focus omega) | (with_reducible apply rd_c; focus omega) | (with_reducible apply rd_k; focus omega) | with_reducible exact rd_e (by omega)); first | done | assumption | rfl) ?_
  refine J_aload_n (i := 0) qX6_isLetter_4 rfl rfl ?_
  refine J_getR qX6_isLetter_5 fX6_22 (by assumption) (by assumption) ?_
  refine J_iload_n (i := 1) qX6_isLetter_8 rfl rfl ?_
  refine J_ialde qX6_isLetter_9 (by assumption) rfl (by omega) (by (repeat first | with_reducible exact wI_e _ _ _ _ | (with_reducible apply rd_s; focus omega) | (with_reducible apply rd_c; focus omega) | (with_reducible apply rd_k; focus omega) | with_reducible exact rd_e (by omega)); first | done | assumption | rfl) ?_
  first | with_reducible refine J_icmp_ge_n qX6_isLetter_10 (by omega) (by omega) (fun c => ?_) (fun c => ?_) | refine J_icmp_ge qX6_isLetter_10 (fun c => ?_) (fun c => ?_)
  · refine J_pushI qX6_isLetter_36 ?_
    refine Jz_ret qX6_isLetter_37 (by first | exact Or.inl rfl | exact Or.inr rfl | assumption) ?_
    exact ⟨rfl, b2i_f (decide_eq_false (fun q => absurd q.1 (by omega)))⟩
  · refine J_aload_n (i := 0) qX6_isLetter_13 rfl rfl ?_
    refine J_iload_n (i := 1) qX6_isLetter_14 rfl rfl ?_
    refine J_aload_n (i := 0) qX6_isLetter_15 rfl rfl ?_
    refine J_getIe qX6_isLetter_16 fX6_97 (by assumption) (by (repeat first | with_reducible exact wI_e _ _ _ _ | (with_reducible apply rd_s; focus omega) | (with_reducible apply rd_c; focus omega) | (with_reducible apply rd_k; focus omega) | with_reducible exact rd_e (by omega)); first | done | assumption | rfl) ?_
    refine J_vi2 qX6_isLetter_19 kX6_100 (by assumption) (m_byteAt (d := d) hM0 ht hT (k := p) (by omega)) (Nat.le_of_ble_eq_true rfl) (fun v1 μ' hr => ?_)
    obtain ⟨rfl, rfl⟩ := hr
    refine J_pushI qX6_isLetter_22 ?_
    refine J_pushI qX6_isLetter_24 ?_
    refine J_si3 qX6_isLetter_26 kX6_75 (m_in (d := d) (btM T p) (nI 97) (nI 122)) (Nat.le_of_ble_eq_true rfl) (fun v1 μ' hr => ?_)
    rw [← inB_let T c] at hr
    obtain ⟨rfl, rfl⟩ := hr
    cases hb : isLet T p with
    | false =>
      first | refine J_if_eq qX6_isLetter_29 (fun _ => ?_) (fun c => absurd b2i_f0 c) | refine J_if_eq qX6_isLetter_29 (fun c => absurd c b2i_t0) (fun _ => ?_)
      refine J_pushI qX6_isLetter_36 ?_
      refine Jz_ret qX6_isLetter_37 (by first | exact Or.inl rfl | exact Or.inr rfl | assumption) ?_
      exact ⟨rfl, rfl⟩
    | true =>
      first | refine J_if_eq qX6_isLetter_29 (fun _ => ?_) (fun c => absurd b2i_f0 c) | refine J_if_eq qX6_isLetter_29 (fun c => absurd c b2i_t0) (fun _ => ?_)
      refine J_pushI qX6_isLetter_32 ?_
      refine J_goto qX6_isLetter_33 ?_
      refine Jz_ret qX6_isLetter_37 (by first | exact Or.inl rfl | exact Or.inr rfl | assumption) ?_
      exact ⟨rfl, rfl⟩
theorem m_isFigure (hM : LayM G) (ht : t < 4) (hT : MT μ t T) {k : Nat} (hk : k < 1000) : Si mX6_isFigure (d+1) [.ref 198, .int (nI t), .int (nI k)] G μ (fun r μ' => μ = μ' ∧ r = b2i (isFig T k)) := by
  have hM0 := hM
  obtain ⟨mO, ⟨f2, f3, f4, f5, f6, f7, -⟩, ⟨b199, b200, b201, b202, b203, b204, -⟩⟩ := hM
  have e1 := hT.1
  have e2 := hT.2.1
  refine Si_of (ls := [.ref 198, .int (nI t), .int (nI k)]) (by decide +kernel) (Nat.le_of_ble_eq_true rfl) rfl ?_
  refine J_iload_n (i := 2) qX6_isFigure_0 rfl rfl ?_
  refine J_aload_n (i := 0) qX6_isFigure_1 rfl rfl ?_
  refine J_getR qX6_isFigure_2 fX6_22 (by assumption) (by assumption) ?_
  refine J_iload_n (i := 1) qX6_isFigure_5 rfl rfl ?_
  refine J_ialde qX6_isFigure_6 (by assumption) rfl (by omega) (by (repeat first | with_reducible exact wI_e _ _ _ _ | (with_reducible apply rd_s; focus omega) | (with_reducible apply rd_c; focus omega) | (with_reducible apply rd_k; focus omega) | with_reducible exact rd_e (by omega)); first | done | assumption | rfl) ?_
  first | with_reducible refine J_icmp_ge_n qX6_isFigure_7 (by omega) (by omega) (fun c => ?_) (fun c => ?_) | refine J_icmp_ge qX6_isFigure_7 (fun c => ?_) (fun c => ?_)
  · refine J_pushI qX6_isFigure_30 ?_
    refine Jz_ret qX6_isFigure_31 (by first | exact Or.inl rfl | exact Or.inr rfl | assumption) ?_
    exact ⟨rfl, b2i_f (decide_eq_false (fun q => absurd q.1 (by omega)))⟩
  · refine J_aload_n (i := 0) qX6_isFigure_10 rfl rfl ?_
    refine J_iload_n (i := 1) qX6_isFigure_11 rfl rfl ?_
    refine J_iload_n (i := 2) qX6_isFigure_12 rfl rfl ?_
    refine J_vi2 qX6_isFigure_13 kX6_100 (by assumption) (m_byteAt (d := d) hM0 ht hT (k := k) hk) (Nat.le_of_ble_eq_true rfl) (fun v1 μ' hr => ?_)
    obtain ⟨rfl, rfl⟩ := hr
    refine J_pushI qX6_isFigure_16 ?_
    refine J_pushI qX6_isFigure_18 ?_
    refine J_si3 qX6_isFigure_20 kX6_75 (m_in (d := d) (btM T k) (nI 48) (nI 57)) (Nat.le_of_ble_eq_true rfl) (fun v1 μ' hr => ?_)
    rw [← inB_fig T c] at hr
    obtain ⟨rfl, rfl⟩ := hr
    cases hb : isFig T k with
    | false =>
      first | refine J_if_eq qX6_isFigure_23 (fun _ => ?_) (fun c => absurd b2i_f0 c) | refine J_if_eq qX6_isFigure_23 (fun c => absurd c b2i_t0) (fun _ => ?_)
      refine J_pushI qX6_isFigure_30 ?_
      refine Jz_ret qX6_isFigure_31 (by first | exact Or.inl rfl | exact Or.inr rfl | assumption) ?_
      exact ⟨rfl, rfl⟩
    | true =>
      first | refine J_if_eq qX6_isFigure_23 (fun _ => ?_) (fun c => absurd b2i_f0 c) | refine J_if_eq qX6_isFigure_23 (fun c => absurd c b2i_t0) (fun _ => ?_)
      refine J_pushI qX6_isFigure_26 ?_
      refine J_goto qX6_isFigure_27 ?_
      refine Jz_ret qX6_isFigure_31 (by first | exact Or.inl rfl | exact Or.inr rfl | assumption) ?_
      exact ⟨rfl, rfl⟩
end MM
