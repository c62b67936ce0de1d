/-! COMPONENT: copy, text, put, hash, told -/
theorem RelX.txt {μ μ' : Mm} {s : St} {j : Nat} {v : Rw} (h : RelX μ s) (hF : ∀ c k, ¬ (Pst (157 + 2 * j) c k ∨ (16 ≤ c ∧ c ≤ 31)) → μ'.1 c k = μ.1 c k) (hG : μ'.2 = μ.2) (hj : j < 4) (hv : AbS μ' (157 + 2 * j) 120 v) : RelX μ' (uTxt s j v) ∧ FrX μ μ' := by
  obtain ⟨h1, h2, h3, h4, h5, h6, h7⟩ := (RelX_eq μ s).mp h
  have ag : ∀ lo hi, (hi < 157 + 2 * j ∨ 158 + 2 * j < lo) → (hi < 16 ∨ 31 < lo) → Ag μ μ' lo hi := fun lo hi a a2 c k x y => hF _ _ (fun q => by unfold Pst at q; omega)
  refine ⟨(RelX_eq _ _).mpr ⟨h1.ag (ag _ _ (by omega) (by omega)), fun r hr => ?_, h3.ag (ag _ _ (by omega) (by omega)), h4.ag (ag _ _ (by omega) (by omega)) (ag _ _ (by omega) (by omega)), ⟨?_, ?_, ?_, fun g hg => ?_⟩, h6.ag h3.2.2.1.2.1 ?_ (ag _ _ (by omega) (by omega)), h7⟩, fun c k hc => ?_, fun c k hc => ?_⟩
  · show AbS μ' (157 + 2 * r) 120 (fup (sTx s) j v r)
    by_cases e : r = j
    · subst e; rw [fup_e]; exact hv
    · rw [fup_n e]; exact (h2 r hr).ag (ag _ _ (by omega) (by omega))
  · rw [hF _ _ (fun q => by unfold Pst at q; omega)]; exact h5.1
  · rw [hG]; exact h5.2.1
  · rw [hF _ _ (fun q => by unfold Pst at q; omega)]; exact h5.2.2.1
  · rw [hF _ _ (fun q => by unfold Pst at q; omega)]; exact h5.2.2.2 g hg
  · rw [hF _ _ (fun q => by unfold Pst at q; omega)]
  · exact hF _ _ (fun q => by unfold Pst at q; omega)
  · rw [hG]
theorem RelX.free {μ μ' : Mm} {s : St} (h : RelX μ s) (hF : ∀ c k, ¬ ((16 ≤ c ∧ c ≤ 31) ∨ (88 ≤ c ∧ c ≤ 143)) → μ'.1 c k = μ.1 c k) (hG : ∀ c k, (c < 16 ∨ 143 < c) → μ'.2 c k = μ.2 c k) : RelX μ' s ∧ FrX μ μ' := by
  obtain ⟨h1, h2, h3, h4, h5, h6, h7⟩ := (RelX_eq μ s).mp h
  have ag : ∀ lo hi, (hi < 16 ∨ (31 < lo ∧ hi < 88) ∨ 143 < lo) → Ag μ μ' lo hi := fun lo hi a c k x y => hF _ _ (by omega)
  refine ⟨(RelX_eq _ _).mpr ⟨h1.ag (ag _ _ (by omega)), h2.ag (ag _ _ (by omega)), h3.ag (ag _ _ (by omega)), h4.ag (ag _ _ (by omega)) (ag _ _ (by omega)), ⟨?_, ?_, ?_, fun g hg => ?_⟩, h6.ag h3.2.2.1.2.1 ?_ (ag _ _ (by omega)), h7⟩, fun c k hc => hF _ _ (by omega), fun c k hc => hG _ _ (by omega)⟩
  · rw [hF _ _ (by omega)]; exact h5.1
  · rw [hG _ _ (by omega)]; exact h5.2.1
  · rw [hF _ _ (by omega)]; exact h5.2.2.1
  · rw [hF _ _ (by omega)]; exact h5.2.2.2 g hg
  · rw [hF _ _ (by omega)]
def textS (s : St) (t n : Int32) : Int32 × St :=
  if hasB 4 t = false ∨ nI 120 < n then (-1, s) else if n < 0 then (-3, uFnd s 5) else (n, uTxt s (ix t) (some (List.replicate (ix n) (nI 32))))
def putS (s : St) (t i v : Int32) : Int32 × St :=
  if hasB 4 t = false then (-1, s) else match sTx s (ix t) with
    | none => (-3, uFnd s 1)
    | some l => if hasB l.length i = false then (-3, uFnd s 2) else (l.getD (ix i) 0 + nI 1000, uTxt s (ix t) (some (l.set (ix i) v.toInt8.toInt32)))
def cpL (l m : List Int32) (i j n : Nat) : List Int32 := (List.range m.length).map (fun k => if j ≤ k ∧ k < j + n then l.getD (i + (k - j)) 0 else m.getD k 0)
def copyS (s : St) (r i t j n : Int32) : Int32 × St :=
  if hasB 6 r = false ∨ hasB 6 t = false then (-1, s) else if n < 0 then (-3, uFnd s 5) else match sRw s (ix r), sRw s (ix t) with
    | some l, some m => if fromB l.length i n && fromB m.length j n then (nI 1, uRow s (ix t) (some (cpL l m (ix i) (ix j) (ix n)))) else (-3, uFnd s 2)
    | _, _ => (-3, uFnd s 1)
def hashR (l : List Int32) : Nat → Int32
  | 0 => nI 0
  | m + 1 => nI 31 * hashR l m + (nI 97 + l.getD m 0)
theorem hashR_succ (l : List Int32) (m : Nat) : hashR l (m + 1) = nI 31 * hashR l m + (nI 97 + l.getD m 0) := rfl
def letB (l : List Int32) : Bool := decide (∀ k, k < l.length → hasB 26 (l.getD k 0) = true)
def hashS (s : St) (r : Int32) : Int32 × St :=
  if hasB 6 r = false then (-1, s) else match sRw s (ix r) with
    | none => (-3, uFnd s 1)
    | some l => if l.length < 1 ∨ 6 < l.length then (-3, uFnd s 5) else if letB l then (nI 1, uAsk s (hashR l l.length)) else (-3, uFnd s 3)
def toldS (s : St) (i w : Int32) : Int32 × St :=
  if hasB (sP s).1.length i && hasB 4 w then (nI 1, uAsk s (valF (sP s).1 (ix i) (ix w))) else (-1, s)
theorem cpL_len (l m : List Int32) (i j n : Nat) : (cpL l m i j n).length = m.length := by unfold cpL; simp
theorem cpL_at {l m : List Int32} {i j n k : Nat} (h : k < m.length) : (cpL l m i j n).getD k 0 = if j ≤ k ∧ k < j + n then l.getD (i + (k - j)) 0 else m.getD k 0 := by
  unfold cpL
  rw [List.getD_eq_getElem?_getD, List.getElem?_map, List.getElem?_range h]
  rfl
theorem fromB_of {L : Nat} {i n : Int32} (hL : L ≤ 120) (h : fromB L i n = true) : ∃ a c, i = nI a ∧ n = nI c ∧ a + c ≤ L := by
  have h1 := of_decide_eq_true h
  refine ⟨i.toInt.toNat, n.toInt.toNat, i32_inj ?_, i32_inj ?_, by omega⟩
  · rw [nI_toInt (by omega)]; omega
  · rw [nI_toInt (by omega)]; omega
section XX
variable {s : St} {j : Nat} {l : List Int32}
theorem putS_n (hb : hasB 4 (nI j) = true) (hj : j < 4) (ho : sTx s j = none) (i v : Int32) : putS s (nI j) i v = (-3, uFnd s 1) := by
  unfold putS; rw [if_neg (by rw [hb]; decide), ix_n (by omega), ho]
theorem putS_s (hb : hasB 4 (nI j) = true) (hj : j < 4) (ho : sTx s j = some l) (i v : Int32) : putS s (nI j) i v = if hasB l.length i = false then (-3, uFnd s 2) else (l.getD (ix i) 0 + nI 1000, uTxt s j (some (l.set (ix i) v.toInt8.toInt32))) := by
  unfold putS; rw [if_neg (by rw [hb]; decide), ix_n (by omega), ho]
theorem hashS_n (hb : hasB 6 (nI j) = true) (hj : j < 6) (ho : sRw s j = none) : hashS s (nI j) = (-3, uFnd s 1) := by
  unfold hashS; rw [if_neg (by rw [hb]; decide), ix_n (by omega), ho]
theorem hashS_s (hb : hasB 6 (nI j) = true) (hj : j < 6) (ho : sRw s j = some l) : hashS s (nI j) = if l.length < 1 ∨ 6 < l.length then (-3, uFnd s 5) else if letB l then (nI 1, uAsk s (hashR l l.length)) else (-3, uFnd s 3) := by
  unfold hashS; rw [if_neg (by rw [hb]; decide), ix_n (by omega), ho]
end XX
theorem copyS_bad {s : St} {r i t j n : Int32} (h : hasB 6 r = false ∨ hasB 6 t = false) : copyS s r i t j n = (-1, s) := if_pos h
theorem copyS_neg {s : St} {r i t j n : Int32} (h : ¬ (hasB 6 r = false ∨ hasB 6 t = false)) (hn : n < 0) : copyS s r i t j n = (-3, uFnd s 5) := (if_neg h).trans (if_pos hn)
theorem copyS_no {s : St} {i j n : Int32} {r t : Nat} (h : ¬ (hasB 6 (nI r) = false ∨ hasB 6 (nI t) = false)) (hr : r < 6) (ht : t < 6) (hn : ¬ n < 0) (ho : sRw s r = none ∨ sRw s t = none) : copyS s (nI r) i (nI t) j n = (-3, uFnd s 1) := by
  unfold copyS; rw [if_neg h, if_neg hn, ix_n (by omega), ix_n (by omega)]
  rcases ho with ho | ho
  · rw [ho]
  · rw [ho]; cases sRw s r <;> rfl
theorem copyS_so {s : St} {i j n : Int32} {r t : Nat} {l m : List Int32} (h : ¬ (hasB 6 (nI r) = false ∨ hasB 6 (nI t) = false)) (hr : r < 6) (ht : t < 6) (hn : ¬ n < 0) (h1 : sRw s r = some l) (h2 : sRw s t = some m) : copyS s (nI r) i (nI t) j n = if fromB l.length i n && fromB m.length j n then (nI 1, uRow s t (some (cpL l m (ix i) (ix j) (ix n)))) else (-3, uFnd s 2) := by
  unfold copyS; rw [if_neg h, if_neg hn, ix_n (by omega), ix_n (by omega), h1, h2]
section XX
variable {G : Gm} {μ : Mm} {d : Nat} {s : St}
theorem x_text (hL : LayX G) (h : RelX μ s) (r n : Int32) : Si mX5_text (d+2) [.ref 0, .int r, .int n] G μ (fun v μ' => v = (textS s r n).1 ∧ RelX μ' (textS s r n).2 ∧ FrX μ μ') := by
  have hL0 := hL
  obtain ⟨hO, ⟨q0, q1, q2, q3, q4, q5, q6, q7, q8, q9, q10⟩, ⟨a1, a2, a3, a4, a5⟩, -, htx, -⟩ := hL
  have bad : (hasB 4 r = false ∨ nI 120 < n) → J mX5_text (d+2) (0, 0) s0 (Ki G (fun v μ' => v = (textS s r n).1 ∧ RelX μ' (textS s r n).2 ∧ FrX μ μ')) (0, 0) 13 [.ref 0, .int r, .int n] [] (G, μ) := fun hb => by
    refine J_pushI qX5_text_13 ?_
    refine Ji_ret qX5_text_14 ?_
    rw [show textS s r n = (-1, s) from if_pos hb]
    exact ⟨rfl, h, FrX.rf⟩
  refine Si_of (ls := [.ref 0, .int r, .int n]) (by decide +kernel) (Nat.le_of_ble_eq_true rfl) rfl ?_
  refine J_iload_n (i := 1) qX5_text_0 rfl rfl ?_
  refine J_si1 qX5_text_1 kX5_124 (x_isText r) (Nat.le_of_ble_eq_true rfl) (fun v μ' hr => ?_)
  obtain ⟨rfl, rfl⟩ := hr
  cases hb : hasB 4 r with
  | false =>
    first | refine J_if_eq qX5_text_4 (fun _ => ?_) (fun c => absurd b2i_f0 c) | refine J_if_eq qX5_text_4 (fun c => absurd c b2i_t0) (fun _ => ?_)
    exact bad (Or.inl hb)
  | true =>
    first | refine J_if_eq qX5_text_4 (fun _ => ?_) (fun c => absurd b2i_f0 c) | refine J_if_eq qX5_text_4 (fun c => absurd c b2i_t0) (fun _ => ?_)
    obtain ⟨j, hj, rfl⟩ := hasB_of (by omega) hb
    refine J_iload_n (i := 2) qX5_text_7 rfl rfl ?_
    refine J_pushI qX5_text_8 ?_
    first | with_reducible refine J_icmp_le_n qX5_text_10 (by omega) (by omega) (fun c1 => ?_) (fun c1 => ?_) | refine J_icmp_le qX5_text_10 (fun c1 => ?_) (fun c1 => ?_)
    · have e1 : textS s (nI j) n = if n < 0 then (-3, uFnd s 5) else (n, uTxt s (ix (nI j)) (some (List.replicate (ix n) (nI 32)))) := if_neg (fun z => z.elim (fun y => by rw [hb] at y; cases y) (fun y => absurd c1 (Int32.not_le.mpr y)))
      rw [e1]
      refine J_iload_n (i := 2) qX5_text_15 rfl rfl ?_
      first | with_reducible refine J_if_ge_n qX5_text_16 (by omega) ?_ | refine J_if_ge qX5_text_16 (fun c2 => ?_) (fun c2 => ?_)
      · rw [if_neg (Int32.not_lt.mpr c2)]
        obtain ⟨k, hk, rfl⟩ : ∃ k, k ≤ 120 ∧ n = nI k := nI_of2 (M := nI 120) rfl (Int32.not_lt.mpr c2) c1
        obtain ⟨w1, w2⟩ := htx j hj
        have w3 := w2.1
        refine J_aload_n (i := 0) qX5_text_25 rfl rfl ?_
        refine J_getR qX5_text_26 fX5_15 (by assumption) (by assumption) ?_
        refine J_iload_n (i := 1) qX5_text_29 rfl rfl ?_
        refine J_aald qX5_text_30 (by assumption) (by decide) (by decide) rfl (by omega) (by first | assumption | exact (by assumption : ∀ _, _) _ (by omega)) ?_
        refine J_iload_n (i := 2) qX5_text_31 rfl rfl ?_
        refine J_pushI qX5_text_32 ?_
        refine J_vv2 qX5_text_34 kX5_90 (by assumption) (s_fill (d := d) w2 (by omega) hk (nI 32)) (Nat.le_of_ble_eq_true rfl) (fun ν hr => ?_)
        obtain ⟨g1, g2⟩ := hr
        refine J_iload_n (i := 2) qX5_text_37 rfl rfl ?_
        refine Ji_ret qX5_text_38 ?_
        rw [ix_n (by omega), ix_n (by omega)]
        exact ⟨rfl, h.txt (fun c k z => g2.1 c k (fun y => z (Or.inl y))) g2.2 hj g1⟩
      · rw [if_pos (i32_nle c2)]
        refine J_aload_n (i := 0) qX5_text_19 rfl rfl ?_
        refine J_pushI qX5_text_20 ?_
        refine J_vi1 qX5_text_21 kX5_86 (by assumption) (x_found (d := d + 1) hL0 h (f := 5) (by omega)) (Nat.le_of_ble_eq_true rfl) (fun v ν hr => ?_)
        refine Ji_ret qX5_text_24 ?_
        exact hr
    · exact bad (Or.inr (i32_nle c1))
theorem x_put (hL : LayX G) (h : RelX μ s) (r i v : Int32) : Si mX5_put (d+1) [.ref 0, .int r, .int i, .int v] G μ (fun q μ' => q = (putS s r i v).1 ∧ RelX μ' (putS s r i v).2 ∧ FrX μ μ') := by
  have hL0 := hL
  obtain ⟨hO, ⟨q0, q1, q2, q3, q4, q5, q6, q7, q8, q9, q10⟩, ⟨a1, a2, a3, a4, a5⟩, -, htx, -⟩ := hL
  refine Si_of (ls := [.ref 0, .int r, .int i, .int v, .null]) (by decide +kernel) (Nat.le_of_ble_eq_true rfl) rfl ?_
  refine J_iload_n (i := 1) qX5_put_0 rfl rfl ?_
  refine J_si1 qX5_put_1 kX5_124 (x_isText r) (Nat.le_of_ble_eq_true rfl) (fun v1 μ' hr => ?_)
  obtain ⟨rfl, rfl⟩ := hr
  cases hb : hasB 4 r with
  | false =>
    first | refine J_if_ne qX5_put_4 (fun c => absurd b2i_f0 c) (fun _ => ?_) | refine J_if_ne qX5_put_4 (fun _ => ?_) (fun c => absurd c b2i_t0)
    refine J_pushI qX5_put_7 ?_
    refine Ji_ret qX5_put_8 ?_
    rw [show putS s r i v = (-1, s) from if_pos hb]
    exact ⟨rfl, h, FrX.rf⟩
  | true =>
    first | refine J_if_ne qX5_put_4 (fun c => absurd b2i_f0 c) (fun _ => ?_) | refine J_if_ne qX5_put_4 (fun _ => ?_) (fun c => absurd c b2i_t0)
    obtain ⟨j, hj, rfl⟩ := hasB_of (by omega) hb
    obtain ⟨w1, w2⟩ := htx j hj
    have w3 := w2.1
    have w4 := w2.2.1
    have w5 := w2.2.2
    have hA := h.2.1 j hj
    refine J_aload_n (i := 0) qX5_put_9 rfl rfl ?_
    refine J_getR qX5_put_10 fX5_15 (by assumption) (by assumption) ?_
    refine J_iload_n (i := 1) qX5_put_13 rfl rfl ?_
    refine J_aald qX5_put_14 (by assumption) (by decide) (by decide) rfl (by omega) (by first | assumption | exact (by assumption : ∀ _, _) _ (by omega)) ?_
    refine J_vi0 qX5_put_15 kX5_94 (by assumption) (s_isMissing (d := d) w2 (by omega) hA) (Nat.le_of_ble_eq_true rfl) (fun v1 μ' hr => ?_)
    obtain ⟨rfl, rfl⟩ := hr
    cases hm : sTx s j with
    | none =>
      refine J_if_eq qX5_put_18 (fun c => absurd c b2i_t0) (fun c => ?_)
      rw [putS_n hb hj hm]
      refine J_aload_n (i := 0) qX5_put_21 rfl rfl ?_
      refine J_pushI qX5_put_22 ?_
      refine J_vi1 qX5_put_23 kX5_86 (by assumption) (x_found (d := d) hL0 h (f := 1) (by omega)) (Nat.le_of_ble_eq_true rfl) (fun v1 ν hr => ?_)
      refine Ji_ret qX5_put_26 ?_
      exact hr
    | some l =>
      refine J_if_eq qX5_put_18 (fun c => ?_) (fun c => absurd b2i_f0 c)
      rw [hm] at hA
      rw [putS_s hb hj hm]
      refine J_aload_n (i := 0) qX5_put_27 rfl rfl ?_
      refine J_getR qX5_put_28 fX5_15 (by assumption) (by assumption) ?_
      refine J_iload_n (i := 1) qX5_put_31 rfl rfl ?_
      refine J_aald qX5_put_32 (by assumption) (by decide) (by decide) rfl (by omega) (by first | assumption | exact (by assumption : ∀ _, _) _ (by omega)) ?_
      refine J_iload_n (i := 2) qX5_put_33 rfl rfl ?_
      refine J_vi1 qX5_put_34 kX5_98 (by assumption) (s_has (d := d) w2 (by omega) hA i) (Nat.le_of_ble_eq_true rfl) (fun v1 μ' hr => ?_)
      obtain ⟨rfl, rfl⟩ := hr
      cases hi : hasB l.length i with
      | false =>
        first | refine J_if_ne qX5_put_37 (fun c => absurd b2i_f0 c) (fun _ => ?_) | refine J_if_ne qX5_put_37 (fun _ => ?_) (fun c => absurd c b2i_t0)
        rw [if_pos rfl]
        refine J_aload_n (i := 0) qX5_put_40 rfl rfl ?_
        refine J_pushI qX5_put_41 ?_
        refine J_vi1 qX5_put_42 kX5_86 (by assumption) (x_found (d := d) hL0 h (f := 2) (by omega)) (Nat.le_of_ble_eq_true rfl) (fun v1 ν hr => ?_)
        refine Ji_ret qX5_put_45 ?_
        exact hr
      | true =>
        first | refine J_if_ne qX5_put_37 (fun c => absurd b2i_f0 c) (fun _ => ?_) | refine J_if_ne qX5_put_37 (fun _ => ?_) (fun c => absurd c b2i_t0)
        rw [if_neg (by decide)]
        have l40 := hA.2.1
        obtain ⟨k, hk, rfl⟩ := hasB_of (by omega) hi
        have e := hA.2.2 k hk
        refine J_aload_n (i := 0) qX5_put_46 rfl rfl ?_
        refine J_getR qX5_put_47 fX5_15 (by assumption) (by assumption) ?_
        refine J_iload_n (i := 1) qX5_put_50 rfl rfl ?_
        refine J_aald qX5_put_51 (by assumption) (by decide) (by decide) rfl (by omega) (by first | assumption | exact (by assumption : ∀ _, _) _ (by omega)) ?_
        refine J_getR qX5_put_52 fX5_101 (by assumption) (by assumption) ?_
        refine J_iload_n (i := 2) qX5_put_55 rfl rfl ?_
        refine J_ialde qX5_put_56 (by assumption) rfl (by omega) (by (repeat first | with_reducible exact wI_e _ _ _ _ | (with_reducible apply rd_s; focus omega) | (with_reducible apply rd_c; focus omega) | (with_reducible apply rd_k; focus omega) | with_reducible exact rd_e (by omega)); first | done | assumption | rfl) ?_
        refine J_ist4 qX5_put_57 (Nat.le_of_ble_eq_true rfl) rfl ?_
        refine J_aload_n (i := 0) qX5_put_59 rfl rfl ?_
        refine J_getR qX5_put_60 fX5_15 (by assumption) (by assumption) ?_
        refine J_iload_n (i := 1) qX5_put_63 rfl rfl ?_
        refine J_aald qX5_put_64 (by assumption) (by decide) (by decide) rfl (by omega) (by first | assumption | exact (by assumption : ∀ _, _) _ (by omega)) ?_
        refine J_getR qX5_put_65 fX5_101 (by assumption) (by assumption) ?_
        refine J_iload_n (i := 2) qX5_put_68 rfl rfl ?_
        refine J_iload_n (i := 3) qX5_put_69 rfl rfl ?_
        refine J_i2b qX5_put_70 ?_
        refine J_iast qX5_put_71 (by assumption) rfl (by omega) ?_
        refine J_iload (i := 4) qX5_put_72 rfl ?_
        refine J_pushI qX5_put_74 ?_
        refine J_iadd qX5_put_77 ?_
        refine Ji_ret qX5_put_78 ?_
        rw [ix_n (by omega)]
        exact ⟨rfl, h.txt (v := some (l.set k v.toInt8.toInt32)) (fun c q z => wI_n (fun y => z (Or.inl (Or.inr y.1)))) rfl hj (hA.set hk _)⟩
theorem x_copy (hL : LayX G) (h : RelX μ s) (r i t j n : Int32) : Si mX5_copy (d+1) [.ref 0, .int r, .int i, .int t, .int j, .int n] G μ (fun q μ' => q = (copyS s r i t j n).1 ∧ RelX μ' (copyS s r i t j n).2 ∧ FrX μ μ') := by
  have hL0 := hL
  obtain ⟨hO, ⟨q0, q1, q2, q3, q4, q5, q6, q7, q8, q9, q10⟩, ⟨a1, a2, a3, a4, a5⟩, hrw, -⟩ := hL
  have bad : (hasB 6 r = false ∨ hasB 6 t = false) → J mX5_copy (d+1) (0, 0) s0 (Ki G (fun q μ' => q = (copyS s r i t j n).1 ∧ RelX μ' (copyS s r i t j n).2 ∧ FrX μ μ')) (0, 0) 14 [.ref 0, .int r, .int i, .int t, .int j, .int n] [] (G, μ) := fun hb => by
    refine J_pushI qX5_copy_14 ?_
    refine Ji_ret qX5_copy_15 ?_
    rw [copyS_bad hb]
    exact ⟨rfl, h, FrX.rf⟩
  refine Si_of (ls := [.ref 0, .int r, .int i, .int t, .int j, .int n]) (by decide +kernel) (Nat.le_of_ble_eq_true rfl) rfl ?_
  refine J_iload_n (i := 1) qX5_copy_0 rfl rfl ?_
  refine J_si1 qX5_copy_1 kX5_82 (x_isRow r) (Nat.le_of_ble_eq_true rfl) (fun v1 μ' hr => ?_)
  obtain ⟨rfl, rfl⟩ := hr
  cases hb : hasB 6 r with
  | false =>
    first | refine J_if_eq qX5_copy_4 (fun _ => ?_) (fun c => absurd b2i_f0 c) | refine J_if_eq qX5_copy_4 (fun c => absurd c b2i_t0) (fun _ => ?_)
    exact bad (Or.inl hb)
  | true =>
    first | refine J_if_eq qX5_copy_4 (fun _ => ?_) (fun c => absurd b2i_f0 c) | refine J_if_eq qX5_copy_4 (fun c => absurd c b2i_t0) (fun _ => ?_)
    refine J_iload_n (i := 3) qX5_copy_7 rfl rfl ?_
    refine J_si1 qX5_copy_8 kX5_82 (x_isRow t) (Nat.le_of_ble_eq_true rfl) (fun v1 μ' hr => ?_)
    obtain ⟨rfl, rfl⟩ := hr
    cases hb2 : hasB 6 t with
    | false =>
      first | refine J_if_ne qX5_copy_11 (fun c => absurd b2i_f0 c) (fun _ => ?_) | refine J_if_ne qX5_copy_11 (fun _ => ?_) (fun c => absurd c b2i_t0)
      exact bad (Or.inr hb2)
    | true =>
      first | refine J_if_ne qX5_copy_11 (fun c => absurd b2i_f0 c) (fun _ => ?_) | refine J_if_ne qX5_copy_11 (fun _ => ?_) (fun c => absurd c b2i_t0)
      have hb3 : ¬ (hasB 6 r = false ∨ hasB 6 t = false) := by rw [hb, hb2]; decide
      obtain ⟨a, ha, rfl⟩ := hasB_of (by omega) hb
      obtain ⟨c, hc, rfl⟩ := hasB_of (by omega) hb2
      obtain ⟨w1, w2⟩ := hrw a ha
      have w3 := w2.1
      have w4 := w2.2.1
      have w5 := w2.2.2
      obtain ⟨u1, u2⟩ := hrw c hc
      have u3 := u2.1
      have u4 := u2.2.1
      have u5 := u2.2.2
      have hA := h.1 a ha
      have hC := h.1 c hc
      refine J_iload (i := 5) qX5_copy_16 rfl ?_
      first | with_reducible refine J_if_ge_n qX5_copy_18 (by omega) ?_ | refine J_if_ge qX5_copy_18 (fun c1 => ?_) (fun c1 => ?_)
      · have hn0 : ¬ n < 0 := Int32.not_lt.mpr c1
        have nog : (sRw s a = none ∨ sRw s c = none) → J mX5_copy (d+1) (0, 0) s0 (Ki G (fun q μ' => q = (copyS s (nI a) i (nI c) j n).1 ∧ RelX μ' (copyS s (nI a) i (nI c) j n).2 ∧ FrX μ μ')) (0, 0) 51 [.ref 0, .int (nI a), .int i, .int (nI c), .int j, .int n] [] (G, μ) := fun ho => by
          rw [copyS_no hb3 ha hc hn0 ho]
          refine J_aload_n (i := 0) qX5_copy_51 rfl rfl ?_
          refine J_pushI qX5_copy_52 ?_
          refine J_vi1 qX5_copy_53 kX5_86 (by assumption) (x_found (d := d) hL0 h (f := 1) (by omega)) (Nat.le_of_ble_eq_true rfl) (fun v1 ν hr => ?_)
          refine Ji_ret qX5_copy_56 ?_
          exact hr
        refine J_aload_n (i := 0) qX5_copy_27 rfl rfl ?_
        refine J_getR qX5_copy_28 fX5_11 (by assumption) (by assumption) ?_
        refine J_iload_n (i := 1) qX5_copy_31 rfl rfl ?_
        refine J_aald qX5_copy_32 (by assumption) (by decide) (by decide) rfl (by omega) (by first | assumption | exact (by assumption : ∀ _, _) _ (by omega)) ?_
        refine J_vi0 qX5_copy_33 kX5_94 (by assumption) (s_isMissing (d := d) w2 (by omega) hA) (Nat.le_of_ble_eq_true rfl) (fun v1 μ' hr => ?_)
        obtain ⟨rfl, rfl⟩ := hr
        cases hm : sRw s a with
        | none =>
          refine J_if_ne qX5_copy_36 (fun _ => ?_) (fun z => absurd z b2i_t0)
          exact nog (Or.inl hm)
        | some l =>
          refine J_if_ne qX5_copy_36 (fun z => absurd b2i_f0 z) (fun _ => ?_)
          refine J_aload_n (i := 0) qX5_copy_39 rfl rfl ?_
          refine J_getR qX5_copy_40 fX5_11 (by assumption) (by assumption) ?_
          refine J_iload_n (i := 3) qX5_copy_43 rfl rfl ?_
          refine J_aald qX5_copy_44 (by assumption) (by decide) (by decide) rfl (by omega) (by first | assumption | exact (by assumption : ∀ _, _) _ (by omega)) ?_
          refine J_vi0 qX5_copy_45 kX5_94 (by assumption) (s_isMissing (d := d) u2 (by omega) hC) (Nat.le_of_ble_eq_true rfl) (fun v1 μ' hr => ?_)
          obtain ⟨rfl, rfl⟩ := hr
          cases hm2 : sRw s c with
          | none =>
            refine J_if_eq qX5_copy_48 (fun z => absurd z b2i_t0) (fun _ => ?_)
            exact nog (Or.inr hm2)
          | some m =>
            refine J_if_eq qX5_copy_48 (fun _ => ?_) (fun z => absurd b2i_f0 z)
            rw [hm] at hA
            rw [hm2] at hC
            have beg : (fromB l.length i n && fromB m.length j n) = false → J mX5_copy (d+1) (0, 0) s0 (Ki G (fun q μ' => q = (copyS s (nI a) i (nI c) j n).1 ∧ RelX μ' (copyS s (nI a) i (nI c) j n).2 ∧ FrX μ μ')) (0, 0) 88 [.ref 0, .int (nI a), .int i, .int (nI c), .int j, .int n] [] (G, μ) := fun ho => by
              rw [copyS_so hb3 ha hc hn0 hm hm2, if_neg (by rw [ho]; decide)]
              refine J_aload_n (i := 0) qX5_copy_88 rfl rfl ?_
              refine J_pushI qX5_copy_89 ?_
              refine J_vi1 qX5_copy_90 kX5_86 (by assumption) (x_found (d := d) hL0 h (f := 2) (by omega)) (Nat.le_of_ble_eq_true rfl) (fun v1 ν hr => ?_)
              refine Ji_ret qX5_copy_93 ?_
              exact hr
            refine J_aload_n (i := 0) qX5_copy_57 rfl rfl ?_
            refine J_getR qX5_copy_58 fX5_11 (by assumption) (by assumption) ?_
            refine J_iload_n (i := 1) qX5_copy_61 rfl rfl ?_
            refine J_aald qX5_copy_62 (by assumption) (by decide) (by decide) rfl (by omega) (by first | assumption | exact (by assumption : ∀ _, _) _ (by omega)) ?_
            refine J_iload_n (i := 2) qX5_copy_63 rfl rfl ?_
            refine J_iload (i := 5) qX5_copy_64 rfl ?_
            refine J_vi2 qX5_copy_66 kX5_107 (by assumption) (s_hasFrom (d := d) w2 (by omega) hA i n) (Nat.le_of_ble_eq_true rfl) (fun v1 μ' hr => ?_)
            obtain ⟨rfl, rfl⟩ := hr
            cases hf : fromB l.length i n with
            | false =>
              refine J_if_eq qX5_copy_69 (fun _ => ?_) (fun z => absurd b2i_f0 z)
              exact beg (by rw [hf]; rfl)
            | true =>
              refine J_if_eq qX5_copy_69 (fun z => absurd z b2i_t0) (fun _ => ?_)
              refine J_aload_n (i := 0) qX5_copy_72 rfl rfl ?_
              refine J_getR qX5_copy_73 fX5_11 (by assumption) (by assumption) ?_
              refine J_iload_n (i := 3) qX5_copy_76 rfl rfl ?_
              refine J_aald qX5_copy_77 (by assumption) (by decide) (by decide) rfl (by omega) (by first | assumption | exact (by assumption : ∀ _, _) _ (by omega)) ?_
              refine J_iload (i := 4) qX5_copy_78 rfl ?_
              refine J_iload (i := 5) qX5_copy_80 rfl ?_
              refine J_vi2 qX5_copy_82 kX5_107 (by assumption) (s_hasFrom (d := d) u2 (by omega) hC j n) (Nat.le_of_ble_eq_true rfl) (fun v1 μ' hr => ?_)
              obtain ⟨rfl, rfl⟩ := hr
              cases hf2 : fromB m.length j n with
              | false =>
                refine J_if_ne qX5_copy_85 (fun z => absurd b2i_f0 z) (fun _ => ?_)
                exact beg (by rw [hf, hf2]; rfl)
              | true =>
                refine J_if_ne qX5_copy_85 (fun _ => ?_) (fun z => absurd z b2i_t0)
                rw [copyS_so hb3 ha hc hn0 hm hm2, if_pos (by rw [hf, hf2]; rfl)]
                clear beg nog bad
                have l40 := hA.2.1
                have m40 := hC.2.1
                obtain ⟨x, y, rfl, rfl, hxy⟩ := fromB_of (by omega) hf
                obtain ⟨x2, y2, rfl, e2, hxy2⟩ := fromB_of (by omega) hf2
                have ey : y = y2 := by
                  have := congrArg ix e2
                  rw [ix_n (by omega), ix_n (by omega)] at this
                  exact this
                subst ey
                refine J_aload_n (i := 0) qX5_copy_94 rfl rfl ?_
                refine J_getR qX5_copy_95 fX5_11 (by assumption) (by assumption) ?_
                refine J_iload_n (i := 1) qX5_copy_98 rfl rfl ?_
                refine J_aald qX5_copy_99 (by assumption) (by decide) (by decide) rfl (by omega) (by first | assumption | exact (by assumption : ∀ _, _) _ (by omega)) ?_
                refine J_getR qX5_copy_100 fX5_101 (by assumption) (by assumption) ?_
                refine J_iload_n (i := 2) qX5_copy_103 rfl rfl ?_
                refine J_aload_n (i := 0) qX5_copy_104 rfl rfl ?_
                refine J_getR qX5_copy_105 fX5_11 (by assumption) (by assumption) ?_
                refine J_iload_n (i := 3) qX5_copy_108 rfl rfl ?_
                refine J_aald qX5_copy_109 (by assumption) (by decide) (by decide) rfl (by omega) (by first | assumption | exact (by assumption : ∀ _, _) _ (by omega)) ?_
                refine J_getR qX5_copy_110 fX5_101 (by assumption) (by assumption) ?_
                refine J_iload (i := 4) qX5_copy_113 rfl ?_
                refine J_iload (i := 5) qX5_copy_115 rfl ?_
                refine J_acpy qX5_copy_117 acX5_111 (by assumption) (by assumption) (by omega) (by omega) (Nat.le_of_ble_eq_true rfl) ?_
                refine J_pushI qX5_copy_120 ?_
                refine Ji_ret qX5_copy_121 ?_
                rw [ix_n (by omega), ix_n (by omega), ix_n (by omega)]
                refine ⟨rfl, h.row ⟨fun q k z => cpI_n (fun y => z (Or.inr y.1)), rfl⟩ hc ⟨?_, by rw [cpL_len]; exact m40, fun k hk => ?_⟩⟩
                · rw [cpI_n (by omega), cpL_len]; exact hC.1
                · rw [cpL_len] at hk
                  rw [cpL_at hk]
                  by_cases e : x2 ≤ k ∧ k < x2 + y
                  · rw [if_pos e, cpI_e e.1 e.2]; exact hA.2.2 _ (by omega)
                  · rw [if_neg e, cpI_n (by omega)]; exact hC.2.2 k hk
      · rw [copyS_neg hb3 (i32_nle c1)]
        refine J_aload_n (i := 0) qX5_copy_21 rfl rfl ?_
        refine J_pushI qX5_copy_22 ?_
        refine J_vi1 qX5_copy_23 kX5_86 (by assumption) (x_found (d := d) hL0 h (f := 5) (by omega)) (Nat.le_of_ble_eq_true rfl) (fun v1 ν hr => ?_)
        refine Ji_ret qX5_copy_26 ?_
        exact hr
theorem x_hash (hL : LayX G) (h : RelX μ s) (r : Int32) : Si mX5_hash (d+1) [.ref 0, .int r] G μ (fun q μ' => q = (hashS s r).1 ∧ RelX μ' (hashS s r).2 ∧ FrX μ μ') := by
  have hL0 := hL
  obtain ⟨hO, ⟨q0, q1, q2, q3, q4, q5, q6, q7, q8, q9, q10⟩, ⟨a1, a2, a3, a4, a5⟩, hrw, -⟩ := hL
  refine Si_of (ls := [.ref 0, .int r, .null, .null, .null]) (by decide +kernel) (Nat.le_of_ble_eq_true rfl) rfl ?_
  refine J_iload_n (i := 1) qX5_hash_0 rfl rfl ?_
  refine J_si1 qX5_hash_1 kX5_82 (x_isRow r) (Nat.le_of_ble_eq_true rfl) (fun v1 μ' hr => ?_)
  obtain ⟨rfl, rfl⟩ := hr
  cases hb : hasB 6 r with
  | false =>
    first | refine J_if_ne qX5_hash_4 (fun c => absurd b2i_f0 c) (fun _ => ?_) | refine J_if_ne qX5_hash_4 (fun _ => ?_) (fun c => absurd c b2i_t0)
    refine J_pushI qX5_hash_7 ?_
    refine Ji_ret qX5_hash_8 ?_
    rw [show hashS s r = (-1, s) from if_pos hb]
    exact ⟨rfl, h, FrX.rf⟩
  | true =>
    first | refine J_if_ne qX5_hash_4 (fun c => absurd b2i_f0 c) (fun _ => ?_) | refine J_if_ne qX5_hash_4 (fun _ => ?_) (fun c => absurd c b2i_t0)
    obtain ⟨j, hj, rfl⟩ := hasB_of (by omega) hb
    obtain ⟨w1, w2⟩ := hrw j hj
    have w3 := w2.1
    have w4 := w2.2.1
    have w5 := w2.2.2
    have hA := h.1 j hj
    refine J_aload_n (i := 0) qX5_hash_9 rfl rfl ?_
    refine J_getR qX5_hash_10 fX5_11 (by assumption) (by assumption) ?_
    refine J_iload_n (i := 1) qX5_hash_13 rfl rfl ?_
    refine J_aald qX5_hash_14 (by assumption) (by decide) (by decide) rfl (by omega) (by first | assumption | exact (by assumption : ∀ _, _) _ (by omega)) ?_
    refine J_ast2 qX5_hash_15 (Nat.le_of_ble_eq_true rfl) rfl ?_
    refine J_aload_n (i := 2) qX5_hash_16 rfl rfl ?_
    refine J_vi0 qX5_hash_17 kX5_94 (by assumption) (s_isMissing (d := d) w2 (by omega) hA) (Nat.le_of_ble_eq_true rfl) (fun v1 μ' hr => ?_)
    obtain ⟨rfl, rfl⟩ := hr
    cases hm : sRw s j with
    | none =>
      refine J_if_eq qX5_hash_20 (fun c => absurd c b2i_t0) (fun c => ?_)
      rw [hashS_n hb hj hm]
      refine J_aload_n (i := 0) qX5_hash_23 rfl rfl ?_
      refine J_pushI qX5_hash_24 ?_
      refine J_vi1 qX5_hash_25 kX5_86 (by assumption) (x_found (d := d) hL0 h (f := 1) (by omega)) (Nat.le_of_ble_eq_true rfl) (fun v1 ν hr => ?_)
      refine Ji_ret qX5_hash_28 ?_
      exact hr
    | some l =>
      refine J_if_eq qX5_hash_20 (fun c => ?_) (fun c => absurd b2i_f0 c)
      rw [hm] at hA
      have l40 := hA.2.1
      have e := hA.1
      have sz : (l.length < 1 ∨ 6 < l.length) → J mX5_hash (d+1) (0, 0) s0 (Ki G (fun q μ' => q = (hashS s (nI j)).1 ∧ RelX μ' (hashS s (nI j)).2 ∧ FrX μ μ')) (0, 0) 46 [.ref 0, .int (nI j), .ref (145 + 2 * j), .null, .null] [] (G, μ) := fun hz => by
        rw [hashS_s hb hj hm, if_pos hz]
        refine J_aload_n (i := 0) qX5_hash_46 rfl rfl ?_
        refine J_pushI qX5_hash_47 ?_
        refine J_vi1 qX5_hash_48 kX5_86 (by assumption) (x_found (d := d) hL0 h (f := 5) (by omega)) (Nat.le_of_ble_eq_true rfl) (fun v1 ν hr => ?_)
        refine Ji_ret qX5_hash_51 ?_
        exact hr
      refine J_aload_n (i := 2) qX5_hash_29 rfl rfl ?_
      refine J_getIe qX5_hash_30 fX5_117 (by assumption) (by (repeat first | with_reducible exact wI_e _ _ _ _ | (with_reducible apply rd_s; focus omega) | (with_reducible apply rd_c; focus omega) | (with_reducible apply rd_k; focus omega) | with_reducible exact rd_e (by omega)); first | done | assumption | rfl) ?_
      refine J_pushI qX5_hash_33 ?_
      first | with_reducible refine J_icmp_lt_n qX5_hash_34 (by omega) (by omega) (fun c1 => ?_) (fun c1 => ?_) | refine J_icmp_lt qX5_hash_34 (fun c1 => ?_) (fun c1 => ?_)
      · exact sz (Or.inl c1)
      · refine J_aload_n (i := 2) qX5_hash_37 rfl rfl ?_
        refine J_getIe qX5_hash_38 fX5_117 (by assumption) (by (repeat first | with_reducible exact wI_e _ _ _ _ | (with_reducible apply rd_s; focus omega) | (with_reducible apply rd_c; focus omega) | (with_reducible apply rd_k; focus omega) | with_reducible exact rd_e (by omega)); first | done | assumption | rfl) ?_
        refine J_pushI qX5_hash_41 ?_
        first | with_reducible refine J_icmp_le_n qX5_hash_43 (by omega) (by omega) (fun c2 => ?_) (fun c2 => ?_) | refine J_icmp_le qX5_hash_43 (fun c2 => ?_) (fun c2 => ?_)
        · have bad : letB l = false → J mX5_hash (d+1) (0, 0) s0 (Ki G (fun q μ' => q = (hashS s (nI j)).1 ∧ RelX μ' (hashS s (nI j)).2 ∧ FrX μ μ')) (0, 0) 88 [.ref 0, .int (nI j), .ref (145 + 2 * j), .null, .null] [] (G, μ) := fun hz => by
            rw [hashS_s hb hj hm, if_neg (by omega), if_neg (by rw [hz]; decide)]
            refine J_aload_n (i := 0) qX5_hash_88 rfl rfl ?_
            refine J_pushI qX5_hash_89 ?_
            refine J_vi1 qX5_hash_90 kX5_86 (by assumption) (x_found (d := d) hL0 h (f := 3) (by omega)) (Nat.le_of_ble_eq_true rfl) (fun v1 ν hr => ?_)
            refine Ji_ret qX5_hash_93 ?_
            exact hr
          refine J_pushI qX5_hash_52 ?_
          refine J_ist3 qX5_hash_53 (Nat.le_of_ble_eq_true rfl) rfl ?_
          refine J_pushI qX5_hash_54 ?_
          refine J_ist4 qX5_hash_55 (Nat.le_of_ble_eq_true rfl) rfl ?_
          refine ind_up (n := l.length) (P := fun m => (∀ k, k < m → hasB 26 (l.getD k 0) = true) → J mX5_hash (d+1) (0, 0) s0 (Ki G (fun q μ' => q = (hashS s (nI j)).1 ∧ RelX μ' (hashS s (nI j)).2 ∧ FrX μ μ')) (0, 0) 57 [.ref 0, .int (nI j), .ref (145 + 2 * j), .int (hashR l m), .int (nI m)] [] (G, μ)) (fun m hmn ih hinv => ?_) 0 (Nat.zero_le _) (fun k hk => absurd hk (Nat.not_lt_zero k))
          refine J_iload (i := 4) qX5_hash_57 rfl ?_
          refine J_aload_n (i := 2) qX5_hash_59 rfl rfl ?_
          refine J_getIe qX5_hash_60 fX5_117 (by assumption) (by (repeat first | with_reducible exact wI_e _ _ _ _ | (with_reducible apply rd_s; focus omega) | (with_reducible apply rd_c; focus omega) | (with_reducible apply rd_k; focus omega) | with_reducible exact rd_e (by omega)); first | done | assumption | rfl) ?_
          first | with_reducible refine J_icmp_ge_n qX5_hash_63 (by omega) (by omega) (fun c3 => ?_) (fun c3 => ?_) | refine J_icmp_ge qX5_hash_63 (fun c3 => ?_) (fun c3 => ?_)
          · have em : m = l.length := by omega
            subst em
            rw [hashS_s hb hj hm, if_neg (by omega), if_pos (show letB l = true from decide_eq_true hinv)]
            refine J_aload_n (i := 0) qX5_hash_115 rfl rfl ?_
            refine J_iload_n (i := 3) qX5_hash_116 rfl rfl ?_
            refine J_putI qX5_hash_117 fX5_68p (by assumption) rfl rfl ?_
            refine J_pushI qX5_hash_120 ?_
            refine Ji_ret qX5_hash_121 ?_
            exact ⟨rfl, h.ask _⟩
          · have e3 := hA.2.2 m c3
            have out : hasB 26 (l.getD m 0) = false → J mX5_hash (d+1) (0, 0) s0 (Ki G (fun q μ' => q = (hashS s (nI j)).1 ∧ RelX μ' (hashS s (nI j)).2 ∧ FrX μ μ')) (0, 0) 88 [.ref 0, .int (nI j), .ref (145 + 2 * j), .int (hashR l m), .int (nI m)] [] (G, μ) := fun hz => by
              have hz2 : letB l = false := decide_eq_false (fun q => by rw [q m c3] at hz; cases hz)
              rw [hashS_s hb hj hm, if_neg (by omega), if_neg (by rw [hz2]; decide)]
              refine J_aload_n (i := 0) qX5_hash_88 rfl rfl ?_
              refine J_pushI qX5_hash_89 ?_
              refine J_vi1 qX5_hash_90 kX5_86 (by assumption) (x_found (d := d) hL0 h (f := 3) (by omega)) (Nat.le_of_ble_eq_true rfl) (fun v1 ν hr => ?_)
              refine Ji_ret qX5_hash_93 ?_
              exact hr
            refine J_aload_n (i := 2) qX5_hash_66 rfl rfl ?_
            refine J_getR qX5_hash_67 fX5_101 (by assumption) (by assumption) ?_
            refine J_iload (i := 4) qX5_hash_70 rfl ?_
            refine J_ialde qX5_hash_72 (by assumption) rfl (by omega) (by (repeat first | with_reducible exact wI_e _ _ _ _ | (with_reducible apply rd_s; focus omega) | (with_reducible apply rd_c; focus omega) | (with_reducible apply rd_k; focus omega) | with_reducible exact rd_e (by omega)); first | done | assumption | rfl) ?_
            refine J_if_lt qX5_hash_73 (fun c4 => ?_) (fun c4 => ?_)
            · exact out (decide_eq_false (fun q => absurd q.1 (Int32.not_le.mpr c4)))
            · refine J_aload_n (i := 2) qX5_hash_76 rfl rfl ?_
              refine J_getR qX5_hash_77 fX5_101 (by assumption) (by assumption) ?_
              refine J_iload (i := 4) qX5_hash_80 rfl ?_
              refine J_ialde qX5_hash_82 (by assumption) rfl (by omega) (by (repeat first | with_reducible exact wI_e _ _ _ _ | (with_reducible apply rd_s; focus omega) | (with_reducible apply rd_c; focus omega) | (with_reducible apply rd_k; focus omega) | with_reducible exact rd_e (by omega)); first | done | assumption | rfl) ?_
              refine J_pushI qX5_hash_83 ?_
              refine J_icmp_lt qX5_hash_85 (fun c5 => ?_) (fun c5 => ?_)
              · refine J_iload_n (i := 3) qX5_hash_94 rfl rfl ?_
                refine J_pushI qX5_hash_95 ?_
                refine J_aload_n (i := 2) qX5_hash_97 rfl rfl ?_
                refine J_getR qX5_hash_98 fX5_101 (by assumption) (by assumption) ?_
                refine J_iload (i := 4) qX5_hash_101 rfl ?_
                refine J_ialde qX5_hash_103 (by assumption) rfl (by omega) (by (repeat first | with_reducible exact wI_e _ _ _ _ | (with_reducible apply rd_s; focus omega) | (with_reducible apply rd_c; focus omega) | (with_reducible apply rd_k; focus omega) | with_reducible exact rd_e (by omega)); first | done | assumption | rfl) ?_
                refine J_iadd qX5_hash_104 ?_
                refine J_si2 qX5_hash_105 kX5_143 (x_hashWith (d := d) _ _) (Nat.le_of_ble_eq_true rfl) (fun v1 μ' hr => ?_)
                obtain ⟨rfl, rfl⟩ := hr
                refine J_ist3 qX5_hash_108 (Nat.le_of_ble_eq_true rfl) rfl ?_
                refine J_inc4 qX5_hash_109 (Nat.le_of_ble_eq_true rfl) (by first | with_reducible exact nI_inc _ | rfl) rfl ?_
                refine J_goto qX5_hash_112 ?_
                exact ih c3 (fun k hk => by
                  by_cases q : k = m
                  · rw [q]; exact decide_eq_true ⟨i32_nlt c4, c5⟩
                  · exact hinv k (by omega))
              · exact out (decide_eq_false (fun q => absurd q.2 c5))
        · exact sz (Or.inr c2)
theorem x_told (hL : LayX G) (h : RelX μ s) (i w : Int32) : Si mX5_told (d+1) [.ref 0, .int i, .int w] G μ (fun q μ' => q = (toldS s i w).1 ∧ RelX μ' (toldS s i w).2 ∧ FrX μ μ') := by
  obtain ⟨hO, ⟨q0, q1, q2, q3, q4, q5, q6, q7, q8, q9, q10⟩, -, -, -, -, hp3, -⟩ := hL
  have hpo := hp3.1
  have hX := h.2.2.1
  have l12 := hX.2.2.1.2.1
  have bad : (hasB (sP s).1.length i && hasB 4 w) = false → J mX5_told (d+1) (0, 0) s0 (Ki G (fun q μ' => q = (toldS s i w).1 ∧ RelX μ' (toldS s i w).2 ∧ FrX μ μ')) (0, 0) 20 [.ref 0, .int i, .int w] [] (G, μ) := fun hz => by
    rw [show toldS s i w = (-1, s) from if_neg (by rw [hz]; decide)]
    refine J_pushI qX5_told_20 ?_
    refine Ji_ret qX5_told_21 ?_
    exact ⟨rfl, h, FrX.rf⟩
  refine Si_of (ls := [.ref 0, .int i, .int w]) (by decide +kernel) (Nat.le_of_ble_eq_true rfl) rfl ?_
  refine J_aload_n (i := 0) qX5_told_0 rfl rfl ?_
  refine J_getR qX5_told_1 fX5_21 (by assumption) (by assumption) ?_
  refine J_iload_n (i := 1) qX5_told_4 rfl rfl ?_
  refine J_vi1 qX5_told_5 kX5_147 (by assumption) (p_has (d := d) hp3 hX.1 i) (Nat.le_of_ble_eq_true rfl) (fun v1 μ' hr => ?_)
  obtain ⟨rfl, rfl⟩ := hr
  cases hb : hasB (sP s).1.length i with
  | false =>
    first | refine J_if_eq qX5_told_8 (fun _ => ?_) (fun c => absurd b2i_f0 c) | refine J_if_eq qX5_told_8 (fun c => absurd c b2i_t0) (fun _ => ?_)
    exact bad (by rw [hb]; rfl)
  | true =>
    first | refine J_if_eq qX5_told_8 (fun _ => ?_) (fun c => absurd b2i_f0 c) | refine J_if_eq qX5_told_8 (fun c => absurd c b2i_t0) (fun _ => ?_)
    refine J_iload_n (i := 2) qX5_told_11 rfl rfl ?_
    first | with_reducible refine J_if_lt_n qX5_told_12 (by omega) ?_ | refine J_if_lt qX5_told_12 (fun c1 => ?_) (fun c1 => ?_)
    · exact bad (by rw [show hasB 4 w = false from decide_eq_false (fun q => absurd q.1 (Int32.not_le.mpr c1)), Bool.and_false])
    · refine J_iload_n (i := 2) qX5_told_15 rfl rfl ?_
      refine J_pushI qX5_told_16 ?_
      first | with_reducible refine J_icmp_lt_n qX5_told_17 (by omega) (by omega) (fun c2 => ?_) (fun c2 => ?_) | refine J_icmp_lt qX5_told_17 (fun c2 => ?_) (fun c2 => ?_)
      · have hw : hasB 4 w = true := decide_eq_true ⟨i32_nlt c1, c2⟩
        rw [show toldS s i w = (nI 1, uAsk s (valF (sP s).1 (ix i) (ix w))) from if_pos (by rw [hb, hw]; rfl)]
        obtain ⟨k, hk, rfl⟩ := hasB_of (by omega) hb
        obtain ⟨e, he, rfl⟩ := hasB_of (by omega) hw
        refine J_aload_n (i := 0) qX5_told_22 rfl rfl ?_
        refine J_aload_n (i := 0) qX5_told_23 rfl rfl ?_
        refine J_getR qX5_told_24 fX5_21 (by assumption) (by assumption) ?_
        refine J_iload_n (i := 1) qX5_told_27 rfl rfl ?_
        refine J_iload_n (i := 2) qX5_told_28 rfl rfl ?_
        refine J_vi2 qX5_told_29 kX5_148 (by assumption) (p_valueOf (d := d) hp3 hX.1 hk he) (Nat.le_of_ble_eq_true rfl) (fun v1 μ' hr => ?_)
        obtain ⟨rfl, rfl⟩ := hr
        refine J_putI qX5_told_32 fX5_68p (by assumption) rfl rfl ?_
        refine J_pushI qX5_told_35 ?_
        refine Ji_ret qX5_told_36 ?_
        rw [ix_n (by omega), ix_n (by omega)]
        exact ⟨rfl, h.ask _⟩
      · exact bad (by rw [show hasB 4 w = false from decide_eq_false (fun q => absurd q.2 c2), Bool.and_false])
end XX
