/-! PLAN: laid out, made -/
theorem nI_m1 {m : Nat} (h : m < 2147483648) : ¬ nI m = -1 := fun q => by
  have h1 := nI_toInt (n := m) h
  rw [q, show (-1 : Int32).toInt = -1 from rfl] at h1
  omega
theorem pg_l {a c : List (Nat × Nat × Nat)} {k : Nat} (h : k < a.length) : pg (a ++ c) k = pg a k := by
  unfold pg
  rw [List.getD_eq_getElem?_getD, List.getD_eq_getElem?_getD, List.getElem?_append_left h]
theorem pg_r {a c : List (Nat × Nat × Nat)} {k : Nat} (h : a.length ≤ k) : pg (a ++ c) k = pg c (k - a.length) := by
  unfold pg
  rw [List.getD_eq_getElem?_getD, List.getD_eq_getElem?_getD, List.getElem?_append_right h]
/-- PARTS l, laid from place k on -/
def AtP (μ : Mm) (p k : Nat) (l : List (Nat × Nat × Nat)) : Prop := ∀ e, e < l.length → μ.1 (p + 53) (k + e) = nI (pg l e).1 ∧ μ.1 (p + 54) (k + e) = nI (pg l e).2.1 ∧ μ.1 (p + 55) (k + e) = nI (pg l e).2.2
def Plo (p k : Nat) (c s : Nat) : Prop := (c = p ∧ s = 7) ∨ ((c = p + 53 ∨ c = p + 54 ∨ c = p + 55) ∧ k ≤ s)
def TabAt (μ : Mm) (p : Nat) (cs : List Cs) (rw mk : Bool) (a c : Nat) : Prop := μ.1 (p + 2 + a) c = nI (sortF cs rw mk a c) ∧ μ.1 (p + 15 + a) c = nI (stepF cs rw mk a c) ∧ μ.1 (p + 28 + a) c = nI (pcF cs rw mk a c).1 ∧ μ.1 (p + 41 + a) c = cutV (pcF cs rw mk a c).2
def AbPl (μ : Mm) (p : Nat) (cs : List Cs) (rw mk : Bool) : Prop := (∀ a c, a ≤ c → c < cs.length → TabAt μ p cs rw mk a c) ∧ μ.1 p 7 = nI (prtF cs rw mk).length ∧ μ.1 p 8 = nI (priceF cs rw mk) ∧ AtP μ p 0 (prtF cs rw mk)
section PL
variable {G : Gm} {p b d : Nat} {cs : List Cs} {rw mk : Bool}
theorem l_layOut (hL : IsPl G p) (h12 : cs.length ≤ 12) : ∀ (f i j dp k : Nat) (μ : Mm), j - i < f → i ≤ j → j < cs.length → k ≤ i → dp + (j - i) ≤ 11 → (∀ a c, i ≤ a → a ≤ c → c ≤ j → μ.1 (p + 41 + a) c = cutV (pcF cs rw mk a c).2) → μ.1 p 7 = nI k →
    Sv mX0_layOut (d + f) [.ref p, .int (nI i), .int (nI j), .int (nI dp)] G μ (fun μ' => μ'.1 p 7 = nI (k + (LF cs rw mk f i j dp).length) ∧ AtP μ' p k (LF cs rw mk f i j dp) ∧ Fr μ μ' (Plo p k))
  | 0, _, _, _, _, _, h, _, _, _, _, _, _ => absurd h (Nat.not_lt_zero _)
  | f + 1, i, j, dp, k, μ, hf, hij, hj, hk, hdp, htab, h7 => by
    have hL0 := hL
    obtain ⟨hO, ⟨r0, r1, r2, r3, r4, r5, r6⟩, ⟨a1, a2, a3, a4, a5, a6, a7⟩, hg⟩ := hL
    obtain ⟨-, -, -, ⟨v1, v2⟩⟩ := hg i (by omega)
    have e0 := htab i j (Nat.le_refl _) hij (Nat.le_refl _)
    refine Sv_of (ls := [.ref p, .int (nI i), .int (nI j), .int (nI dp), .null]) (by decide +kernel) (Nat.le_of_ble_eq_true rfl) rfl ?_
    refine J_iload_n (i := 3) qX0_layOut_0 rfl rfl ?_
    refine J_pushI qX0_layOut_1 ?_
    first | with_reducible refine J_icmp_ge_n qX0_layOut_3 (by omega) (by omega) (fun c1 => ?_) (fun c1 => ?_) | refine J_icmp_ge qX0_layOut_3 (fun c1 => ?_) (fun c1 => ?_)
    · omega
    · refine J_aload_n (i := 0) qX0_layOut_6 rfl rfl ?_
      refine J_getIe qX0_layOut_7 fX0_35 (by assumption) (by (repeat first | with_reducible exact wI_e _ _ _ _ | (with_reducible apply rd_s; focus omega) | (with_reducible apply rd_c; focus omega) | (with_reducible apply rd_k; focus omega) | with_reducible exact rd_e (by omega)); first | done | assumption | rfl) ?_
      refine J_pushI qX0_layOut_10 ?_
      first | with_reducible refine J_icmp_lt_n qX0_layOut_12 (by omega) (by omega) (fun c2 => ?_) (fun c2 => ?_) | refine J_icmp_lt qX0_layOut_12 (fun c2 => ?_) (fun c2 => ?_)
      · cases hcut : (pcF cs rw mk i j).2 with
        | none =>
          rw [hcut] at e0
          have e0 : μ.1 (p + 41 + i) j = -1 := e0
          refine J_aload_n (i := 0) qX0_layOut_16 rfl rfl ?_
          refine J_getR qX0_layOut_17 fX0_22 (by assumption) (by assumption) ?_
          refine J_iload_n (i := 1) qX0_layOut_20 rfl rfl ?_
          refine J_aald qX0_layOut_21 (by assumption) (by decide) (by decide) rfl (by omega) (by first | assumption | exact (by assumption : ∀ _, _) _ (by omega)) ?_
          refine J_iload_n (i := 2) qX0_layOut_22 rfl rfl ?_
          refine J_ialde qX0_layOut_23 (by assumption) rfl (by omega) (by (repeat first | with_reducible exact wI_e _ _ _ _ | (with_reducible apply rd_s; focus omega) | (with_reducible apply rd_c; focus omega) | (with_reducible apply rd_k; focus omega) | with_reducible exact rd_e (by omega)); first | done | assumption | rfl) ?_
          refine J_ist4 qX0_layOut_24 (Nat.le_of_ble_eq_true rfl) rfl ?_
          refine J_iload (i := 4) qX0_layOut_26 rfl ?_
          refine J_pushI qX0_layOut_28 ?_
          refine J_icmp_ne qX0_layOut_29 (fun c => absurd rfl c) (fun c => ?_)
          refine J_aload_n (i := 0) qX0_layOut_32 rfl rfl ?_
          refine J_getR qX0_layOut_33 fX0_25 (by assumption) (by assumption) ?_
          refine J_aload_n (i := 0) qX0_layOut_36 rfl rfl ?_
          refine J_getIe qX0_layOut_37 fX0_35 (by assumption) (by (repeat first | with_reducible exact wI_e _ _ _ _ | (with_reducible apply rd_s; focus omega) | (with_reducible apply rd_c; focus omega) | (with_reducible apply rd_k; focus omega) | with_reducible exact rd_e (by omega)); first | done | assumption | rfl) ?_
          refine J_iload_n (i := 1) qX0_layOut_40 rfl rfl ?_
          refine J_iast qX0_layOut_41 (by assumption) rfl (by omega) ?_
          refine J_aload_n (i := 0) qX0_layOut_42 rfl rfl ?_
          refine J_getR qX0_layOut_43 fX0_29 (by assumption) (by assumption) ?_
          refine J_aload_n (i := 0) qX0_layOut_46 rfl rfl ?_
          refine J_getIe qX0_layOut_47 fX0_35 (by assumption) (by (repeat first | with_reducible exact wI_e _ _ _ _ | (with_reducible apply rd_s; focus omega) | (with_reducible apply rd_c; focus omega) | (with_reducible apply rd_k; focus omega) | with_reducible exact rd_e (by omega)); first | done | assumption | rfl) ?_
          refine J_iload_n (i := 2) qX0_layOut_50 rfl rfl ?_
          refine J_iast qX0_layOut_51 (by assumption) rfl (by omega) ?_
          refine J_aload_n (i := 0) qX0_layOut_52 rfl rfl ?_
          refine J_getR qX0_layOut_53 fX0_32 (by assumption) (by assumption) ?_
          refine J_aload_n (i := 0) qX0_layOut_56 rfl rfl ?_
          refine J_getIe qX0_layOut_57 fX0_35 (by assumption) (by (repeat first | with_reducible exact wI_e _ _ _ _ | (with_reducible apply rd_s; focus omega) | (with_reducible apply rd_c; focus omega) | (with_reducible apply rd_k; focus omega) | with_reducible exact rd_e (by omega)); first | done | assumption | rfl) ?_
          refine J_iload_n (i := 3) qX0_layOut_60 rfl rfl ?_
          refine J_iast qX0_layOut_61 (by assumption) rfl (by omega) ?_
          refine J_aload_n (i := 0) qX0_layOut_62 rfl rfl ?_
          refine J_dup qX0_layOut_63 rfl ?_
          refine J_getIe qX0_layOut_64 fX0_35 (by assumption) (by (repeat first | with_reducible exact wI_e _ _ _ _ | (with_reducible apply rd_s; focus omega) | (with_reducible apply rd_c; focus omega) | (with_reducible apply rd_k; focus omega) | with_reducible exact rd_e (by omega)); first | done | assumption | rfl) ?_
          refine J_pushI qX0_layOut_67 ?_
          first | with_reducible refine J_iadd_n qX0_layOut_68 ?_ | refine J_iadd qX0_layOut_68 ?_
          refine J_putI qX0_layOut_69 fX0_35p (by assumption) rfl rfl ?_
          refine Jv_ret qX0_layOut_72 ?_
          rw [LF_none hcut]
          refine ⟨wI_e _ _ _ _, fun e he => ?_, ?_⟩
          · have e1 : e = 0 := by simp at he; omega
            subst e1
            refine ⟨?_, ?_, ?_⟩
            · rw [wI_n (by omega), wI_n (by omega), wI_n (by omega)]; exact wI_e _ _ _ _
            · rw [wI_n (by omega), wI_n (by omega)]; exact wI_e _ _ _ _
            · rw [wI_n (by omega)]; exact wI_e _ _ _ _
          · refine Fr.w (Fr.w (Fr.w (Fr.w Fr.rf ?_) ?_) ?_) (Or.inl ⟨rfl, rfl⟩)
            · exact Or.inr ⟨Or.inl rfl, Nat.le_refl _⟩
            · exact Or.inr ⟨Or.inr (Or.inl rfl), Nat.le_refl _⟩
            · exact Or.inr ⟨Or.inr (Or.inr rfl), Nat.le_refl _⟩
        | some m =>
          rw [hcut] at e0
          have e0 : μ.1 (p + 41 + i) j = nI m := e0
          have hm := cut_at (by omega) hcut
          have l1 := LF_len cs rw mk f i m (dp + 1) (by omega) (by omega) (by omega)
          refine J_aload_n (i := 0) qX0_layOut_16 rfl rfl ?_
          refine J_getR qX0_layOut_17 fX0_22 (by assumption) (by assumption) ?_
          refine J_iload_n (i := 1) qX0_layOut_20 rfl rfl ?_
          refine J_aald qX0_layOut_21 (by assumption) (by decide) (by decide) rfl (by omega) (by first | assumption | exact (by assumption : ∀ _, _) _ (by omega)) ?_
          refine J_iload_n (i := 2) qX0_layOut_22 rfl rfl ?_
          refine J_ialde qX0_layOut_23 (by assumption) rfl (by omega) (by (repeat first | with_reducible exact wI_e _ _ _ _ | (with_reducible apply rd_s; focus omega) | (with_reducible apply rd_c; focus omega) | (with_reducible apply rd_k; focus omega) | with_reducible exact rd_e (by omega)); first | done | assumption | rfl) ?_
          refine J_ist4 qX0_layOut_24 (Nat.le_of_ble_eq_true rfl) rfl ?_
          refine J_iload (i := 4) qX0_layOut_26 rfl ?_
          refine J_pushI qX0_layOut_28 ?_
          refine J_icmp_ne qX0_layOut_29 (fun c => ?_) (fun c => absurd c (nI_m1 (by omega)))
          refine J_aload_n (i := 0) qX0_layOut_73 rfl rfl ?_
          refine J_iload_n (i := 1) qX0_layOut_74 rfl rfl ?_
          refine J_iload (i := 4) qX0_layOut_75 rfl ?_
          refine J_iload_n (i := 3) qX0_layOut_77 rfl rfl ?_
          refine J_pushI qX0_layOut_78 ?_
          first | with_reducible refine J_iadd_n qX0_layOut_79 ?_ | refine J_iadd qX0_layOut_79 ?_
          refine J_vv3 qX0_layOut_80 kX0_59 (by assumption) (l_layOut hL0 h12 f i m (dp + 1) k μ (by omega) (by omega) (by omega) hk (by omega) (fun a c x1 x2 x3 => htab a c x1 x2 (by omega)) h7) (Nat.le_of_ble_eq_true rfl) (fun ν hr => ?_)
          obtain ⟨g1, g2, g3⟩ := hr
          refine J_aload_n (i := 0) qX0_layOut_83 rfl rfl ?_
          refine J_iload (i := 4) qX0_layOut_84 rfl ?_
          refine J_pushI qX0_layOut_86 ?_
          first | with_reducible refine J_iadd_n qX0_layOut_87 ?_ | refine J_iadd qX0_layOut_87 ?_
          refine J_iload_n (i := 2) qX0_layOut_88 rfl rfl ?_
          refine J_iload_n (i := 3) qX0_layOut_89 rfl rfl ?_
          refine J_pushI qX0_layOut_90 ?_
          first | with_reducible refine J_iadd_n qX0_layOut_91 ?_ | refine J_iadd qX0_layOut_91 ?_
          refine J_vv3 qX0_layOut_92 kX0_59 (by assumption) (l_layOut hL0 h12 f (m + 1) j (dp + 1) (k + (LF cs rw mk f i m (dp + 1)).length) ν (by omega) (by omega) (by omega) (by omega) (by omega) (fun a c x1 x2 x3 => (g3.1 _ _ (fun q => by unfold Plo at q; omega)).trans (htab a c (by omega) x2 x3)) g1) (Nat.le_of_ble_eq_true rfl) (fun ν' hr => ?_)
          obtain ⟨g4, g5, g6⟩ := hr
          refine Jv_ret qX0_layOut_95 ?_
          rw [LF_some hcut]
          refine ⟨by rw [g4, List.length_append, Nat.add_assoc], fun e he => ?_, ?_⟩
          · rw [List.length_append] at he
            by_cases q : e < (LF cs rw mk f i m (dp + 1)).length
            · rw [pg_l q]
              obtain ⟨y1, y2, y3⟩ := g2 e q
              refine ⟨?_, ?_, ?_⟩
              · rw [g6.1 _ _ (fun z => by unfold Plo at z; omega)]; exact y1
              · rw [g6.1 _ _ (fun z => by unfold Plo at z; omega)]; exact y2
              · rw [g6.1 _ _ (fun z => by unfold Plo at z; omega)]; exact y3
            · rw [pg_r (Nat.not_lt.mp q)]
              have y := g5 (e - (LF cs rw mk f i m (dp + 1)).length) (by omega)
              rw [show k + (LF cs rw mk f i m (dp + 1)).length + (e - (LF cs rw mk f i m (dp + 1)).length) = k + e by omega] at y
              exact y
          · refine g3.tr (g6.mono (fun c s q => ?_))
            unfold Plo at q ⊢
            omega
      · omega
variable {μ : Mm}
theorem l_make (hL : IsPl G p) (hP : IsP G b) (hb : b + 10 < p ∨ p + 55 < b) (hc : AbC μ b cs) (ho : OkC cs) : Sv mX0_make (d+12+1) [.ref p, .ref b, .int (b2i rw), .int (b2i mk)] G μ (fun μ' => AbPl μ' p cs rw mk ∧ Fr μ μ' (fun c s => p ≤ c ∧ c ≤ p + 55)) := by
  have h12 := hc.2.1
  have hn := hc.1
  have hL0 := hL
  obtain ⟨hO, ⟨r0, r1, r2, r3, r4, r5, r6⟩, ⟨a1, a2, a3, a4, a5, a6, a7⟩, hg⟩ := hL
  have hPO := hP.1
  have hcf : ∀ {ν : Mm}, Fr μ ν (fun c s => p ≤ c ∧ c ≤ p + 55) → AbC ν b cs := fun hF => hc.fr hF (fun c k q z => by unfold Pcs at z; omega)
  refine Sv_of (ls := [.ref p, .ref b, .int (b2i rw), .int (b2i mk), .null, .null, .null, .null]) (by decide +kernel) (Nat.le_of_ble_eq_true rfl) rfl ?_
  have fin : ∀ (ν : Mm) (z1 z2 z3 : Value), Fr μ ν (fun c s => p ≤ c ∧ c ≤ p + 55) → (∀ a c, a ≤ c → c < cs.length → TabAt ν p cs rw mk a c) → J mX0_make (d+12+1) (0, 0) s0 (Kv G (fun μ' => AbPl μ' p cs rw mk ∧ Fr μ μ' (fun c s => p ≤ c ∧ c ≤ p + 55))) (0, 0) 77 [.ref p, .ref b, .int (b2i rw), .int (b2i mk), .int (nI cs.length), z1, z2, z3] [] (G, ν) := by
    intro ν z1 z2 z3 hF hT
    refine J_aload_n (i := 0) qX0_make_77 rfl rfl ?_
    refine J_pushI qX0_make_78 ?_
    refine J_putI qX0_make_79 fX0_35p (by assumption) rfl rfl ?_
    refine J_aload_n (i := 0) qX0_make_82 rfl rfl ?_
    refine J_pushI qX0_make_83 ?_
    refine J_putI qX0_make_84 fX0_39p (by assumption) rfl rfl ?_
    refine J_iload (i := 4) qX0_make_87 rfl ?_
    have hF2 : Fr μ (wI (wI ν p 7 (nI 0)) p 8 (nI 0)) (fun c s => p ≤ c ∧ c ≤ p + 55) := Fr.w (Fr.w hF ⟨by omega, by omega⟩) ⟨by omega, by omega⟩
    first | with_reducible refine J_if_le_n qX0_make_89 (by omega) (fun c1 => ?_) (fun c1 => ?_) | refine J_if_le qX0_make_89 (fun c1 => ?_) (fun c1 => ?_)
    · refine Jv_ret qX0_make_117 ?_
      have e1 : prtF cs rw mk = [] := if_pos c1
      have e2 : priceF cs rw mk = 0 := if_pos c1
      refine ⟨⟨fun a c x1 x2 => by omega, ?_, ?_, ?_⟩, hF2⟩
      · rw [e1, wI_n (by omega), wI_e]; rfl
      · rw [e2, wI_e]
      · rw [e1]; exact fun e he => absurd he (Nat.not_lt_zero e)
    · obtain ⟨-, -, ⟨x1, x2⟩, -⟩ := hg 0 (by omega)
      have e3 : ν.1 (p + 28 + 0) (cs.length - 1) = nI (pcF cs rw mk 0 (cs.length - 1)).1 := (hT 0 (cs.length - 1) (by omega) (by omega)).2.2.1
      refine J_aload_n (i := 0) qX0_make_92 rfl rfl ?_
      refine J_aload_n (i := 0) qX0_make_93 rfl rfl ?_
      refine J_getR qX0_make_94 fX0_19 (by assumption) (by assumption) ?_
      refine J_pushI qX0_make_97 ?_
      refine J_aald qX0_make_98 (by assumption) (by decide) (by decide) rfl (by omega) (by first | assumption | exact (by assumption : ∀ _, _) _ (by omega)) ?_
      refine J_iload (i := 4) qX0_make_99 rfl ?_
      refine J_pushI qX0_make_101 ?_
      first | with_reducible refine J_isub_n qX0_make_102 (by omega) ?_ | refine J_isub qX0_make_102 ?_
      refine J_ialde qX0_make_103 (by assumption) rfl (by omega) (by (repeat first | with_reducible exact wI_e _ _ _ _ | (with_reducible apply rd_s; focus omega) | (with_reducible apply rd_c; focus omega) | (with_reducible apply rd_k; focus omega) | with_reducible exact rd_e (by omega)); first | done | assumption | rfl) ?_
      refine J_putI qX0_make_104 fX0_39p (by assumption) rfl rfl ?_
      refine J_aload_n (i := 0) qX0_make_107 rfl rfl ?_
      refine J_pushI qX0_make_108 ?_
      refine J_iload (i := 4) qX0_make_109 rfl ?_
      refine J_pushI qX0_make_111 ?_
      first | with_reducible refine J_isub_n qX0_make_112 (by omega) ?_ | refine J_isub qX0_make_112 ?_
      refine J_pushI qX0_make_113 ?_
      have e1 : prtF cs rw mk = LF cs rw mk 12 0 (cs.length - 1) 0 := if_neg (by omega)
      have e2 : priceF cs rw mk = (pcF cs rw mk 0 (cs.length - 1)).1 := if_neg (by omega)
      have hT2 : ∀ a c, a ≤ c → c < cs.length → TabAt (wI (wI (wI ν p 7 (nI 0)) p 8 (nI 0)) p 8 (nI (pcF cs rw mk 0 (cs.length - 1)).1)) p cs rw mk a c := fun a c y1 y2 => by
        obtain ⟨t1, t2, t3, t4⟩ := hT a c y1 y2
        refine ⟨?_, ?_, ?_, ?_⟩
        · rw [wI_n (by omega), wI_n (by omega), wI_n (by omega)]; exact t1
        · rw [wI_n (by omega), wI_n (by omega), wI_n (by omega)]; exact t2
        · rw [wI_n (by omega), wI_n (by omega), wI_n (by omega)]; exact t3
        · rw [wI_n (by omega), wI_n (by omega), wI_n (by omega)]; exact t4
      refine J_vv3 qX0_make_114 kX0_59 (by assumption) (l_layOut hL0 h12 12 0 (cs.length - 1) 0 0 _ (by omega) (by omega) (by omega) (by omega) (by omega) (fun a c y1 y2 y3 => (hT2 a c y2 (by omega)).2.2.2) (by rw [wI_n (by omega), wI_n (by omega), wI_e])) (Nat.le_of_ble_eq_true rfl) (fun ν' hr => ?_)
      obtain ⟨g1, g2, g3⟩ := hr
      refine Jv_ret qX0_make_117 ?_
      refine ⟨⟨fun a c y1 y2 => ?_, ?_, ?_, ?_⟩, (Fr.w hF2 ⟨by omega, by omega⟩).tr (g3.mono (fun c s q => by unfold Plo at q; omega))⟩
      · obtain ⟨t1, t2, t3, t4⟩ := hT2 a c y1 y2
        exact ⟨(g3.1 _ _ (fun q => by unfold Plo at q; omega)).trans t1, (g3.1 _ _ (fun q => by unfold Plo at q; omega)).trans t2, (g3.1 _ _ (fun q => by unfold Plo at q; omega)).trans t3, (g3.1 _ _ (fun q => by unfold Plo at q; omega)).trans t4⟩
      · rw [e1, g1, Nat.zero_add]
      · rw [e2, g3.1 _ _ (fun q => by unfold Plo at q; omega), wI_e]
      · rw [e1]; exact g2
  refine J_aload_n (i := 1) qX0_make_0 rfl rfl ?_
  refine J_getIe qX0_make_1 fX0_42 (by assumption) (by (repeat first | with_reducible exact wI_e _ _ _ _ | (with_reducible apply rd_s; focus omega) | (with_reducible apply rd_c; focus omega) | (with_reducible apply rd_k; focus omega) | with_reducible exact rd_e (by omega)); first | done | assumption | rfl) ?_
  refine J_ist4 qX0_make_4 (Nat.le_of_ble_eq_true rfl) rfl ?_
  refine J_pushI qX0_make_6 ?_
  refine J_ist5 qX0_make_7 (Nat.le_of_ble_eq_true rfl) rfl ?_
  have H : ∀ m, m ≤ cs.length → ∀ (ν : Mm) (z2 z3 : Value), Fr μ ν (fun c s => p ≤ c ∧ c ≤ p + 55) → (∀ a c, a ≤ c → c < cs.length → c - a < m → TabAt ν p cs rw mk a c) → J mX0_make (d+12+1) (0, 0) s0 (Kv G (fun μ' => AbPl μ' p cs rw mk ∧ Fr μ μ' (fun c s => p ≤ c ∧ c ≤ p + 55))) (0, 0) 9 [.ref p, .ref b, .int (b2i rw), .int (b2i mk), .int (nI cs.length), .int (nI (m + 1)), z2, z3] [] (G, ν) := by
    refine ind_up (fun m hm ih ν z2 z3 hF hD => ?_)
    refine J_iload (i := 5) qX0_make_9 rfl ?_
    refine J_iload (i := 4) qX0_make_11 rfl ?_
    first | with_reducible refine J_icmp_gt_n qX0_make_13 (by omega) (by omega) (fun c1 => ?_) (fun c1 => ?_) | refine J_icmp_gt qX0_make_13 (fun c1 => ?_) (fun c1 => ?_)
    · exact fin ν _ _ _ hF (fun a c x1 x2 => hD a c x1 x2 (by omega))
    · refine J_pushI qX0_make_16 ?_
      refine J_ist6 qX0_make_17 (Nat.le_of_ble_eq_true rfl) rfl ?_
      have H2 : ∀ i, i ≤ cs.length - m → ∀ (ν : Mm) (z3 : Value), Fr μ ν (fun c s => p ≤ c ∧ c ≤ p + 55) → (∀ a c, a ≤ c → c < cs.length → (c - a < m ∨ (c - a = m ∧ a < i)) → TabAt ν p cs rw mk a c) → J mX0_make (d+12+1) (0, 0) s0 (Kv G (fun μ' => AbPl μ' p cs rw mk ∧ Fr μ μ' (fun c s => p ≤ c ∧ c ≤ p + 55))) (0, 0) 19 [.ref p, .ref b, .int (b2i rw), .int (b2i mk), .int (nI cs.length), .int (nI (m + 1)), .int (nI i), z3] [] (G, ν) := by
        refine ind_up (fun i hi ih2 ν z3 hF hD => ?_)
        refine J_iload (i := 6) qX0_make_19 rfl ?_
        refine J_iload (i := 5) qX0_make_21 rfl ?_
        first | with_reducible refine J_iadd_n qX0_make_23 ?_ | refine J_iadd qX0_make_23 ?_
        refine J_iload (i := 4) qX0_make_24 rfl ?_
        first | with_reducible refine J_icmp_gt_n qX0_make_26 (by omega) (by omega) (fun c2 => ?_) (fun c2 => ?_) | refine J_icmp_gt qX0_make_26 (fun c2 => ?_) (fun c2 => ?_)
        · refine J_inc5 qX0_make_71 (Nat.le_of_ble_eq_true rfl) (by first | exact nI_inc _ | rfl) rfl ?_
          refine J_goto qX0_make_74 ?_
          exact ih (by omega) ν _ _ hF (fun a c x1 x2 x3 => hD a c x1 x2 (by omega))
        · refine J_iload (i := 6) qX0_make_29 rfl ?_
          refine J_iload (i := 5) qX0_make_31 rfl ?_
          first | with_reducible refine J_iadd_n qX0_make_33 ?_ | refine J_iadd qX0_make_33 ?_
          refine J_pushI qX0_make_34 ?_
          first | with_reducible refine J_isub_n qX0_make_35 (by omega) ?_ | refine J_isub qX0_make_35 ?_
          refine J_ist7 qX0_make_36 (Nat.le_of_ble_eq_true rfl) rfl ?_
          refine J_aload_n (i := 0) qX0_make_38 rfl rfl ?_
          refine J_aload_n (i := 1) qX0_make_39 rfl rfl ?_
          refine J_iload (i := 6) qX0_make_40 rfl ?_
          refine J_iload (i := 7) qX0_make_42 rfl ?_
          refine J_iload_n (i := 2) qX0_make_44 rfl rfl ?_
          refine J_iload_n (i := 3) qX0_make_45 rfl rfl ?_
          refine J_vv5 qX0_make_46 kX0_47 (by assumption) (l_sortOut hL0 hP hb (hcf hF) ho (i := i) (j := i + m) (by omega) (by omega)) (Nat.le_of_ble_eq_true rfl) (fun ν1 hr => ?_)
          obtain ⟨s1, s2, s3⟩ := hr
          have hF1 : Fr μ ν1 (fun c s => p ≤ c ∧ c ≤ p + 55) := hF.tr (s3.mono (fun c s q => by omega))
          refine J_aload_n (i := 0) qX0_make_49 rfl rfl ?_
          refine J_iload (i := 6) qX0_make_50 rfl ?_
          refine J_iload (i := 7) qX0_make_52 rfl ?_
          refine J_aload_n (i := 1) qX0_make_54 rfl rfl ?_
          refine J_iload (i := 6) qX0_make_55 rfl ?_
          refine J_iload (i := 7) qX0_make_57 rfl ?_
          refine J_vi2 qX0_make_59 kX0_51 (by assumption) (p_weightIn hP (hcf hF1) (i := i) (m := i + m + 1 - i) (by omega) (jle (by omega) (by omega) (by omega))) (Nat.le_of_ble_eq_true rfl) (fun r ν2 hr => ?_)
          obtain ⟨rfl, rfl⟩ := hr
          have keep1 : ∀ a c, a ≤ c → c < cs.length → (c - a < m ∨ (c - a = m ∧ a < i)) → TabAt ν1 p cs rw mk a c := fun a c x1 x2 x3 => by
            obtain ⟨t1, t2, t3, t4⟩ := hD a c x1 x2 x3
            exact ⟨(s3.1 _ _ (by omega)).trans t1, (s3.1 _ _ (by omega)).trans t2, (s3.1 _ _ (by omega)).trans t3, (s3.1 _ _ (by omega)).trans t4⟩
          refine J_vv3 qX0_make_62 kX0_55 (by assumption) (l_choose hL0 ho h12 (i := i) (j := i + m) (by omega) (by omega) s1 s2 (fun x y1 y2 => (keep1 i x y1 (by omega) (by omega)).2.2.1) (fun x y1 y2 => (keep1 (x + 1) (i + m) (by omega) (by omega) (by omega)).2.2.1)) (Nat.le_of_ble_eq_true rfl) (fun ν2 hr => ?_)
          obtain ⟨g1, g2, g3⟩ := hr
          refine J_inc6 qX0_make_65 (Nat.le_of_ble_eq_true rfl) (by first | exact nI_inc _ | rfl) rfl ?_
          refine J_goto qX0_make_68 ?_
          refine ih2 (by omega) ν2 _ (hF1.tr (g3.mono (fun c s q => by omega))) (fun a c x1 x2 x3 => ?_)
          by_cases q : a = i ∧ c = i + m
          · obtain ⟨rfl, rfl⟩ := q
            exact ⟨(g3.1 _ _ (by omega)).trans s1, (g3.1 _ _ (by omega)).trans s2, g1, g2⟩
          · obtain ⟨t1, t2, t3, t4⟩ := keep1 a c x1 x2 (by omega)
            exact ⟨(g3.1 _ _ (by omega)).trans t1, (g3.1 _ _ (by omega)).trans t2, (g3.1 _ _ (by omega)).trans t3, (g3.1 _ _ (by omega)).trans t4⟩
      exact H2 0 (Nat.zero_le _) ν _ hF (fun a c x1 x2 x3 => hD a c x1 x2 (by omega))
  exact H 0 (Nat.zero_le _) μ _ _ Fr.rf (fun a c x1 x2 x3 => absurd x3 (Nat.not_lt_zero _))
end PL
