/-! THE MODEL: mask, swing -/
theorem own_at {cs : List Cs} {x : Int32} {i : Nat} : ∀ f k, k ≤ i → i < k + f → (∀ e, k ≤ e → e < i → ¬ ((cg cs e).1 ≤ x ∧ x ≤ (cg cs e).2.1)) → ((cg cs i).1 ≤ x ∧ x ≤ (cg cs i).2.1) → ownA cs x f k = nI i
  | 0, k, h1, h2, _, _ => by omega
  | f + 1, k, h1, h2, h3, h4 => by
    unfold ownA
    by_cases e : i = k
    · subst e; rw [if_pos h4]
    · rw [if_neg (h3 k (Nat.le_refl _) (by omega))]
      exact own_at f (k + 1) (by omega) (by omega) (fun e q1 q2 => h3 e (by omega) q2) h4
theorem own_in {cs : List Cs} (ho : OkC cs) {x : Int32} {i : Nat} (hi : i < cs.length) (h : (cg cs i).1 ≤ x ∧ x ≤ (cg cs i).2.1) : ownF cs x = nI i :=
  own_at cs.length 0 (Nat.zero_le _) (by omega) (fun e _ q2 z => absurd (Int32.lt_of_le_of_lt z.2 (lo_lt ho e i q2 hi)) (Int32.not_lt.mpr h.1)) h
theorem own_no {cs : List Cs} {x : Int32} : ∀ f k, (∀ e, k ≤ e → e < k + f → ¬ ((cg cs e).1 ≤ x ∧ x ≤ (cg cs e).2.1)) → ownA cs x f k = -1
  | 0, _, _ => rfl
  | f + 1, k, h => by
    unfold ownA
    rw [if_neg (h k (Nat.le_refl _) (by omega))]
    exact own_no f (k + 1) (fun e q1 q2 => h e (by omega) (by omega))
theorem msk_gap {cs : List Cs} {lo a : Int32} {b0 : Nat} : ∀ m, (∀ b, b0 ≤ b → b < b0 + m → ¬ ownV cs (lo + nI b) (-1) = a) → mskF cs lo a (b0 + m) = mskF cs lo a b0
  | 0, _ => rfl
  | m + 1, h => by
    show mskF cs lo a ((b0 + m) + 1) = _
    rw [mskF_succ, if_neg (h (b0 + m) (by omega) (by omega))]
    exact msk_gap m (fun b q1 q2 => h b q1 (by omega))
def dlt (lo z : Int32) : Nat := (z.toInt - lo.toInt).toNat
theorem RelM.msk {μ μ' : Mm} {s : St} {v : Int64} (h : RelM μ s) (hE : μ'.1 = μ.1) (hl : ∀ c k, ¬ (c = 198 ∧ k = 30) → μ'.2 c k = μ.2 c k) (h30 : μ'.2 198 30 = v) : RelM μ' (uMsk s v) ∧ FrM μ μ' := by
  have a : ∀ c, Ac μ μ' c := fun c k => by rw [hE]
  exact ⟨⟨h.1.ag (a _) (a _), h.2.1.ag (a _) (a _), h.2.2.1.ag (a _) (a _) (a _ _) (a _ _), h.2.2.2.1.ag (a _) (a _), ((a _ _).trans h.2.2.2.2.1), h30, ((a _ _).trans h.2.2.2.2.2.2.1), fun f hf => (a _ _).trans (h.2.2.2.2.2.2.2 f hf)⟩, fun c k _ => a c k, fun c k z => hl _ _ (by omega)⟩
theorem RelM.nowE {μ μ' : Mm} {s : St} (h : RelM μ s) (hF : ∀ c k, ¬ (Fre c k ∨ c = 206) → μ'.1 c k = μ.1 c k) (hG : μ'.2 = μ.2) (hc : MC μ' 206 0 (sP s).1) : RelM μ' s ∧ FrM μ μ' := by
  have a : ∀ c, (199 ≤ c ∧ c ≤ 210 ∧ c ≠ 202 ∧ c ≠ 205 ∧ c ≠ 206 ∧ c ≠ 207) → Ac μ μ' c := fun c z k => hF c k (fun y => by unfold Fre at y; omega)
  have e : ∀ k, (k < 8 ∨ (14 < k ∧ k < 18) ∨ (18 < k ∧ k < 26)) → μ'.1 198 k = μ.1 198 k := fun k z => hF _ _ (fun y => by unfold Fre at y; omega)
  obtain ⟨p1, p2, p3, p4, p5, p6⟩ := h.2.2.1
  exact ⟨⟨h.1.ag (a _ (by omega)) (a _ (by omega)), h.2.1.ag (a _ (by omega)) (a _ (by omega)), ⟨hc, (e _ (by omega)).trans p2, p3.ag (fun k _ _ => a _ (by omega) k), p4, (e _ (by omega)).trans p5, p6⟩, h.2.2.2.1.ag (a _ (by omega)) (a _ (by omega)), h.2.2.2.2.ag (e _ (by omega)) (e _ (by omega)) (a _ (by omega)) (by rw [hG])⟩, fun c k z => hF _ _ (fun y => by unfold Fre at y; omega), fun c k z => by rw [hG]⟩
/-- the parts' firsts and sorts tell the lasts -/
theorem oth_same {c1 c2 : List Cs} (hl : c1.length = c2.length) (h12 : c1.length ≤ 12) (he : (prtF c1 true true).length = (prtF c2 true true).length) (h : ∀ k, k < (prtF c1 true true).length → (pg (prtF c1 true true) k).1 = (pg (prtF c2 true true) k).1 ∧ psF c1 true true k = psF c2 true true k) : sameB c1 c2 true true = true := by
  refine decide_eq_true ⟨he, fun k hk => ⟨(h k hk).1, ?_, (h k hk).2⟩⟩
  have n0 : 0 < c1.length := by
    have := prt_len (cs := c1) true true h12
    omega
  have s1 := prt_seg (cs := c1) true true h12 n0
  have s2 := prt_seg (cs := c2) true true (by omega) (by omega)
  by_cases e : k + 1 < (prtF c1 true true).length
  · have q1 := s1.2.2.2.1 k e
    have q2 := s2.2.2.2.1 k (by omega)
    have q3 := (h (k + 1) e).1
    omega
  · have q1 := s1.2.2.1
    have q2 := s2.2.2.1
    rw [show (prtF c1 true true).length - 1 = k by omega] at q1
    rw [show (prtF c2 true true).length - 1 = k by omega] at q2
    omega
theorem same_oth {c1 c2 : List Cs} (h : sameB c1 c2 true true = true) : (prtF c1 true true).length = (prtF c2 true true).length ∧ ∀ k, k < (prtF c1 true true).length → (pg (prtF c1 true true) k).1 = (pg (prtF c2 true true) k).1 ∧ psF c1 true true k = psF c2 true true k := by
  have h1 := of_decide_eq_true h
  exact ⟨h1.1, fun k hk => ⟨(h1.2 k hk).1, (h1.2 k hk).2.2⟩⟩
theorem same_self (cs : List Cs) : sameB cs cs true true = true := decide_eq_true ⟨rfl, fun _ _ => ⟨rfl, rfl, rfl⟩⟩
/-- a plan that is kept beside -/
def OldP (μ : Mm) (cs : List Cs) : Prop := μ.1 198 31 = nI (prtF cs true true).length ∧ ∀ k, k < (prtF cs true true).length → μ.1 216 k = nI (pg (prtF cs true true) k).1 ∧ μ.1 217 k = nI (psF cs true true k)
section MM
variable {G : Gm} {μ : Mm} {d : Nat} {s : St} {cs : List Cs}
theorem m_mask (hM : LayM G) (h : RelM μ s) (k a : Int32) : Si mX6_mask (d+7) [.ref 198, .int k, .int a] G μ (fun q μ' => q = (maskS s k a).1 ∧ RelM μ' (maskS s k a).2 ∧ FrM μ μ') := by
  have hM0 := hM
  obtain ⟨mO, ⟨-, -, -, -, -, -, -, f17, -, -, -, -, f24, f25, f27, f28, f29, -⟩, ⟨-, -, -, -, -, -, -, b206, -, -, -, -, b211, b212, b213, b214, b215, -⟩⟩ := hM
  have hc := h.2.2.1.1
  have ho := h.2.2.1.2.2.2.1.1
  have h12 := hc.2.1
  have pl12 := prt_len (cs := (sP s).1) true true h12
  refine Si_of (ls := [.ref 198, .int k, .int a, .null, .null, .null]) (by decide +kernel) (Nat.le_of_ble_eq_true rfl) rfl ?_
  refine J_aload_n (i := 0) qX6_mask_0 rfl rfl ?_
  refine J_iload_n (i := 1) qX6_mask_1 rfl rfl ?_
  refine J_vi1 qX6_mask_2 kX6_290 (by assumption) (m_isPart (d := d) hM0 hc ho k) (Nat.le_of_ble_eq_true rfl) (fun v1 ν hr => ?_)
  obtain ⟨rfl, ⟨hA, h26, hT⟩, hF⟩ := hr
  obtain ⟨h', hF'⟩ := h.free hF.pl
  have hc' := hc.fr hF
  have bad : (hasB (PL s).length k = false ∨ hasB 8 a = false) → J mX6_mask (d+7) (0, 0) s0 (Ki G (fun q μ' => q = (maskS s k a).1 ∧ RelM μ' (maskS s k a).2 ∧ FrM μ μ')) (0, 0) 18 [.ref 198, .int k, .int a, .null, .null, .null] [] (G, ν) := fun hz => by
    rw [show maskS s k a = (-1, s) from if_pos hz]
    refine J_pushI qX6_mask_18 ?_
    refine Ji_ret qX6_mask_19 ?_
    exact ⟨rfl, h', hF'⟩
  cases hb : hasB (prtF (sP s).1 true true).length k with
  | false =>
    first | refine J_if_eq qX6_mask_5 (fun _ => ?_) (fun c => absurd b2i_f0 c) | refine J_if_eq qX6_mask_5 (fun c => absurd c b2i_t0) (fun _ => ?_)
    exact bad (Or.inl hb)
  | true =>
    first | refine J_if_eq qX6_mask_5 (fun _ => ?_) (fun c => absurd b2i_f0 c) | refine J_if_eq qX6_mask_5 (fun c => absurd c b2i_t0) (fun _ => ?_)
    refine J_iload_n (i := 2) qX6_mask_8 rfl rfl ?_
    refine J_pushI qX6_mask_9 ?_
    refine J_pushI qX6_mask_10 ?_
    refine J_si3 qX6_mask_12 kX6_75 (m_in (d := d + 6) a (nI 0) (lv 8)) (Nat.le_of_ble_eq_true rfl) (fun v1 μ' hr => ?_)
    rw [inB_lv (by omega)] at hr
    obtain ⟨rfl, rfl⟩ := hr
    cases hb2 : hasB 8 a with
    | false =>
      first | refine J_if_ne qX6_mask_15 (fun c => absurd b2i_f0 c) (fun _ => ?_) | refine J_if_ne qX6_mask_15 (fun _ => ?_) (fun c => absurd c b2i_t0)
      exact bad (Or.inr hb2)
    | true =>
      first | refine J_if_ne qX6_mask_15 (fun c => absurd b2i_f0 c) (fun _ => ?_) | refine J_if_ne qX6_mask_15 (fun _ => ?_) (fun c => absurd c b2i_t0)
      clear bad
      have e1 : maskS s k a = if ¬ psF (sP s).1 true true (ix k) = 3 then (-3, uFnd s 3) else (nI 1, uMsk s (mskF (sP s).1 (cg (sP s).1 (pg (PL s) (ix k)).1).1 a (spN (sP s).1 (pg (PL s) (ix k)).1 (pg (PL s) (ix k)).2.1))) := if_neg (by rw [hb, hb2]; decide)
      obtain ⟨kk, hk, rfl⟩ := hasB_of (by omega) hb
      rw [ix_n (by omega)] at e1
      have ps := prt_sort ho h12 hk
      have pa := prt_at h12 hk
      obtain ⟨a1, a2, a3⟩ := hA kk hk
      have e4 := hc'.lo (k := (pg (prtF (sP s).1 true true) kk).1) (by omega)
      refine J_aload_n (i := 0) qX6_mask_20 rfl rfl ?_
      refine J_iload_n (i := 1) qX6_mask_21 rfl rfl ?_
      refine J_vi1 qX6_mask_22 kX6_280 (by assumption) (m_partSort (d := d + 3) hM0 hc' ho hA hk) (Nat.le_of_ble_eq_true rfl) (fun v1 μ' hr => ?_)
      obtain ⟨rfl, rfl⟩ := hr
      refine J_pushI qX6_mask_25 ?_
      refine J_icmp_eq qX6_mask_26 (fun c1 => ?_) (fun c1 => ?_)
      · have c1' : psF (sP s).1 true true kk = 3 := (nI_eq (by omega) (by omega)).mp c1
        rw [if_neg (fun z => z c1')] at e1
        have s32 : (spanF (sP s).1 (pg (prtF (sP s).1 true true) kk).1 (pg (prtF (sP s).1 true true) kk).2.1).toInt ≤ 32 := span_32 c1'
        have sps : 1 ≤ (spanF (sP s).1 (pg (prtF (sP s).1 true true) kk).1 (pg (prtF (sP s).1 true true) kk).2.1).toInt := span_pos ho pa.1 pa.2.1
        have si := span_i (sP s).1 (pg (prtF (sP s).1 true true) kk).1 (pg (prtF (sP s).1 true true) kk).2.1
        have e1' : maskS s (nI kk) a = (nI 1, uMsk s (mskF (sP s).1 (cg (sP s).1 (pg (prtF (sP s).1 true true) kk).1).1 a (spanF (sP s).1 (pg (prtF (sP s).1 true true) kk).1 (pg (prtF (sP s).1 true true) kk).2.1).toInt.toNat)) := e1
        clear e1
        generalize hf : (pg (prtF (sP s).1 true true) kk).1 = f at a1 pa e4 s32 sps si e1' ⊢
        generalize hl : (pg (prtF (sP s).1 true true) kk).2.1 = l at a2 pa s32 sps si e1' ⊢
        generalize hlo : (cg (sP s).1 f).1 = lo at e4 si e1' ⊢
        have rl := rng lo
        have rh := rng (cg (sP s).1 l).2.1
        have ord : ∀ i, f ≤ i → i ≤ l → lo.toInt ≤ (cg (sP s).1 i).1.toInt ∧ (cg (sP s).1 i).1.toInt ≤ (cg (sP s).1 i).2.1.toInt ∧ (cg (sP s).1 i).2.1.toInt ≤ (cg (sP s).1 l).2.1.toInt := fun i q1 q2 => by
          have h1 := (ho.1 i (by omega)).1
          have h2 : lo.toInt ≤ (cg (sP s).1 i).1.toInt := by
            by_cases e : f = i
            · rw [← e, hlo]; exact Int.le_refl _
            · have := lo_mono ho (k := f) (k' := i) (by omega) (by omega)
              rw [hlo, Int32.lt_iff_toInt_lt] at this
              omega
          have h3 : (cg (sP s).1 i).2.1.toInt ≤ (cg (sP s).1 l).2.1.toInt := by
            by_cases e : i = l
            · rw [e]; exact Int.le_refl _
            · have h5 := lo_lt ho i l (by omega) (by omega)
              have h6 := (ho.1 l (by omega)).1
              rw [Int32.lt_iff_toInt_lt] at h5
              rw [Int32.le_iff_toInt_le] at h6
              omega
          rw [Int32.le_iff_toInt_le] at h1
          exact ⟨h2, h1, h3⟩
        have sb : ∀ z : Int32, lo.toInt ≤ z.toInt → z.toInt ≤ (cg (sP s).1 l).2.1.toInt → z - lo = nI (dlt lo z) ∧ dlt lo z < 32 := fun z q1 q2 => by
          refine ⟨i32_inj ?_, by unfold dlt; omega⟩
          rw [subI (by omega) (by omega), nI_toInt (by unfold dlt; omega)]
          unfold dlt
          omega
        have ab : ∀ b : Nat, lo.toInt + b ≤ (cg (sP s).1 l).2.1.toInt → (lo + nI b).toInt = lo.toInt + b := fun b q => by
          have hb : (nI b).toInt = b := nI_toInt (by omega)
          rw [addI (by omega) (by omega), hb]
        have inn : ∀ i b, f ≤ i → i ≤ l → dlt lo (cg (sP s).1 i).1 ≤ b → b ≤ dlt lo (cg (sP s).1 i).2.1 → ownV (sP s).1 (lo + nI b) (-1) = nI (cg (sP s).1 i).2.2.1 := fun i b q1 q2 q3 q4 => by
          obtain ⟨o1, o2, o3⟩ := ord i q1 q2
          unfold dlt at q3 q4
          have hab := ab b (by omega)
          have hin := own_in ho (x := lo + nI b) (i := i) (by omega) (by rw [Int32.le_iff_toInt_le, Int32.le_iff_toInt_le, hab]; omega)
          exact ownV_so hin (by omega)
        have gap : ∀ i b, f ≤ i → i < l → dlt lo (cg (sP s).1 i).2.1 < b → b < dlt lo (cg (sP s).1 (i + 1)).1 → ¬ ownV (sP s).1 (lo + nI b) (-1) = a := fun i b q1 q2 q3 q4 => by
          obtain ⟨o1, o2, o3⟩ := ord i q1 (by omega)
          obtain ⟨o4, o5, o6⟩ := ord (i + 1) (by omega) (by omega)
          unfold dlt at q3 q4
          have hab := ab b (by omega)
          have hno : ownF (sP s).1 (lo + nI b) = -1 := own_no _ 0 (fun e _ q6 z => by
            rw [Int32.le_iff_toInt_le, Int32.le_iff_toInt_le, hab] at z
            by_cases q : e ≤ i
            · have : (cg (sP s).1 e).2.1.toInt ≤ (cg (sP s).1 i).2.1.toInt := by
                by_cases q7 : e = i
                · rw [q7]; exact Int.le_refl _
                · have h5 := lo_lt ho e i (by omega) (by omega)
                  have h6 := (ho.1 i (by omega)).1
                  rw [Int32.lt_iff_toInt_lt] at h5
                  rw [Int32.le_iff_toInt_le] at h6
                  omega
              omega
            · have : (cg (sP s).1 (i + 1)).1.toInt ≤ (cg (sP s).1 e).1.toInt := by
                by_cases q7 : e = i + 1
                · rw [q7]; exact Int.le_refl _
                · have h5 := lo_mono ho (k := i + 1) (k' := e) (by omega) (by omega)
                  rw [Int32.lt_iff_toInt_lt] at h5
                  omega
              omega)
          rw [ownV_no hno]
          exact fun z => by rw [← z] at hb2; exact absurd hb2 (by decide)
        have nxt : ∀ i, f ≤ i → i ≤ l → mskF (sP s).1 lo a (if i + 1 ≤ l then dlt lo (cg (sP s).1 (i + 1)).1 else (spanF (sP s).1 f l).toInt.toNat) = mskF (sP s).1 lo a (dlt lo (cg (sP s).1 i).2.1 + 1) := fun i q1 q2 => by
          obtain ⟨o1, o2, o3⟩ := ord i q1 q2
          by_cases e : i + 1 ≤ l
          · rw [if_pos e]
            have h5 := lo_lt ho i (i + 1) (by omega) (by omega)
            rw [Int32.lt_iff_toInt_lt] at h5
            obtain ⟨r, hr⟩ : ∃ r, dlt lo (cg (sP s).1 (i + 1)).1 = dlt lo (cg (sP s).1 i).2.1 + 1 + r := ⟨dlt lo (cg (sP s).1 (i + 1)).1 - dlt lo (cg (sP s).1 i).2.1 - 1, by unfold dlt; omega⟩
            rw [hr]
            exact msk_gap r (fun b q3 q4 => gap i b q1 (by omega) (by omega) (by omega))
          · rw [if_neg e]
            have ei : i = l := by omega
            rw [show (spanF (sP s).1 f l).toInt.toNat = dlt lo (cg (sP s).1 i).2.1 + 1 by rw [si, ei] at *; unfold dlt; omega]
        have skip : ∀ i, f ≤ i → i ≤ l → ¬ nI (cg (sP s).1 i).2.2.1 = a → mskF (sP s).1 lo a (dlt lo (cg (sP s).1 i).2.1 + 1) = mskF (sP s).1 lo a (dlt lo (cg (sP s).1 i).1) := fun i q1 q2 q3 => by
          obtain ⟨o1, o2, o3⟩ := ord i q1 q2
          obtain ⟨r, hr⟩ : ∃ r, dlt lo (cg (sP s).1 i).2.1 + 1 = dlt lo (cg (sP s).1 i).1 + r := ⟨dlt lo (cg (sP s).1 i).2.1 + 1 - dlt lo (cg (sP s).1 i).1, by unfold dlt; omega⟩
          rw [hr]
          exact msk_gap r (fun b q4 q5 => by rw [inn i b q1 q2 q4 (by omega)]; exact q3)
        have H : ∀ m, m ≤ l + 1 - f → ∀ (ν1 : Mm) (v5 : Value), ν1.1 = ν.1 → (∀ c q, ¬ (c = 198 ∧ q = 30) → ν1.2 c q = ν.2 c q) → ν1.2 198 30 = mskF (sP s).1 lo a (if f + m ≤ l then dlt lo (cg (sP s).1 (f + m)).1 else (spanF (sP s).1 f l).toInt.toNat) → J mX6_mask (d+7) (0, 0) s0 (Ki G (fun q μ' => q = (maskS s (nI kk) a).1 ∧ RelM μ' (maskS s (nI kk) a).2 ∧ FrM μ μ')) (0, 0) 62 [.ref 198, .int (nI kk), .int a, .int lo, .int (nI (f + m)), v5] [] (G, ν1) := by
          refine ind_up (fun m hm ih ν1 v5 hE hO hZ => ?_)
          have a2' : ν1.1 214 kk = nI l := by rw [hE]; exact a2
          refine J_iload (i := 4) qX6_mask_62 rfl ?_
          refine J_aload_n (i := 0) qX6_mask_64 rfl rfl ?_
          refine J_getR qX6_mask_65 fX6_56 (by assumption) (by assumption) ?_
          refine J_iload_n (i := 1) qX6_mask_68 rfl rfl ?_
          refine J_ialde qX6_mask_69 (by assumption) rfl (by omega) (by (repeat first | with_reducible exact wI_e _ _ _ _ | (with_reducible apply rd_s; focus omega) | (with_reducible apply rd_c; focus omega) | (with_reducible apply rd_k; focus omega) | with_reducible exact rd_e (by omega)); first | done | assumption | rfl) ?_
          first | with_reducible refine J_icmp_gt_n qX6_mask_70 (by omega) (by omega) (fun c2 => ?_) (fun c2 => ?_) | refine J_icmp_gt qX6_mask_70 (fun c2 => ?_) (fun c2 => ?_)
          · rw [if_neg (by omega)] at hZ
            refine J_pushI qX6_mask_142 ?_
            refine Ji_ret qX6_mask_143 ?_
            obtain ⟨g1, g2⟩ := h'.msk hE hO hZ
            rw [e1']
            exact ⟨rfl, g1, hF'.tr g2⟩
          · rw [if_pos (by omega)] at hZ
            obtain ⟨o1, o2, o3⟩ := ord (f + m) (by omega) (by omega)
            obtain ⟨b1, b2⟩ := sb (cg (sP s).1 (f + m)).1 o1 (by omega)
            obtain ⟨b3, b4⟩ := sb (cg (sP s).1 (f + m)).2.1 (by omega) o3
            have dd : dlt lo (cg (sP s).1 (f + m)).1 ≤ dlt lo (cg (sP s).1 (f + m)).2.1 := by unfold dlt; omega
            have l1 : ν1.1 206 (1 + (f + m)) = (cg (sP s).1 (f + m)).1 := by rw [hE]; exact hc'.lo (by omega)
            have l2 : ν1.1 206 (13 + (f + m)) = (cg (sP s).1 (f + m)).2.1 := by rw [hE]; exact hc'.hi (by omega)
            have l3 : ν1.1 206 (25 + (f + m)) = nI (cg (sP s).1 (f + m)).2.2.1 := by rw [hE]; exact hc'.am (by omega)
            have nx := nxt (f + m) (by omega) (by omega)
            rw [show f + m + 1 = f + (m + 1) by omega] at nx
            have out : ∀ (ν2 : Mm) (v5 : Value), ν2.1 = ν.1 → (∀ c q, ¬ (c = 198 ∧ q = 30) → ν2.2 c q = ν.2 c q) → ν2.2 198 30 = mskF (sP s).1 lo a (dlt lo (cg (sP s).1 (f + m)).2.1 + 1) → J mX6_mask (d+7) (0, 0) s0 (Ki G (fun q μ' => q = (maskS s (nI kk) a).1 ∧ RelM μ' (maskS s (nI kk) a).2 ∧ FrM μ μ')) (0, 0) 136 [.ref 198, .int (nI kk), .int a, .int lo, .int (nI (f + m)), v5] [] (G, ν2) := fun ν2 v5 r1 r2 r3 => by
              refine J_inc4 qX6_mask_136 (Nat.le_of_ble_eq_true rfl) (by first | with_reducible exact nI_inc _ | rfl) rfl ?_
              refine J_goto qX6_mask_139 ?_
              exact ih (by omega) ν2 v5 r1 r2 (r3.trans nx.symm)
            refine J_aload_n (i := 0) qX6_mask_73 rfl rfl ?_
            refine J_getR qX6_mask_74 fX6_32 (by assumption) (by assumption) ?_
            refine J_pushI qX6_mask_77 ?_
            refine J_iload (i := 4) qX6_mask_78 rfl ?_
            first | with_reducible refine J_iadd_n qX6_mask_80 ?_ | refine J_iadd qX6_mask_80 ?_
            refine J_ialde qX6_mask_81 (by assumption) rfl (by omega) (by (repeat first | with_reducible exact wI_e _ _ _ _ | (with_reducible apply rd_s; focus omega) | (with_reducible apply rd_c; focus omega) | (with_reducible apply rd_k; focus omega) | with_reducible exact rd_e (by omega)); first | done | assumption | rfl) ?_
            refine J_iload_n (i := 3) qX6_mask_82 rfl rfl ?_
            refine J_isub qX6_mask_83 ?_
            rw [b1]
            refine J_ist5 qX6_mask_84 (Nat.le_of_ble_eq_true rfl) rfl ?_
            by_cases ca : nI (cg (sP s).1 (f + m)).2.2.1 = a
            · have H2 : ∀ r, r ≤ dlt lo (cg (sP s).1 (f + m)).2.1 + 1 - dlt lo (cg (sP s).1 (f + m)).1 → ∀ ν2 : Mm, ν2.1 = ν.1 → (∀ c q, ¬ (c = 198 ∧ q = 30) → ν2.2 c q = ν.2 c q) → ν2.2 198 30 = mskF (sP s).1 lo a (dlt lo (cg (sP s).1 (f + m)).1 + r) → J mX6_mask (d+7) (0, 0) s0 (Ki G (fun q μ' => q = (maskS s (nI kk) a).1 ∧ RelM μ' (maskS s (nI kk) a).2 ∧ FrM μ μ')) (0, 0) 86 [.ref 198, .int (nI kk), .int a, .int lo, .int (nI (f + m)), .int (nI (dlt lo (cg (sP s).1 (f + m)).1 + r))] [] (G, ν2) := by
                refine ind_up (fun r hr ih2 ν2 r1 r2 r3 => ?_)
                have l2 : ν2.1 206 (13 + (f + m)) = (cg (sP s).1 (f + m)).2.1 := by rw [r1]; exact hc'.hi (by omega)
                have l3 : ν2.1 206 (25 + (f + m)) = nI (cg (sP s).1 (f + m)).2.2.1 := by rw [r1]; exact hc'.am (by omega)
                refine J_iload (i := 5) qX6_mask_86 rfl ?_
                refine J_aload_n (i := 0) qX6_mask_88 rfl rfl ?_
                refine J_getR qX6_mask_89 fX6_32 (by assumption) (by assumption) ?_
                refine J_pushI qX6_mask_92 ?_
                refine J_iload (i := 4) qX6_mask_94 rfl ?_
                first | with_reducible refine J_iadd_n qX6_mask_96 ?_ | refine J_iadd qX6_mask_96 ?_
                refine J_ialde qX6_mask_97 (by assumption) rfl (by omega) (by (repeat first | with_reducible exact wI_e _ _ _ _ | (with_reducible apply rd_s; focus omega) | (with_reducible apply rd_c; focus omega) | (with_reducible apply rd_k; focus omega) | with_reducible exact rd_e (by omega)); first | done | assumption | rfl) ?_
                refine J_iload_n (i := 3) qX6_mask_98 rfl rfl ?_
                refine J_isub qX6_mask_99 ?_
                rw [b3]
                first | with_reducible refine J_icmp_gt_n qX6_mask_100 (by omega) (by omega) (fun c3 => ?_) (fun c3 => ?_) | refine J_icmp_gt qX6_mask_100 (fun c3 => ?_) (fun c3 => ?_)
                · exact out ν2 _ r1 r2 (by rw [r3, show dlt lo (cg (sP s).1 (f + m)).1 + r = dlt lo (cg (sP s).1 (f + m)).2.1 + 1 by omega])
                · refine J_aload_n (i := 0) qX6_mask_103 rfl rfl ?_
                  refine J_getR qX6_mask_104 fX6_32 (by assumption) (by assumption) ?_
                  refine J_pushI qX6_mask_107 ?_
                  refine J_iload (i := 4) qX6_mask_109 rfl ?_
                  first | with_reducible refine J_iadd_n qX6_mask_111 ?_ | refine J_iadd qX6_mask_111 ?_
                  refine J_ialde qX6_mask_112 (by assumption) rfl (by omega) (by (repeat first | with_reducible exact wI_e _ _ _ _ | (with_reducible apply rd_s; focus omega) | (with_reducible apply rd_c; focus omega) | (with_reducible apply rd_k; focus omega) | with_reducible exact rd_e (by omega)); first | done | assumption | rfl) ?_
                  refine J_iload_n (i := 2) qX6_mask_113 rfl rfl ?_
                  refine J_icmp_ne qX6_mask_114 (fun z => absurd ca z) (fun _ => ?_)
                  refine J_aload_n (i := 0) qX6_mask_117 rfl rfl ?_
                  refine J_dup qX6_mask_118 rfl ?_
                  refine J_getLe qX6_mask_119 fX6_299 (by assumption) (by (repeat first | with_reducible exact wL_e _ _ _ _ | with_reducible apply rdl_i | (with_reducible apply rdl_s; focus omega) | (with_reducible apply rdl_k; focus omega)); first | done | assumption | rfl) ?_
                  refine J_pushL qX6_mask_122 ?_
                  refine J_iload (i := 5) qX6_mask_123 rfl ?_
                  refine J_lshl qX6_mask_125 ?_
                  refine J_lor qX6_mask_126 ?_
                  refine J_putL qX6_mask_127 fX6_299p (by assumption) rfl rfl ?_
                  refine J_inc5 qX6_mask_130 (Nat.le_of_ble_eq_true rfl) (by first | with_reducible exact nI_inc _ | rfl) rfl ?_
                  refine J_goto qX6_mask_133 ?_
                  refine ih2 (by omega) _ r1 (fun c q z => by rw [wL_n z]; exact r2 c q z) ?_
                  rw [wL_e, show dlt lo (cg (sP s).1 (f + m)).1 + (r + 1) = dlt lo (cg (sP s).1 (f + m)).1 + r + 1 by omega, mskF_succ, if_pos ((inn (f + m) _ (by omega) (by omega) (by omega) (by omega)).trans ca)]
              exact H2 0 (Nat.zero_le _) ν1 hE hO hZ
            · refine J_iload (i := 5) qX6_mask_86 rfl ?_
              refine J_aload_n (i := 0) qX6_mask_88 rfl rfl ?_
              refine J_getR qX6_mask_89 fX6_32 (by assumption) (by assumption) ?_
              refine J_pushI qX6_mask_92 ?_
              refine J_iload (i := 4) qX6_mask_94 rfl ?_
              first | with_reducible refine J_iadd_n qX6_mask_96 ?_ | refine J_iadd qX6_mask_96 ?_
              refine J_ialde qX6_mask_97 (by assumption) rfl (by omega) (by (repeat first | with_reducible exact wI_e _ _ _ _ | (with_reducible apply rd_s; focus omega) | (with_reducible apply rd_c; focus omega) | (with_reducible apply rd_k; focus omega) | with_reducible exact rd_e (by omega)); first | done | assumption | rfl) ?_
              refine J_iload_n (i := 3) qX6_mask_98 rfl rfl ?_
              refine J_isub qX6_mask_99 ?_
              rw [b3]
              refine J_icmp_gt_n qX6_mask_100 (by omega) (by omega) (fun z => absurd z (by omega)) (fun _ => ?_)
              refine J_aload_n (i := 0) qX6_mask_103 rfl rfl ?_
              refine J_getR qX6_mask_104 fX6_32 (by assumption) (by assumption) ?_
              refine J_pushI qX6_mask_107 ?_
              refine J_iload (i := 4) qX6_mask_109 rfl ?_
              first | with_reducible refine J_iadd_n qX6_mask_111 ?_ | refine J_iadd qX6_mask_111 ?_
              refine J_ialde qX6_mask_112 (by assumption) rfl (by omega) (by (repeat first | with_reducible exact wI_e _ _ _ _ | (with_reducible apply rd_s; focus omega) | (with_reducible apply rd_c; focus omega) | (with_reducible apply rd_k; focus omega) | with_reducible exact rd_e (by omega)); first | done | assumption | rfl) ?_
              refine J_iload_n (i := 2) qX6_mask_113 rfl rfl ?_
              refine J_icmp_ne qX6_mask_114 (fun _ => ?_) (fun z => absurd z ca)
              exact out ν1 _ hE hO (by rw [hZ, skip (f + m) (by omega) (by omega) ca])
        refine J_aload_n (i := 0) qX6_mask_35 rfl rfl ?_
        refine J_pushL qX6_mask_36 ?_
        refine J_putL qX6_mask_37 fX6_299p (by assumption) rfl rfl ?_
        refine J_aload_n (i := 0) qX6_mask_40 rfl rfl ?_
        refine J_getR qX6_mask_41 fX6_32 (by assumption) (by assumption) ?_
        refine J_pushI qX6_mask_44 ?_
        refine J_aload_n (i := 0) qX6_mask_45 rfl rfl ?_
        refine J_getR qX6_mask_46 fX6_53 (by assumption) (by assumption) ?_
        refine J_iload_n (i := 1) qX6_mask_49 rfl rfl ?_
        refine J_ialde qX6_mask_50 (by assumption) rfl (by omega) (by (repeat first | with_reducible exact wI_e _ _ _ _ | (with_reducible apply rd_s; focus omega) | (with_reducible apply rd_c; focus omega) | (with_reducible apply rd_k; focus omega) | with_reducible exact rd_e (by omega)); first | done | assumption | rfl) ?_
        first | with_reducible refine J_iadd_n qX6_mask_51 ?_ | refine J_iadd qX6_mask_51 ?_
        refine J_ialde qX6_mask_52 (by assumption) rfl (by omega) (by (repeat first | with_reducible exact wI_e _ _ _ _ | (with_reducible apply rd_s; focus omega) | (with_reducible apply rd_c; focus omega) | (with_reducible apply rd_k; focus omega) | with_reducible exact rd_e (by omega)); first | done | assumption | rfl) ?_
        refine J_ist3 qX6_mask_53 (Nat.le_of_ble_eq_true rfl) rfl ?_
        refine J_aload_n (i := 0) qX6_mask_54 rfl rfl ?_
        refine J_getR qX6_mask_55 fX6_53 (by assumption) (by assumption) ?_
        refine J_iload_n (i := 1) qX6_mask_58 rfl rfl ?_
        refine J_ialde qX6_mask_59 (by assumption) rfl (by omega) (by (repeat first | with_reducible exact wI_e _ _ _ _ | (with_reducible apply rd_s; focus omega) | (with_reducible apply rd_c; focus omega) | (with_reducible apply rd_k; focus omega) | with_reducible exact rd_e (by omega)); first | done | assumption | rfl) ?_
        refine J_ist4 qX6_mask_60 (Nat.le_of_ble_eq_true rfl) rfl ?_
        refine H 0 (Nat.zero_le _) _ .null rfl (fun c q z => wL_n z) ?_
        rw [wL_e, if_pos (by omega), Nat.add_zero, hlo, show dlt lo lo = 0 by unfold dlt; omega]
        rfl
      · rw [e1, if_pos (fun z => c1 (by rw [z]))]
        refine J_aload_n (i := 0) qX6_mask_29 rfl rfl ?_
        refine J_pushI qX6_mask_30 ?_
        refine J_vi1 qX6_mask_31 kX6_83 (by assumption) (m_found (d := d + 6) hM0 h' (f := 3) (by omega)) (Nat.le_of_ble_eq_true rfl) (fun v1 ν1 hr => ?_)
        refine Ji_ret qX6_mask_34 ?_
        exact ⟨hr.1, hr.2.1, hF'.tr hr.2.2⟩
variable {c0 : List Cs}
theorem m_isOther (hM : LayM G) (hc : MC μ 206 0 cs) (ho : OkC cs) (hP : PlnM μ cs) (hO : OldP μ c0) (hl : cs.length = c0.length) : Si mX6_isOther (d+4) [.ref 198] G μ (fun r μ' => μ = μ' ∧ r = b2i (!(sameB cs c0 true true))) := by
  have hM0 := hM
  obtain ⟨mO, ⟨-, -, -, -, -, -, -, f17, -, -, -, -, f24, f25, f27, f28, f29, f32, f33⟩, ⟨-, -, -, -, -, -, -, b206, -, -, -, -, b211, b212, b213, b214, b215, b216, b217⟩⟩ := hM
  have h12 := hc.2.1
  have pl12 := prt_len (cs := cs) true true h12
  have pl0 := prt_len (cs := c0) true true (by omega)
  have e26 := hP.2.1
  have e31 := hO.1
  have yes : ∀ v2 : Value, sameB cs c0 true true = false → J mX6_isOther (d+4) (0, 0) s0 (Ki G (fun r μ' => μ = μ' ∧ r = b2i (!(sameB cs c0 true true)))) (0, 0) 72 [.ref 198, .int (nI 1), v2] [] (G, μ) := fun v2 hs => by
    refine J_iload_n (i := 1) qX6_isOther_72 rfl rfl ?_
    refine Jz_ret qX6_isOther_73 (by first | exact Or.inl rfl | exact Or.inr rfl | assumption) ?_
    exact ⟨rfl, by rw [hs]; rfl⟩
  refine Si_of (ls := [.ref 198, .null, .null]) (by decide +kernel) (Nat.le_of_ble_eq_true rfl) rfl ?_
  refine J_aload_n (i := 0) qX6_isOther_0 rfl rfl ?_
  refine J_getIe qX6_isOther_1 fX6_274 (by assumption) (by (repeat first | with_reducible exact wI_e _ _ _ _ | (with_reducible apply rd_s; focus omega) | (with_reducible apply rd_c; focus omega) | (with_reducible apply rd_k; focus omega) | with_reducible exact rd_e (by omega)); first | done | assumption | rfl) ?_
  refine J_aload_n (i := 0) qX6_isOther_4 rfl rfl ?_
  refine J_getIe qX6_isOther_5 fX6_302 (by assumption) (by (repeat first | with_reducible exact wI_e _ _ _ _ | (with_reducible apply rd_s; focus omega) | (with_reducible apply rd_c; focus omega) | (with_reducible apply rd_k; focus omega) | with_reducible exact rd_e (by omega)); first | done | assumption | rfl) ?_
  refine J_icmp_eq_n qX6_isOther_8 (by omega) (by omega) (fun c1 => ?_) (fun c1 => ?_)
  · refine J_pushI qX6_isOther_15 ?_
    refine J_ist1 qX6_isOther_16 (Nat.le_of_ble_eq_true rfl) rfl ?_
    refine J_pushI qX6_isOther_17 ?_
    refine J_ist2 qX6_isOther_18 (Nat.le_of_ble_eq_true rfl) rfl ?_
    have H : ∀ k, k ≤ (prtF cs true true).length → (∀ e, e < k → (pg (prtF cs true true) e).1 = (pg (prtF c0 true true) e).1 ∧ psF cs true true e = psF c0 true true e) → J mX6_isOther (d+4) (0, 0) s0 (Ki G (fun r μ' => μ = μ' ∧ r = b2i (!(sameB cs c0 true true)))) (0, 0) 19 [.ref 198, .int (nI 0), .int (nI k)] [] (G, μ) := by
      refine ind_up (fun k hk ih hinv => ?_)
      refine J_iload_n (i := 2) qX6_isOther_19 rfl rfl ?_
      refine J_aload_n (i := 0) qX6_isOther_20 rfl rfl ?_
      refine J_getIe qX6_isOther_21 fX6_274 (by assumption) (by (repeat first | with_reducible exact wI_e _ _ _ _ | (with_reducible apply rd_s; focus omega) | (with_reducible apply rd_c; focus omega) | (with_reducible apply rd_k; focus omega) | with_reducible exact rd_e (by omega)); first | done | assumption | rfl) ?_
      first | with_reducible refine J_icmp_ge_n qX6_isOther_24 (by omega) (by omega) (fun c2 => ?_) (fun c2 => ?_) | refine J_icmp_ge qX6_isOther_24 (fun c2 => ?_) (fun c2 => ?_)
      · refine J_iload_n (i := 1) qX6_isOther_72 rfl rfl ?_
        refine Jz_ret qX6_isOther_73 (by first | exact Or.inl rfl | exact Or.inr rfl | assumption) ?_
        have hs := oth_same hl h12 c1 (fun e he => hinv e (by omega))
        exact ⟨rfl, by rw [hs]; rfl⟩
      · obtain ⟨a1, a2, a3⟩ := hP.1 k c2
        obtain ⟨o1, o2⟩ := hO.2 k (by omega)
        have ps := prt_sort ho h12 c2
        have sq0 := sort_le c0 true true (pg (prtF c0 true true) k).1 (pg (prtF c0 true true) k).2.1
        have sq1 : psF c0 true true k ≤ 4 := sq0
        have pa := prt_at h12 c2
        have pa0 := prt_at (cs := c0) (rw := true) (mk := true) (by omega) (k := k) (by omega)
        have diff : ¬ ((pg (prtF cs true true) k).1 = (pg (prtF c0 true true) k).1 ∧ psF cs true true k = psF c0 true true k) → J mX6_isOther (d+4) (0, 0) s0 (Ki G (fun r μ' => μ = μ' ∧ r = b2i (!(sameB cs c0 true true)))) (0, 0) 60 [.ref 198, .int (nI 0), .int (nI k)] [] (G, μ) := fun hd => by
          have hs : sameB cs c0 true true = false := by
            cases hq : sameB cs c0 true true with
            | false => rfl
            | true => exact absurd ((same_oth hq).2 k c2) hd
          refine J_pushI qX6_isOther_60 ?_
          refine J_goto qX6_isOther_61 ?_
          refine J_ist1 qX6_isOther_65 (Nat.le_of_ble_eq_true rfl) rfl ?_
          refine J_inc2 qX6_isOther_66 (Nat.le_of_ble_eq_true rfl) (by first | with_reducible exact nI_inc _ | rfl) rfl ?_
          refine J_goto qX6_isOther_69 ?_
          refine J_iload_n (i := 2) qX6_isOther_19 rfl rfl ?_
          refine J_aload_n (i := 0) qX6_isOther_20 rfl rfl ?_
          refine J_getIe qX6_isOther_21 fX6_274 (by assumption) (by (repeat first | with_reducible exact wI_e _ _ _ _ | (with_reducible apply rd_s; focus omega) | (with_reducible apply rd_c; focus omega) | (with_reducible apply rd_k; focus omega) | with_reducible exact rd_e (by omega)); first | done | assumption | rfl) ?_
          refine J_icmp_ge_n qX6_isOther_24 (by omega) (by omega) (fun _ => yes _ hs) (fun _ => ?_)
          refine J_iload_n (i := 1) qX6_isOther_27 rfl rfl ?_
          refine J_if_ne qX6_isOther_28 (fun _ => yes _ hs) (fun z => absurd z (by decide))
        refine J_iload_n (i := 1) qX6_isOther_27 rfl rfl ?_
        refine J_if_ne qX6_isOther_28 (fun z => absurd rfl z) (fun _ => ?_)
        refine J_aload_n (i := 0) qX6_isOther_31 rfl rfl ?_
        refine J_getR qX6_isOther_32 fX6_53 (by assumption) (by assumption) ?_
        refine J_iload_n (i := 2) qX6_isOther_35 rfl rfl ?_
        refine J_ialde qX6_isOther_36 (by assumption) rfl (by omega) (by (repeat first | with_reducible exact wI_e _ _ _ _ | (with_reducible apply rd_s; focus omega) | (with_reducible apply rd_c; focus omega) | (with_reducible apply rd_k; focus omega) | with_reducible exact rd_e (by omega)); first | done | assumption | rfl) ?_
        refine J_aload_n (i := 0) qX6_isOther_37 rfl rfl ?_
        refine J_getR qX6_isOther_38 fX6_62 (by assumption) (by assumption) ?_
        refine J_iload_n (i := 2) qX6_isOther_41 rfl rfl ?_
        refine J_ialde qX6_isOther_42 (by assumption) rfl (by omega) (by (repeat first | with_reducible exact wI_e _ _ _ _ | (with_reducible apply rd_s; focus omega) | (with_reducible apply rd_c; focus omega) | (with_reducible apply rd_k; focus omega) | with_reducible exact rd_e (by omega)); first | done | assumption | rfl) ?_
        refine J_icmp_ne_n qX6_isOther_43 (by omega) (by omega) (fun c3 => diff (fun z => c3 z.1)) (fun c3 => ?_)
        refine J_aload_n (i := 0) qX6_isOther_46 rfl rfl ?_
        refine J_iload_n (i := 2) qX6_isOther_47 rfl rfl ?_
        refine J_vi1 qX6_isOther_48 kX6_280 (by assumption) (m_partSort (d := d) hM0 hc ho hP.1 c2) (Nat.le_of_ble_eq_true rfl) (fun v1 μ' hr => ?_)
        obtain ⟨rfl, rfl⟩ := hr
        refine J_aload_n (i := 0) qX6_isOther_51 rfl rfl ?_
        refine J_getR qX6_isOther_52 fX6_65 (by assumption) (by assumption) ?_
        refine J_iload_n (i := 2) qX6_isOther_55 rfl rfl ?_
        refine J_ialde qX6_isOther_56 (by assumption) rfl (by omega) (by (repeat first | with_reducible exact wI_e _ _ _ _ | (with_reducible apply rd_s; focus omega) | (with_reducible apply rd_c; focus omega) | (with_reducible apply rd_k; focus omega) | with_reducible exact rd_e (by omega)); first | done | assumption | rfl) ?_
        refine J_icmp_eq_n qX6_isOther_57 (by omega) (by omega) (fun c4 => ?_) (fun c4 => diff (fun z => c4 z.2))
        refine J_pushI qX6_isOther_64 ?_
        refine J_ist1 qX6_isOther_65 (Nat.le_of_ble_eq_true rfl) rfl ?_
        refine J_inc2 qX6_isOther_66 (Nat.le_of_ble_eq_true rfl) (by first | with_reducible exact nI_inc _ | rfl) rfl ?_
        refine J_goto qX6_isOther_69 ?_
        exact ih c2 (fun e he => by
          by_cases q : e = k
          · rw [q]; exact ⟨c3, c4⟩
          · exact hinv e (by omega))
    exact H 0 (Nat.zero_le _) (fun e he => absurd he (Nat.not_lt_zero e))
  · have hs : sameB cs c0 true true = false := by
      cases hq : sameB cs c0 true true with
      | false => rfl
      | true => exact absurd (same_oth hq).1 c1
    refine J_pushI qX6_isOther_11 ?_
    refine J_goto qX6_isOther_12 ?_
    refine J_ist1 qX6_isOther_16 (Nat.le_of_ble_eq_true rfl) rfl ?_
    refine J_pushI qX6_isOther_17 ?_
    refine J_ist2 qX6_isOther_18 (Nat.le_of_ble_eq_true rfl) rfl ?_
    refine J_iload_n (i := 2) qX6_isOther_19 rfl rfl ?_
    refine J_aload_n (i := 0) qX6_isOther_20 rfl rfl ?_
    refine J_getIe qX6_isOther_21 fX6_274 (by assumption) (by (repeat first | with_reducible exact wI_e _ _ _ _ | (with_reducible apply rd_s; focus omega) | (with_reducible apply rd_c; focus omega) | (with_reducible apply rd_k; focus omega) | with_reducible exact rd_e (by omega)); first | done | assumption | rfl) ?_
    refine J_icmp_ge_n qX6_isOther_24 (by omega) (by omega) (fun _ => yes _ hs) (fun _ => ?_)
    refine J_iload_n (i := 1) qX6_isOther_27 rfl rfl ?_
    refine J_if_ne qX6_isOther_28 (fun _ => yes _ hs) (fun z => absurd z (by decide))
theorem m_swing (hM : LayM G) (h : RelM μ s) (i : Int32) : Si mX6_swing (d+6) [.ref 198, .int i] G μ (fun q μ' => q = (swingS s i).1 ∧ RelM μ' (swingS s i).2 ∧ FrM μ μ') := by
  have hM0 := hM
  obtain ⟨mO, ⟨-, -, -, -, -, -, -, f17, -, -, -, -, f24, f25, f27, f28, f29, f32, f33⟩, ⟨-, -, -, -, -, -, -, b206, -, -, -, -, b211, b212, b213, b214, b215, b216, b217⟩⟩ := hM
  have hc := h.2.2.1.1
  have ho := h.2.2.1.2.2.2.1.1
  have h12 := hc.2.1
  have pl12 := prt_len (cs := (sP s).1) true true h12
  refine Si_of (ls := [.ref 198, .int i, .null, .null, .null, .null]) (by decide +kernel) (Nat.le_of_ble_eq_true rfl) rfl ?_
  refine J_aload_n (i := 0) qX6_swing_0 rfl rfl ?_
  refine J_iload_n (i := 1) qX6_swing_1 rfl rfl ?_
  refine J_vi1 qX6_swing_2 kX6_221 (by assumption) (m_isCase (d := d + 4) hM0 hc i) (Nat.le_of_ble_eq_true rfl) (fun v1 μ' hr => ?_)
  obtain ⟨rfl, rfl⟩ := hr
  cases hb : hasB (sP s).1.length i with
  | false =>
    first | refine J_if_ne qX6_swing_5 (fun c => absurd b2i_f0 c) (fun _ => ?_) | refine J_if_ne qX6_swing_5 (fun _ => ?_) (fun c => absurd c b2i_t0)
    rw [show swingS s i = (-1, s) from if_pos hb]
    refine J_pushI qX6_swing_8 ?_
    refine Ji_ret qX6_swing_9 ?_
    exact ⟨rfl, h, FrM.rf⟩
  | true =>
    first | refine J_if_ne qX6_swing_5 (fun c => absurd b2i_f0 c) (fun _ => ?_) | refine J_if_ne qX6_swing_5 (fun _ => ?_) (fun c => absurd c b2i_t0)
    have eS : swingS s i = swV s (ix i) (swF (sP s).1 (ix i) 10 0) := if_neg (by rw [hb]; decide)
    obtain ⟨k, hk, rfl⟩ := hasB_of (by omega) hb
    rw [ix_n (by omega)] at eS
    have own := (ho.1 k hk).2.2
    refine J_aload_n (i := 0) qX6_swing_10 rfl rfl ?_
    refine J_vi0 qX6_swing_11 kX6_283 (by assumption) (m_layPlan (d := d) hM0 hc ho) (Nat.le_of_ble_eq_true rfl) (fun v1 ν hr => ?_)
    obtain ⟨rfl, hA, h26, hT, hF⟩ := hr
    refine J_pop qX6_swing_14 rfl ?_
    refine J_aload_n (i := 0) qX6_swing_15 rfl rfl ?_
    refine J_aload_n (i := 0) qX6_swing_16 rfl rfl ?_
    refine J_getIe qX6_swing_17 fX6_274 (by assumption) (by (repeat first | with_reducible exact wI_e _ _ _ _ | (with_reducible apply rd_s; focus omega) | (with_reducible apply rd_c; focus omega) | (with_reducible apply rd_k; focus omega) | with_reducible exact rd_e (by omega)); first | done | assumption | rfl) ?_
    refine J_putI qX6_swing_20 fX6_302p (by assumption) rfl rfl ?_
    refine J_pushI qX6_swing_23 ?_
    refine J_ist2 qX6_swing_24 (Nat.le_of_ble_eq_true rfl) rfl ?_
    have fin : ∀ (ν1 : Mm) (w : Nat) (o : Option Nat) (v4 v5 : Value), w ≤ 10 → (∀ c q, ¬ (Fre c q ∨ c = 206) → ν1.1 c q = μ.1 c q) → ν1.2 = μ.2 → (∃ w', MC ν1 206 0 (setW (sP s).1 k w')) → swF (sP s).1 k 10 0 = o → (∀ w', o = some w' → w' < 10 ∧ v4 = .int (nI (prtF (setW (sP s).1 k w') true true).length)) → J mX6_swing (d+6) (0, 0) s0 (Ki G (fun q μ' => q = (swingS s (nI k)).1 ∧ RelM μ' (swingS s (nI k)).2 ∧ FrM μ μ')) (0, 0) 137 [.ref 198, .int (nI k), .int (nI (cg (sP s).1 k).2.2.2), .int (cutM o), v4, v5] [] (G, ν1) := fun ν1 w o v4 v5 hw hF1 hG1 hMC hSw hv4 => by
      obtain ⟨w', hMC⟩ := hMC
      have hC2 := MC.stW hMC (i := k) (by rw [setW_len]; exact hk) (cg (sP s).1 k).2.2.2
      rw [setW_setW _ _ _ _ hk, setW_self _ _ hk] at hC2
      obtain ⟨r1, r2⟩ := h.nowE (μ' := wI ν1 206 (37 + k) (nI (cg (sP s).1 k).2.2.2)) (fun c q z => by rw [wI_n (fun y => z (Or.inr y.1))]; exact hF1 c q z) hG1 hC2
      refine J_aload_n (i := 0) qX6_swing_137 rfl rfl ?_
      refine J_getR qX6_swing_138 fX6_32 (by assumption) (by assumption) ?_
      refine J_pushI qX6_swing_141 ?_
      refine J_iload_n (i := 1) qX6_swing_143 rfl rfl ?_
      first | with_reducible refine J_iadd_n qX6_swing_144 ?_ | refine J_iadd qX6_swing_144 ?_
      refine J_iload_n (i := 2) qX6_swing_145 rfl rfl ?_
      refine J_iast qX6_swing_146 (by assumption) rfl (by omega) ?_
      refine J_iload_n (i := 3) qX6_swing_147 rfl rfl ?_
      refine J_pushI qX6_swing_148 ?_
      cases o with
      | none =>
        refine J_icmp_ne qX6_swing_150 (fun z => absurd rfl z) (fun _ => ?_)
        refine J_pushI qX6_swing_153 ?_
        refine J_goto qX6_swing_155 ?_
        refine Ji_ret qX6_swing_165 ?_
        rw [eS, hSw]
        exact ⟨rfl, r1, r2⟩
      | some w2 =>
        obtain ⟨hw2, rfl⟩ := hv4 w2 rfl
        refine J_icmp_ne qX6_swing_150 (fun _ => ?_) (fun z => absurd z (nI_m9 (by omega)))
        refine J_aload_n (i := 0) qX6_swing_158 rfl rfl ?_
        refine J_iload (i := 4) qX6_swing_159 rfl ?_
        refine J_iload_n (i := 3) qX6_swing_161 rfl rfl ?_
        refine J_vi2 qX6_swing_162 kX6_91 mO (m_tells (d := d + 5) hM0 r1 (nI (prtF (setW (sP s).1 k w2) true true).length) (cutM (some w2))) (Nat.le_of_ble_eq_true rfl) (fun v1 ν2 hr => ?_)
        obtain ⟨rfl, g1, g2⟩ := hr
        refine Ji_ret qX6_swing_165 ?_
        rw [eS, hSw]
        exact ⟨rfl, g1, r2.tr g2⟩
    have H : ∀ w, w ≤ 10 → ∀ (ν1 : Mm) (v4 : Int32), (∀ c q, ¬ (Fre c q ∨ c = 206) → ν1.1 c q = μ.1 c q) → ν1.2 = μ.2 → OldP ν1 (sP s).1 → (∃ w', MC ν1 206 0 (setW (sP s).1 k w')) → swF (sP s).1 k 10 0 = swF (sP s).1 k (10 - w) w → J mX6_swing (d+6) (0, 0) s0 (Ki G (fun q μ' => q = (swingS s (nI k)).1 ∧ RelM μ' (swingS s (nI k)).2 ∧ FrM μ μ')) (0, 0) 81 [.ref 198, .int (nI k), .int (nI (cg (sP s).1 k).2.2.2), .int (cutM none), .int v4, .int (nI w)] [] (G, ν1) := by
      refine ind_up (fun w hw ih ν1 v4 hF1 hG1 hO hMC hE => ?_)
      refine J_iload (i := 5) qX6_swing_81 rfl ?_
      refine J_pushI qX6_swing_83 ?_
      first | with_reducible refine J_icmp_ge_n qX6_swing_85 (by omega) (by omega) (fun c1 => ?_) (fun c1 => ?_) | refine J_icmp_ge qX6_swing_85 (fun c1 => ?_) (fun c1 => ?_)
      · exact fin ν1 10 none _ _ (by omega) hF1 hG1 hMC (by rw [hE, show 10 - w = 0 by omega]; rfl) (fun w' z => by cases z)
      · rw [show 10 - w = (10 - (w + 1)) + 1 by omega, swF_succ (sP s).1 k (10 - (w + 1)) w] at hE
        refine J_iload_n (i := 3) qX6_swing_88 rfl rfl ?_
        refine J_pushI qX6_swing_89 ?_
        refine J_icmp_ne qX6_swing_91 (fun z => absurd rfl z) (fun _ => ?_)
        obtain ⟨w', hMC⟩ := hMC
        have hC2 := MC.stW hMC (i := k) (by rw [setW_len]; exact hk) w
        rw [setW_setW _ _ _ _ hk] at hC2
        have oW := ok_setW ho hk (w := w) (by omega)
        have lW := setW_len (sP s).1 k w
        have plW := prt_len (cs := setW (sP s).1 k w) true true (by omega)
        refine J_aload_n (i := 0) qX6_swing_94 rfl rfl ?_
        refine J_getR qX6_swing_95 fX6_32 (by assumption) (by assumption) ?_
        refine J_pushI qX6_swing_98 ?_
        refine J_iload_n (i := 1) qX6_swing_100 rfl rfl ?_
        first | with_reducible refine J_iadd_n qX6_swing_101 ?_ | refine J_iadd qX6_swing_101 ?_
        refine J_iload (i := 5) qX6_swing_102 rfl ?_
        refine J_iast qX6_swing_104 (by assumption) rfl (by omega) ?_
        refine J_aload_n (i := 0) qX6_swing_105 rfl rfl ?_
        refine J_vi0 qX6_swing_106 kX6_283 (by assumption) (m_layPlan (d := d) hM0 hC2 oW) (Nat.le_of_ble_eq_true rfl) (fun v1 ν2 hr => ?_)
        obtain ⟨rfl, gA, g26, gT, gF⟩ := hr
        have hF2 : ∀ c q, ¬ (Fre c q ∨ c = 206) → ν2.1 c q = μ.1 c q := fun c q z => by
          rw [gF.1 _ _ (fun y => z (Or.inl (by unfold PlM at y; unfold Fre; omega))), wI_n (fun y => z (Or.inr y.1))]
          exact hF1 c q z
        have hG2 : ν2.2 = μ.2 := gF.2.trans hG1
        have hO2 : OldP ν2 (sP s).1 := ⟨by rw [gF.1 _ _ (fun y => by unfold PlM at y; omega), wI_n (by omega)]; exact hO.1, fun e he => ⟨by rw [gF.1 _ _ (fun y => by unfold PlM at y; omega), wI_n (by omega)]; exact (hO.2 e he).1, by rw [gF.1 _ _ (fun y => by unfold PlM at y; omega), wI_n (by omega)]; exact (hO.2 e he).2⟩⟩
        have hC3 := hC2.fr gF
        refine J_pop qX6_swing_109 rfl ?_
        refine J_aload_n (i := 0) qX6_swing_110 rfl rfl ?_
        refine J_vi0 qX6_swing_111 kX6_305 (by assumption) (m_isOther (d := d + 1) hM0 hC3 oW ⟨gA, g26, gT⟩ hO2 lW) (Nat.le_of_ble_eq_true rfl) (fun v1 μ' hr => ?_)
        obtain ⟨rfl, rfl⟩ := hr
        cases hs : sameB (setW (sP s).1 k w) (sP s).1 true true with
        | false =>
          have wne : ¬ w = (cg (sP s).1 k).2.2.2 := fun z => by
            rw [z, setW_self _ _ hk, same_self] at hs
            cases hs
          rw [if_pos ⟨wne, hs⟩] at hE
          refine J_if_eq qX6_swing_114 (fun c => absurd c b2i_t0) (fun _ => ?_)
          refine J_iload (i := 5) qX6_swing_117 rfl ?_
          refine J_goto qX6_swing_119 ?_
          refine J_ist3 qX6_swing_124 (Nat.le_of_ble_eq_true rfl) rfl ?_
          refine J_aload_n (i := 0) qX6_swing_125 rfl rfl ?_
          refine J_getIe qX6_swing_126 fX6_274 (by assumption) (by (repeat first | with_reducible exact wI_e _ _ _ _ | (with_reducible apply rd_s; focus omega) | (with_reducible apply rd_c; focus omega) | (with_reducible apply rd_k; focus omega) | with_reducible exact rd_e (by omega)); first | done | assumption | rfl) ?_
          refine J_ist4 qX6_swing_129 (Nat.le_of_ble_eq_true rfl) rfl ?_
          refine J_inc5 qX6_swing_131 (Nat.le_of_ble_eq_true rfl) (by first | with_reducible exact nI_inc _ | rfl) rfl ?_
          refine J_goto qX6_swing_134 ?_
          refine J_iload (i := 5) qX6_swing_81 rfl ?_
          refine J_pushI qX6_swing_83 ?_
          refine J_icmp_ge_n qX6_swing_85 (by omega) (by omega) (fun _ => ?_) (fun _ => ?_)
          · exact fin ν2 10 (some w) _ _ (by omega) hF2 hG2 ⟨w, hC3⟩ hE (fun w' z => by cases z; exact ⟨by omega, rfl⟩)
          · refine J_iload_n (i := 3) qX6_swing_88 rfl rfl ?_
            refine J_pushI qX6_swing_89 ?_
            refine J_icmp_ne qX6_swing_91 (fun _ => ?_) (fun z => absurd z (nI_m9 (by omega)))
            exact fin ν2 10 (some w) _ _ (by omega) hF2 hG2 ⟨w, hC3⟩ hE (fun w' z => by cases z; exact ⟨by omega, rfl⟩)
        | true =>
          rw [if_neg (fun z => by rw [hs] at z; cases z.2)] at hE
          refine J_if_eq qX6_swing_114 (fun _ => ?_) (fun c => absurd b2i_f0 c)
          refine J_pushI qX6_swing_122 ?_
          refine J_ist3 qX6_swing_124 (Nat.le_of_ble_eq_true rfl) rfl ?_
          refine J_aload_n (i := 0) qX6_swing_125 rfl rfl ?_
          refine J_getIe qX6_swing_126 fX6_274 (by assumption) (by (repeat first | with_reducible exact wI_e _ _ _ _ | (with_reducible apply rd_s; focus omega) | (with_reducible apply rd_c; focus omega) | (with_reducible apply rd_k; focus omega) | with_reducible exact rd_e (by omega)); first | done | assumption | rfl) ?_
          refine J_ist4 qX6_swing_129 (Nat.le_of_ble_eq_true rfl) rfl ?_
          refine J_inc5 qX6_swing_131 (Nat.le_of_ble_eq_true rfl) (by first | with_reducible exact nI_inc _ | rfl) rfl ?_
          refine J_goto qX6_swing_134 ?_
          exact ih (by omega) ν2 _ hF2 hG2 hO2 ⟨w, hC3⟩ hE
    have H1 : ∀ e, e ≤ (prtF (sP s).1 true true).length → ∀ ν1 : Mm, Fr ν ν1 (fun c q => (c = 198 ∧ q = 31) ∨ c = 216 ∨ c = 217) → ν1.1 198 31 = nI (prtF (sP s).1 true true).length → (∀ q, q < e → ν1.1 216 q = nI (pg (prtF (sP s).1 true true) q).1 ∧ ν1.1 217 q = nI (psF (sP s).1 true true q)) → J mX6_swing (d+6) (0, 0) s0 (Ki G (fun q μ' => q = (swingS s (nI k)).1 ∧ RelM μ' (swingS s (nI k)).2 ∧ FrM μ μ')) (0, 0) 25 [.ref 198, .int (nI k), .int (nI e), .null, .null, .null] [] (G, ν1) := by
      refine ind_up (fun e he ih ν1 hF1 h31 hinv => ?_)
      have hc1 : MC ν1 206 0 (sP s).1 := (hc.fr hF).ag (fun q _ _ => hF1.1 _ _ (by omega))
      have e26 : ν1.1 198 26 = nI (prtF (sP s).1 true true).length := (hF1.1 _ _ (by omega)).trans h26
      have hA1 : AtM ν1 (prtF (sP s).1 true true) := fun q hq => by
        obtain ⟨a1, a2, a3⟩ := hA q hq
        exact ⟨(hF1.1 _ _ (by omega)).trans a1, (hF1.1 _ _ (by omega)).trans a2, (hF1.1 _ _ (by omega)).trans a3⟩
      refine J_iload_n (i := 2) qX6_swing_25 rfl rfl ?_
      refine J_aload_n (i := 0) qX6_swing_26 rfl rfl ?_
      refine J_getIe qX6_swing_27 fX6_274 (by assumption) (by (repeat first | with_reducible exact wI_e _ _ _ _ | (with_reducible apply rd_s; focus omega) | (with_reducible apply rd_c; focus omega) | (with_reducible apply rd_k; focus omega) | with_reducible exact rd_e (by omega)); first | done | assumption | rfl) ?_
      first | with_reducible refine J_icmp_ge_n qX6_swing_30 (by omega) (by omega) (fun c1 => ?_) (fun c1 => ?_) | refine J_icmp_ge qX6_swing_30 (fun c1 => ?_) (fun c1 => ?_)
      · have ew := hc1.wt hk
        refine J_aload_n (i := 0) qX6_swing_62 rfl rfl ?_
        refine J_getR qX6_swing_63 fX6_32 (by assumption) (by assumption) ?_
        refine J_pushI qX6_swing_66 ?_
        refine J_iload_n (i := 1) qX6_swing_68 rfl rfl ?_
        first | with_reducible refine J_iadd_n qX6_swing_69 ?_ | refine J_iadd qX6_swing_69 ?_
        refine J_ialde qX6_swing_70 (by assumption) rfl (by omega) (by (repeat first | with_reducible exact wI_e _ _ _ _ | (with_reducible apply rd_s; focus omega) | (with_reducible apply rd_c; focus omega) | (with_reducible apply rd_k; focus omega) | with_reducible exact rd_e (by omega)); first | done | assumption | rfl) ?_
        refine J_ist2 qX6_swing_71 (Nat.le_of_ble_eq_true rfl) rfl ?_
        refine J_pushI qX6_swing_72 ?_
        refine J_ist3 qX6_swing_74 (Nat.le_of_ble_eq_true rfl) rfl ?_
        refine J_pushI qX6_swing_75 ?_
        refine J_ist4 qX6_swing_76 (Nat.le_of_ble_eq_true rfl) rfl ?_
        refine J_pushI qX6_swing_78 ?_
        refine J_ist5 qX6_swing_79 (Nat.le_of_ble_eq_true rfl) rfl ?_
        refine H 0 (Nat.zero_le _) ν1 (nI 0) (fun c q z => ?_) (hF1.2.trans hF.2) ⟨h31, fun q hq => hinv q (by omega)⟩ ⟨(cg (sP s).1 k).2.2.2, by rw [setW_self _ _ hk]; exact hc1⟩ rfl
        rw [hF1.1 _ _ (fun y => z (Or.inl (by unfold Fre; omega))), hF.1 _ _ (fun y => z (Or.inl (by unfold PlM at y; unfold Fre; omega)))]
      · obtain ⟨a1, a2, a3⟩ := hA1 e c1
        refine J_aload_n (i := 0) qX6_swing_33 rfl rfl ?_
        refine J_getR qX6_swing_34 fX6_62 (by assumption) (by assumption) ?_
        refine J_iload_n (i := 2) qX6_swing_37 rfl rfl ?_
        refine J_aload_n (i := 0) qX6_swing_38 rfl rfl ?_
        refine J_getR qX6_swing_39 fX6_53 (by assumption) (by assumption) ?_
        refine J_iload_n (i := 2) qX6_swing_42 rfl rfl ?_
        refine J_ialde qX6_swing_43 (by assumption) rfl (by omega) (by (repeat first | with_reducible exact wI_e _ _ _ _ | (with_reducible apply rd_s; focus omega) | (with_reducible apply rd_c; focus omega) | (with_reducible apply rd_k; focus omega) | with_reducible exact rd_e (by omega)); first | done | assumption | rfl) ?_
        refine J_iast qX6_swing_44 (by assumption) rfl (by omega) ?_
        refine J_aload_n (i := 0) qX6_swing_45 rfl rfl ?_
        refine J_getR qX6_swing_46 fX6_65 (by assumption) (by assumption) ?_
        refine J_iload_n (i := 2) qX6_swing_49 rfl rfl ?_
        refine J_aload_n (i := 0) qX6_swing_50 rfl rfl ?_
        refine J_iload_n (i := 2) qX6_swing_51 rfl rfl ?_
        have hF2 : Fr ν1 (wI ν1 216 e (nI (pg (prtF (sP s).1 true true) e).1)) (fun c _ => c = 216) := Fr.w Fr.rf rfl
        refine J_vi1 qX6_swing_52 kX6_280 (by assumption) (m_partSort (d := d + 2) hM0 (hc1.ag (fun q _ _ => wI_n (by omega))) ho (fun q hq => ⟨(wI_n (by omega)).trans (hA1 q hq).1, (wI_n (by omega)).trans (hA1 q hq).2.1, (wI_n (by omega)).trans (hA1 q hq).2.2⟩) c1) (Nat.le_of_ble_eq_true rfl) (fun v1 μ' hr => ?_)
        obtain ⟨rfl, rfl⟩ := hr
        refine J_iast qX6_swing_55 (by assumption) rfl (by omega) ?_
        refine J_inc2 qX6_swing_56 (Nat.le_of_ble_eq_true rfl) (by first | with_reducible exact nI_inc _ | rfl) rfl ?_
        refine J_goto qX6_swing_59 ?_
        refine ih c1 _ (Fr.w (Fr.w hF1 (Or.inr (Or.inl rfl))) (Or.inr (Or.inr rfl))) (by rw [wI_n (by omega), wI_n (by omega)]; exact h31) (fun q hq => ?_)
        by_cases eq : q = e
        · subst eq
          exact ⟨by rw [wI_n (by omega), wI_e], wI_e _ _ _ _⟩
        · exact ⟨by rw [wI_n (by omega), wI_n (by omega)]; exact (hinv q (by omega)).1, by rw [wI_n (by omega), wI_n (by omega)]; exact (hinv q (by omega)).2⟩
    exact H1 0 (Nat.zero_le _) _ (Fr.w Fr.rf (Or.inl ⟨rfl, rfl⟩)) (wI_e _ _ _ _) (fun q hq => absurd hq (Nat.not_lt_zero q))
end MM
