/-! READER: rest, numbers, names -/
def rsF (T : List Int32) (s p : Nat) (rt : Bool) : Except Nat (Nat × Nat) :=
  if rt then .error s else if numOK T p 0 9 = false then .error (tkS T p) else if tkK T (tkE T p) = 3 then .ok ((tkV T p).toNat, tkE T (tkE T p)) else .error (tkS T (tkE T p))
def loF (T : List Int32) (p : Nat) : Int32 := Int32.ofInt (tkV T p)
def nbF (T : List Int32) (p : Nat) (cs : List Cs) (sp : Bool) : Except Nat (Int32 × Int32 × Nat) :=
  if numOK T p (-2147483648) 2147483647 = false then .error (tkS T p) else if freeB cs (loF T p) (loF T p) = false then .error (tkS T p) else if sp = false then .ok (loF T p, loF T p, tkE T p)
  else if numOK T (tkE T p) (loF T p).toInt 2147483647 = false then .error (tkS T (tkE T p)) else if freeB cs (loF T p) (loF T (tkE T p)) = false then .error (tkS T (tkE T p)) else .ok (loF T p, loF T (tkE T p), tkE T (tkE T p))
def hashF (T : List Int32) (s : Nat) : Nat → Int32
  | 0 => nI 0
  | m + 1 => nI 31 * hashF T s m + bt T (s + m)
def nmF (T : List Int32) (p : Nat) (cs : List Cs) : Except Nat (Int32 × Int32 × Nat) :=
  if tkK T p = 1 ∧ tkE T p - tkS T p ≤ 6 then (if freeB cs (hashF T (tkS T p) (tkE T p - tkS T p)) (hashF T (tkS T p) (tkE T p - tkS T p)) = false then .error (tkS T p) else .ok (hashF T (tkS T p) (tkE T p - tkS T p), hashF T (tkS T p) (tkE T p - tkS T p), tkE T p)) else .error (tkS T p)
theorem AbR.w {μ : Mm} {q k p : Nat} {T : List Int32} {v : Int32} (h : AbR μ q T p) (hk : 5 ≤ k) : AbR (wI μ q k v) q T p :=
  ⟨(wI_n (by omega)).trans h.1, h.2.1, (wI_n (by omega)).trans h.2.2.1, h.2.2.2.1, fun j hj => (wI_n (by omega)).trans (h.2.2.2.2 j hj)⟩
section RD
variable {G : Gm} {μ : Mm} {q b d p : Nat} {T : List Int32} {cs : List Cs} {rest : Nat}
theorem x_hashWith (h l : Int32) : Si mX5_hashWith (d) [.int h, .int l] G μ (fun r μ' => μ = μ' ∧ r = nI 31 * h + l) := by
  refine Si_of (ls := [.int h, .int l]) (by decide +kernel) (Nat.le_of_ble_eq_true rfl) rfl ?_
  refine J_pushI qX5_hashWith_0 ?_
  refine J_iload_n (i := 0) qX5_hashWith_2 rfl rfl ?_
  first | with_reducible refine J_imul_n qX5_hashWith_3 ?_ | refine J_imul qX5_hashWith_3 ?_
  refine J_iload_n (i := 1) qX5_hashWith_4 rfl rfl ?_
  first | with_reducible refine J_iadd_n qX5_hashWith_5 ?_ | refine J_iadd qX5_hashWith_5 ?_
  refine Ji_ret qX5_hashWith_6 ?_
  exact ⟨rfl, rfl⟩
theorem r_rest (hR : IsRd G q) (hP : IsP G b) (hqb : q + 1 < b ∨ b + 10 < q) {s : Nat} (h : AbR μ q T p) (h4 : μ.1 q 4 = nI s) (hD : DrS μ b cs rest) {rt : Bool} (h8 : μ.1 q 8 = b2i rt) : Si mX2_readRest (d+3) [.ref q, .ref b] G μ (fun r μ' => Rout (rsF T s p rt) q b μ (fun x μ' => AbR μ' q T x.2 ∧ DrS μ' b cs x.1 ∧ μ'.1 q 8 = nI 1) r μ') := by
  have hR0 := hR
  obtain ⟨hO, r0, a1⟩ := hR
  have hPO := hP.1
  refine Si_of (ls := [.ref q, .ref b]) (by decide +kernel) (Nat.le_of_ble_eq_true rfl) rfl ?_
  refine J_aload_n (i := 0) qX2_readRest_0 rfl rfl ?_
  refine J_getIe qX2_readRest_1 fX2_38 (by assumption) (by (repeat first | with_reducible exact wI_e _ _ _ _ | (with_reducible apply rd_s; focus omega) | (with_reducible apply rd_c; focus omega) | (with_reducible apply rd_k; focus omega) | with_reducible exact rd_e (by omega)); first | done | assumption | rfl) ?_
  cases rt with
  | true =>
    refine J_if_ne qX2_readRest_4 (fun c => ?_) (fun c => absurd c b2i_t0)
    refine J_pushI qX2_readRest_18 ?_
    refine Jz_ret qX2_readRest_19 (by first | exact Or.inl rfl | exact Or.inr rfl | assumption) ?_
    exact ⟨rfl, h4, FrQ.rf⟩
  | false =>
    refine J_if_ne qX2_readRest_4 (fun c => absurd b2i_f0 c) (fun c => ?_)
    refine J_aload_n (i := 0) qX2_readRest_7 rfl rfl ?_
    refine J_pushL qX2_readRest_8 ?_
    refine J_pushL qX2_readRest_9 ?_
    refine J_vi2 qX2_readRest_12 kX2_103 (by assumption) (r_readNumber hR0 h (x := lN 0) (y := lN 9) (by decide) (by decide)) (Nat.le_of_ble_eq_true rfl) (fun r ν1 hr => ?_)
    obtain ⟨rfl, g1, g2, g3, g4⟩ := hr
    cases hn1 : numOK T p 0 9 with
    | false =>
      have hn1' : numOK T p (lN 0).toInt (lN 9).toInt = false := hn1
      rw [hn1']
      refine J_if_ne qX2_readRest_15 (fun c => absurd b2i_f0 c) (fun c => ?_)
      refine J_pushI qX2_readRest_18 ?_
      refine Jz_ret qX2_readRest_19 (by first | exact Or.inl rfl | exact Or.inr rfl | assumption) ?_
      have e : rsF T s p false = .error (tkS T p) := if_pos hn1
      rw [e]
      exact ⟨rfl, g2, g4.q⟩
    | true =>
      have hn1' : numOK T p (lN 0).toInt (lN 9).toInt = true := hn1
      have v1 := g3 hn1'
      obtain ⟨-, q1, q2⟩ := numOK_at hn1
      rw [hn1']
      refine J_if_ne qX2_readRest_15 (fun c => ?_) (fun c => absurd c b2i_t0)
      refine J_aload_n (i := 0) qX2_readRest_20 rfl rfl ?_
      refine J_pushI qX2_readRest_21 ?_
      refine J_putI qX2_readRest_22 fX2_38p (by assumption) rfl rfl ?_
      refine J_aload_n (i := 1) qX2_readRest_25 rfl rfl ?_
      refine J_aload_n (i := 0) qX2_readRest_26 rfl rfl ?_
      refine J_getLe qX2_readRest_27 fX2_28 (by assumption) (by (repeat first | with_reducible exact wL_e _ _ _ _ | with_reducible apply rdl_i | (with_reducible apply rdl_s; focus omega) | (with_reducible apply rdl_k; focus omega)); first | done | assumption | rfl) ?_
      refine J_l2i qX2_readRest_30 ?_
      rw [l2i_n v1 q1 (by omega)]
      have hD1 := (hD.r g4 (by omega)).w (q := q) (k := 8) (v := nI 1) (by omega)
      have gA := g1.w (k := 8) (v := nI 1) (by omega)
      have hD2 : DrS (wI (wI ν1 q 8 (nI 1)) b 5 (nI (tkV T p).toNat)) b cs (tkV T p).toNat := by
        obtain ⟨x1, x2, x3, x4, x5⟩ := hD1
        refine ⟨AbC.of ?_ x1.2.1 (fun j hj k hk => ?_), x2, wI_e _ _ _ _, by omega, ?_⟩
        · rw [wI_n (by omega)]; exact x1.1
        · rw [wI_n (by omega)]; exact x1.j j hj k hk
        · rw [wI_n (by omega)]; exact x5
      have gB : AbR (wI (wI ν1 q 8 (nI 1)) b 5 (nI (tkV T p).toNat)) q T (tkE T p) := ⟨(wI_n (by omega)).trans gA.1, gA.2.1, (wI_n (by omega)).trans gA.2.2.1, gA.2.2.2.1, fun j hj => (wI_n (by omega)).trans (gA.2.2.2.2 j hj)⟩
      have hF1 : FrQ q b μ (wI (wI ν1 q 8 (nI 1)) b 5 (nI (tkV T p).toNat)) := ⟨fun c k z => by rw [wI_n (by omega), wI_n (by omega)]; exact g4.1 c k (by omega), g4.2⟩
      refine J_putI qX2_readRest_31 fX2_107p (by assumption) rfl rfl ?_
      refine J_aload_n (i := 0) qX2_readRest_34 rfl rfl ?_
      refine J_vi0 qX2_readRest_35 kX2_109 (by assumption) (r_readSemicolon hR0 gB) (Nat.le_of_ble_eq_true rfl) (fun r ν2 hr => ?_)
      obtain ⟨rfl, n1, n2, n3⟩ := hr
      refine Jz_ret qX2_readRest_38 (b2i_01 _) ?_
      by_cases hk : tkK T (tkE T p) = 3
      · have e : rsF T s p false = .ok ((tkV T p).toNat, tkE T (tkE T p)) := by unfold rsF; rw [if_neg (by decide), if_neg (by rw [hn1]; decide), if_pos hk]
        rw [e, show decide (tkK T (tkE T p) = 3) = true from decide_eq_true hk]
        refine ⟨rfl, ⟨n1, hD2.r n3 (by omega), ?_⟩, hF1.tr n3.q⟩
        rw [n3.1 _ _ (by omega), wI_n (by omega), wI_e]
      · have e : rsF T s p false = .error (tkS T (tkE T p)) := by unfold rsF; rw [if_neg (by decide), if_neg (by rw [hn1]; decide), if_neg hk]
        rw [e, show decide (tkK T (tkE T p) = 3) = false from decide_eq_false hk]
        exact ⟨rfl, n2, hF1.tr n3.q⟩
end RD
