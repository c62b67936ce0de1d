/-! READER: what a statement tells; a fault is an error: its place -/
def tlF (T : List Int32) (p : Nat) : Except Nat (Nat × Nat × Nat) :=
  if numOK T p 0 7 = false then .error (tkS T p) else if numOK T (tkE T p) 0 9 = false then .error (tkS T (tkE T p)) else if tkK T (tkE T (tkE T p)) = 3 then .ok ((tkV T p).toNat, (tkV T (tkE T p)).toNat, tkE T (tkE T (tkE T p))) else .error (tkS T (tkE T (tkE T p)))
/-- nothing but the Reader's slots and the Program at b has changed -/
def FrQ (q b : Nat) (μ μ' : Mm) : Prop := (∀ c k, ¬ ((c = q ∧ 2 ≤ k) ∨ (b ≤ c ∧ c ≤ b + 10)) → μ'.1 c k = μ.1 c k) ∧ ∀ c k, ¬ (c = q ∧ k = 5) → μ'.2 c k = μ.2 c k
theorem FrQ.rf {q b : Nat} {μ : Mm} : FrQ q b μ μ := ⟨fun _ _ _ => rfl, fun _ _ _ => rfl⟩
theorem FrQ.tr {q b : Nat} {μ μ1 μ2 : Mm} (h1 : FrQ q b μ μ1) (h2 : FrQ q b μ1 μ2) : FrQ q b μ μ2 := ⟨fun c k h => (h2.1 c k h).trans (h1.1 c k h), fun c k h => (h2.2 c k h).trans (h1.2 c k h)⟩
theorem FrR.q {q b : Nat} {μ μ1 : Mm} (h : FrR q μ μ1) : FrQ q b μ μ1 := ⟨fun c k z => h.1 c k (fun y => z (Or.inl ⟨y.1, y.2.1⟩)), h.2⟩
theorem Fr.q {q b : Nat} {μ μ1 : Mm} {P : Nat → Nat → Prop} (h : Fr μ μ1 P) (hP : ∀ c k, P c k → b ≤ c ∧ c ≤ b + 10) : FrQ q b μ μ1 := ⟨fun c k z => h.1 c k (fun y => z (Or.inr (hP c k y))), fun c k _ => by rw [h.2]⟩
theorem FrQ.w {q b k : Nat} {μ μ1 : Mm} {v : Int32} (h1 : FrQ q b μ μ1) (h : 2 ≤ k) : FrQ q b μ (wI μ1 q k v) := ⟨fun c j z => (wI_n (fun y => z (Or.inl ⟨y.1, by rw [y.2]; exact h⟩))).trans (h1.1 c j z), h1.2⟩
/-- a Program that is being read -/
def DrS (μ : Mm) (b : Nat) (cs : List Cs) (rest : Nat) : Prop := AbC μ b cs ∧ OkC cs ∧ μ.1 b 5 = nI rest ∧ rest < 10 ∧ μ.1 b 12 = nI 0
theorem DrS.r {μ μ' : Mm} {q b rest : Nat} {cs : List Cs} (h : DrS μ b cs rest) (hF : FrR q μ μ') (hb : q < b ∨ b + 10 < q) : DrS μ' b cs rest := by
  obtain ⟨h1, h2, h3, h4, h5⟩ := h
  refine ⟨AbC.of ?_ h1.2.1 (fun j hj k hk => ?_), h2, ?_, h4, ?_⟩
  · rw [hF.1 _ _ (by omega)]; exact h1.1
  · rw [hF.1 _ _ (by omega)]; exact h1.j j hj k hk
  · rw [hF.1 _ _ (by omega)]; exact h3
  · rw [hF.1 _ _ (by omega)]; exact h5
theorem DrS.w {μ : Mm} {q b rest k : Nat} {cs : List Cs} {v : Int32} (h : DrS μ b cs rest) (hb : q < b ∨ b + 10 < q) : DrS (wI μ q k v) b cs rest := by
  obtain ⟨h1, h2, h3, h4, h5⟩ := h
  refine ⟨AbC.of ?_ h1.2.1 (fun j hj k hk => ?_), h2, ?_, h4, ?_⟩
  · rw [wI_n (by omega)]; exact h1.1
  · rw [wI_n (by omega)]; exact h1.j j hj k hk
  · rw [wI_n (by omega)]; exact h3
  · rw [wI_n (by omega)]; exact h5
theorem ofI_i {z : Int} (h1 : -2147483648 ≤ z) (h2 : z < 2147483648) : (Int32.ofInt z).toInt = z := by
  rw [Int32.toInt_ofInt]
  show z.bmod 4294967296 = z
  exact Int.bmod_eq_of_le (by omega) (by omega)
theorem l2i_is {x : Int64} {z : Int} (h : x.toInt = z) (h1 : -2147483648 ≤ z) (h2 : z < 2147483648) : x.toInt32 = Int32.ofInt z := by
  refine i32_inj ?_
  rw [ofI_i h1 h2, Int64.toInt_toInt32, h]
  exact Int.bmod_eq_of_le (by omega) (by omega)
theorem l2i_n {x : Int64} {z : Int} (h : x.toInt = z) (h1 : 0 ≤ z) (h2 : z < 2147483648) : x.toInt32 = nI z.toNat := by
  rw [l2i_is h (by omega) h2]
  refine i32_inj ?_
  rw [ofI_i (by omega) h2, nI_toInt (by omega)]
  omega
theorem numOK_at {T : List Int32} {p : Nat} {lo hi : Int} (h : numOK T p lo hi = true) : tkK T p = 2 ∧ lo ≤ tkV T p ∧ tkV T p ≤ hi := of_decide_eq_true h
/-- what a reading comes to -/
def Rout {α : Type} (o : Except Nat α) (q b : Nat) (μ : Mm) (P : α → Mm → Prop) (r : Int32) (μ' : Mm) : Prop := match o with
  | .error e => r = nI 0 ∧ μ'.1 q 4 = nI e ∧ FrQ q b μ μ'
  | .ok x => r = nI 1 ∧ P x μ' ∧ FrQ q b μ μ'
section RD
variable {G : Gm} {μ : Mm} {q b d p : Nat} {T : List Int32} {cs : List Cs} {rest : Nat}
theorem r_aw (hR : IsRd G q) (hP : IsP G b) (hqb : q + 1 < b ∨ b + 10 < q) (h : AbR μ q T p) (hD : DrS μ b cs rest) {lo hi : Int32} (h6 : μ.1 q 6 = lo) (h7 : μ.1 q 7 = hi) (hle : lo ≤ hi) (hf : freeB cs lo hi = true) (hlt : cs.length < 12) : Si mX2_readAimAndWeight (d+3) [.ref q, .ref b] G μ (fun r μ' => Rout (tlF T p) q b μ (fun x μ' => AbR μ' q T x.2.2 ∧ DrS μ' b (insF cs (lo, hi, x.1, x.2.1)) rest ∧ μ'.1 q 8 = μ.1 q 8) r μ') := by
  have hR0 := hR
  obtain ⟨hO, r0, a1⟩ := hR
  have hPO := hP.1
  refine Si_of (ls := [.ref q, .ref b, .null, .null]) (by decide +kernel) (Nat.le_of_ble_eq_true rfl) rfl ?_
  refine J_aload_n (i := 0) qX2_readAimAndWeight_0 rfl rfl ?_
  refine J_pushL qX2_readAimAndWeight_1 ?_
  refine J_pushL qX2_readAimAndWeight_2 ?_
  refine J_vi2 qX2_readAimAndWeight_5 kX2_103 (by assumption) (r_readNumber hR0 h (x := lN 0) (y := lN 7) (by decide) (by decide)) (Nat.le_of_ble_eq_true rfl) (fun r ν1 hr => ?_)
  obtain ⟨rfl, g1, g2, g3, g4⟩ := hr
  cases hn1 : numOK T p 0 7 with
  | false =>
    have hn1' : numOK T p (lN 0).toInt (lN 7).toInt = false := hn1
    rw [hn1']
    refine J_if_ne qX2_readAimAndWeight_8 (fun c => absurd b2i_f0 c) (fun c => ?_)
    refine J_pushI qX2_readAimAndWeight_11 ?_
    refine Jz_ret qX2_readAimAndWeight_12 (by first | exact Or.inl rfl | exact Or.inr rfl | assumption) ?_
    have e : tlF T p = .error (tkS T p) := if_pos hn1
    rw [e]
    exact ⟨rfl, g2, g4.q⟩
  | true =>
    have hn1' : numOK T p (lN 0).toInt (lN 7).toInt = true := hn1
    have v1 := g3 hn1'
    obtain ⟨-, q1, q2⟩ := numOK_at hn1
    rw [hn1']
    refine J_if_ne qX2_readAimAndWeight_8 (fun c => ?_) (fun c => absurd c b2i_t0)
    refine J_aload_n (i := 0) qX2_readAimAndWeight_13 rfl rfl ?_
    refine J_getLe qX2_readAimAndWeight_14 fX2_28 (by assumption) (by (repeat first | with_reducible exact wL_e _ _ _ _ | with_reducible apply rdl_i | (with_reducible apply rdl_s; focus omega) | (with_reducible apply rdl_k; focus omega)); first | done | assumption | rfl) ?_
    refine J_l2i qX2_readAimAndWeight_17 ?_
    rw [l2i_n v1 q1 (by omega)]
    refine J_ist2 qX2_readAimAndWeight_18 (Nat.le_of_ble_eq_true rfl) rfl ?_
    refine J_aload_n (i := 0) qX2_readAimAndWeight_19 rfl rfl ?_
    refine J_pushL qX2_readAimAndWeight_20 ?_
    refine J_pushL qX2_readAimAndWeight_21 ?_
    refine J_vi2 qX2_readAimAndWeight_24 kX2_103 (by assumption) (r_readNumber hR0 g1 (x := lN 0) (y := lN 9) (by decide) (by decide)) (Nat.le_of_ble_eq_true rfl) (fun r ν2 hr => ?_)
    obtain ⟨rfl, m1, m2, m3, m4⟩ := hr
    cases hn2 : numOK T (tkE T p) 0 9 with
    | false =>
      have hn2' : numOK T (tkE T p) (lN 0).toInt (lN 9).toInt = false := hn2
      rw [hn2']
      refine J_if_ne qX2_readAimAndWeight_27 (fun c => absurd b2i_f0 c) (fun c => ?_)
      refine J_pushI qX2_readAimAndWeight_30 ?_
      refine Jz_ret qX2_readAimAndWeight_31 (by first | exact Or.inl rfl | exact Or.inr rfl | assumption) ?_
      have e : tlF T p = .error (tkS T (tkE T p)) := by unfold tlF; rw [if_neg (by rw [hn1]; decide), if_pos hn2]
      rw [e]
      exact ⟨rfl, m2, (g4.tr m4).q⟩
    | true =>
      have hn2' : numOK T (tkE T p) (lN 0).toInt (lN 9).toInt = true := hn2
      have v2 := m3 hn2'
      obtain ⟨-, w1, w2⟩ := numOK_at hn2
      rw [hn2']
      refine J_if_ne qX2_readAimAndWeight_27 (fun c => ?_) (fun c => absurd c b2i_t0)
      refine J_aload_n (i := 0) qX2_readAimAndWeight_32 rfl rfl ?_
      refine J_getLe qX2_readAimAndWeight_33 fX2_28 (by assumption) (by (repeat first | with_reducible exact wL_e _ _ _ _ | with_reducible apply rdl_i | (with_reducible apply rdl_s; focus omega) | (with_reducible apply rdl_k; focus omega)); first | done | assumption | rfl) ?_
      refine J_l2i qX2_readAimAndWeight_36 ?_
      rw [l2i_n v2 w1 (by omega)]
      refine J_ist3 qX2_readAimAndWeight_37 (Nat.le_of_ble_eq_true rfl) rfl ?_
      refine J_aload_n (i := 0) qX2_readAimAndWeight_38 rfl rfl ?_
      refine J_vi0 qX2_readAimAndWeight_39 kX2_109 (by assumption) (r_readSemicolon hR0 m1) (Nat.le_of_ble_eq_true rfl) (fun r ν3 hr => ?_)
      obtain ⟨rfl, n1, n2, n3⟩ := hr
      have hFF := (g4.tr m4).tr n3
      by_cases hk : tkK T (tkE T (tkE T p)) = 3
      · rw [show decide (tkK T (tkE T (tkE T p)) = 3) = true from decide_eq_true hk]
        refine J_if_ne qX2_readAimAndWeight_42 (fun c => ?_) (fun c => absurd c b2i_t0)
        have l6 : ν3.1 q 6 = lo := (hFF.1 _ _ (by omega)).trans h6
        have l7 : ν3.1 q 7 = hi := (hFF.1 _ _ (by omega)).trans h7
        have hD3 := hD.r hFF (by omega)
        refine J_aload_n (i := 1) qX2_readAimAndWeight_47 rfl rfl ?_
        refine J_aload_n (i := 0) qX2_readAimAndWeight_48 rfl rfl ?_
        refine J_getIe qX2_readAimAndWeight_49 fX2_32 (by assumption) (by (repeat first | with_reducible exact wI_e _ _ _ _ | (with_reducible apply rd_s; focus omega) | (with_reducible apply rd_c; focus omega) | (with_reducible apply rd_k; focus omega) | with_reducible exact rd_e (by omega)); first | done | assumption | rfl) ?_
        refine J_aload_n (i := 0) qX2_readAimAndWeight_52 rfl rfl ?_
        refine J_getIe qX2_readAimAndWeight_53 fX2_35 (by assumption) (by (repeat first | with_reducible exact wI_e _ _ _ _ | (with_reducible apply rd_s; focus omega) | (with_reducible apply rd_c; focus omega) | (with_reducible apply rd_k; focus omega) | with_reducible exact rd_e (by omega)); first | done | assumption | rfl) ?_
        refine J_iload_n (i := 2) qX2_readAimAndWeight_56 rfl rfl ?_
        refine J_iload_n (i := 3) qX2_readAimAndWeight_57 rfl rfl ?_
        refine J_vi4 qX2_readAimAndWeight_58 kX2_126 (by assumption) (p_insert hP hD3.1 lo hi (tkV T p).toNat (tkV T (tkE T p)).toNat hlt) (Nat.le_of_ble_eq_true rfl) (fun r ν4 hr => ?_)
        obtain ⟨rfl, x1, x2⟩ := hr
        refine J_pop qX2_readAimAndWeight_61 rfl ?_
        refine J_pushI qX2_readAimAndWeight_62 ?_
        refine Jz_ret qX2_readAimAndWeight_63 (by first | exact Or.inl rfl | exact Or.inr rfl | assumption) ?_
        have e : tlF T p = .ok ((tkV T p).toNat, (tkV T (tkE T p)).toNat, tkE T (tkE T (tkE T p))) := by unfold tlF; rw [if_neg (by rw [hn1]; decide), if_neg (by rw [hn2]; decide), if_pos hk]
        rw [e]
        have hz : ∀ c k, Pcs b c k → b ≤ c ∧ c ≤ b + 10 := fun c k z => by unfold Pcs at z; omega
        have h120 := n1.2.1
        refine ⟨rfl, ⟨⟨?_, h120, ?_, n1.2.2.2.1, fun k hk => ?_⟩, ⟨x1, ok_ins hD3.2.1 hle hf (show (tkV T p).toNat < 8 by omega) (show (tkV T (tkE T p)).toNat < 10 by omega), ?_, hD3.2.2.2.1, ?_⟩, ?_⟩, hFF.q.tr (x2.q hz)⟩
        · rw [x2.1 _ _ (fun z => by unfold Pcs at z; omega)]; exact n1.1
        · rw [x2.1 _ _ (fun z => by unfold Pcs at z; omega)]; exact n1.2.2.1
        · rw [x2.1 _ _ (fun z => by unfold Pcs at z; omega)]; exact n1.2.2.2.2 k hk
        · rw [x2.1 _ _ (fun z => by unfold Pcs at z; omega)]; exact hD3.2.2.1
        · rw [x2.1 _ _ (fun z => by unfold Pcs at z; omega)]; exact hD3.2.2.2.2
        · rw [x2.1 _ _ (fun z => by unfold Pcs at z; omega)]; exact hFF.1 _ _ (by omega)
      · rw [show decide (tkK T (tkE T (tkE T p)) = 3) = false from decide_eq_false hk]
        refine J_if_ne qX2_readAimAndWeight_42 (fun c => absurd b2i_f0 c) (fun c => ?_)
        refine J_pushI qX2_readAimAndWeight_45 ?_
        refine Jz_ret qX2_readAimAndWeight_46 (by first | exact Or.inl rfl | exact Or.inr rfl | assumption) ?_
        have e : tlF T p = .error (tkS T (tkE T (tkE T p))) := by unfold tlF; rw [if_neg (by rw [hn1]; decide), if_neg (by rw [hn2]; decide), if_neg hk]
        rw [e]
        exact ⟨rfl, n2, hFF.q⟩
end RD
