/-! READER: a statement, a whole text -/
/-- the statement whose first token is the one from p on -/
def stmF (T : List Int32) (p : Nat) (cs : List Cs) (rt : Bool) (rest : Nat) : Except Nat (List Cs × Bool × Nat × Nat) :=
  if tkK T p = 1 then
    if isWd T (tkS T p) (tkE T p) 0 then
      match rsF T (tkS T p) (tkE T p) rt with
      | .error e => .error e
      | .ok x => .ok (cs, true, x.1, x.2)
    else if (isWd T (tkS T p) (tkE T p) 1 || isWd T (tkS T p) (tkE T p) 2 || isWd T (tkS T p) (tkE T p) 3) = true ∧ cs.length < 12 then
      match (if isWd T (tkS T p) (tkE T p) 2 then nmF T (tkE T p) cs else nbF T (tkE T p) cs (isWd T (tkS T p) (tkE T p) 1)) with
      | .error e => .error e
      | .ok x => match tlF T x.2.2 with
        | .error e => .error e
        | .ok y => .ok (insF cs (x.1, x.2.1, y.1, y.2.1), rt, rest, y.2.2)
    else .error (tkS T p)
  else .error (tkS T p)
theorem Rout.fq {α : Type} {o : Except Nat α} {q b : Nat} {μ : Mm} {P : α → Mm → Prop} {r : Int32} {μ' : Mm} (h : Rout o q b μ P r μ') : FrQ q b μ μ' := by
  cases o with
  | error e => exact h.2.2
  | ok x => exact h.2.2
section RD
variable {G : Gm} {μ : Mm} {q b d p : Nat} {T : List Int32} {cs : List Cs} {rest : Nat}
theorem r_statement (hR : IsRd G q) (hP : IsP G b) (hqb : q + 1 < b ∨ b + 10 < q) (hp : p ≤ T.length) (h : AbR μ q T (tkE T p)) (h3 : μ.1 q 3 = nI (tkK T p)) (h4 : μ.1 q 4 = nI (tkS T p)) (hD : DrS μ b cs rest) {rt : Bool} (h8 : μ.1 q 8 = b2i rt) : Si mX2_readStatement (d+5) [.ref q, .ref b] G μ (fun r μ' => Rout (stmF T p cs rt rest) q b μ (fun x μ' => AbR μ' q T x.2.2.2 ∧ DrS μ' b x.1 x.2.2.1 ∧ μ'.1 q 8 = b2i x.2.1) r μ') := by
  have hR0 := hR
  obtain ⟨hO, r0, a1⟩ := hR
  have hPO := hP.1
  have hE := tkE_le hp
  have k4 : tkK T p ≤ 4 := by
    unfold tkK kdA
    split
    · omega
    · split
      · omega
      · split
        · split <;> omega
        · split <;> omega
  have W := fun (i : Nat) (hi : i < 4) => r_isWord (d := d) hR0 h h4 hE.1 hi
  refine Si_of (ls := [.ref q, .ref b, .null, .null, .null]) (by decide +kernel) (Nat.le_of_ble_eq_true rfl) rfl ?_
  refine J_aload_n (i := 0) qX2_readStatement_0 rfl rfl ?_
  refine J_getIe qX2_readStatement_1 fX2_22 (by assumption) (by (repeat first | with_reducible exact wI_e _ _ _ _ | (with_reducible apply rd_s; focus omega) | (with_reducible apply rd_c; focus omega) | (with_reducible apply rd_k; focus omega) | with_reducible exact rd_e (by omega)); first | done | assumption | rfl) ?_
  refine J_pushI qX2_readStatement_4 ?_
  first | with_reducible refine J_icmp_eq_n qX2_readStatement_5 (by omega) (by omega) (fun c1 => ?_) (fun c1 => ?_) | refine J_icmp_eq qX2_readStatement_5 (fun c1 => ?_) (fun c1 => ?_)
  · have e1 : stmF T p cs rt rest = if isWd T (tkS T p) (tkE T p) 0 then (match rsF T (tkS T p) (tkE T p) rt with
      | .error e => .error e
      | .ok x => .ok (cs, true, x.1, x.2))
    else if (isWd T (tkS T p) (tkE T p) 1 || isWd T (tkS T p) (tkE T p) 2 || isWd T (tkS T p) (tkE T p) 3) = true ∧ cs.length < 12 then
      (match (if isWd T (tkS T p) (tkE T p) 2 then nmF T (tkE T p) cs else nbF T (tkE T p) cs (isWd T (tkS T p) (tkE T p) 1)) with
      | .error e => .error e
      | .ok x => match tlF T x.2.2 with
        | .error e => .error e
        | .ok y => .ok (insF cs (x.1, x.2.1, y.1, y.2.1), rt, rest, y.2.2))
    else .error (tkS T p) := if_pos c1
    rw [e1]
    clear e1
    refine J_aload_n (i := 0) qX2_readStatement_10 rfl rfl ?_
    refine J_ldcS (tx := "rest") (i := 0) qX2_readStatement_11 (by decide +kernel) ?_
    refine J_vi1 qX2_readStatement_13 kX2_77 (by assumption) (W 0 (by omega)) (Nat.le_of_ble_eq_true rfl) (fun r μ' hr => ?_)
    obtain ⟨rfl, rfl⟩ := hr
    cases w0 : isWd T (tkS T p) (tkE T p) 0 with
    | true =>
      rw [if_pos rfl]
      refine J_if_eq qX2_readStatement_16 (fun c => absurd c b2i_t0) (fun c => ?_)
      refine J_aload_n (i := 0) qX2_readStatement_19 rfl rfl ?_
      refine J_aload_n (i := 1) qX2_readStatement_20 rfl rfl ?_
      refine J_vi1 qX2_readStatement_21 kX2_81 (by assumption) (r_rest (d := d + 1) hR0 hP hqb h h4 hD h8) (Nat.le_of_ble_eq_true rfl) (fun r ν hr => ?_)
      have hr01 : r = 0 ∨ r = 1 := by
        unfold Rout at hr
        split at hr
        · exact Or.inl hr.1
        · exact Or.inr hr.1
      refine Jz_ret qX2_readStatement_24 hr01 ?_
      cases hs : rsF T (tkS T p) (tkE T p) rt with
      | error e => rw [hs] at hr; exact hr
      | ok x =>
        rw [hs] at hr
        exact hr
    | false =>
      rw [if_neg (by decide)]
      refine J_if_eq qX2_readStatement_16 (fun c => ?_) (fun c => absurd b2i_f0 c)
      refine J_aload_n (i := 0) qX2_readStatement_25 rfl rfl ?_
      refine J_ldcS (tx := "range") (i := 1) qX2_readStatement_26 (by decide +kernel) ?_
      refine J_vi1 qX2_readStatement_28 kX2_77 (by assumption) (W 1 (by omega)) (Nat.le_of_ble_eq_true rfl) (fun r μ' hr => ?_)
      obtain ⟨rfl, rfl⟩ := hr
      refine J_ist2 qX2_readStatement_31 (Nat.le_of_ble_eq_true rfl) rfl ?_
      refine J_aload_n (i := 0) qX2_readStatement_32 rfl rfl ?_
      refine J_ldcS (tx := "name") (i := 2) qX2_readStatement_33 (by decide +kernel) ?_
      refine J_vi1 qX2_readStatement_35 kX2_77 (by assumption) (W 2 (by omega)) (Nat.le_of_ble_eq_true rfl) (fun r μ' hr => ?_)
      obtain ⟨rfl, rfl⟩ := hr
      have after : ∀ (o1 : Except Nat (Int32 × Int32 × Nat)) (r : Int32) (ν : Mm) (v2 v3 : Value), cs.length < 12 → Rout o1 q b μ (fun x μ' => AbR μ' q T x.2.2 ∧ DrS μ' b cs rest ∧ μ'.1 q 8 = μ.1 q 8 ∧ μ'.1 q 6 = x.1 ∧ μ'.1 q 7 = x.2.1 ∧ x.1 ≤ x.2.1 ∧ freeB cs x.1 x.2.1 = true) r ν →
          J mX2_readStatement (d + 5) (0, 0) s0 (Ki G fun r μ' => Rout (match o1 with
      | .error e => .error e
      | .ok x => match tlF T x.2.2 with
        | .error e => .error e
        | .ok y => .ok (insF cs (x.1, x.2.1, y.1, y.2.1), rt, rest, y.2.2)) q b μ (fun x μ' => AbR μ' q T x.2.2.2 ∧ DrS μ' b x.1 x.2.2.1 ∧ μ'.1 q 8 = b2i x.2.1) r μ') (0, 0) 85 [.ref q, .ref b, v2, .int (b2i (isWd T (tkS T p) (tkE T p) 2)), v3] [.int r] (G, ν) := by
        intro o1 r ν v2 v3 hlt hr
        cases o1 with
        | error e =>
          obtain ⟨rfl, x1, x2⟩ := hr
          refine J_ist4 qX2_readStatement_85 (Nat.le_of_ble_eq_true rfl) rfl ?_
          refine J_iload (i := 4) qX2_readStatement_87 rfl ?_
          first | with_reducible refine J_if_eq_n qX2_readStatement_89 (by omega) (fun c8 => ?_) (fun c8 => ?_) | refine J_if_eq qX2_readStatement_89 (fun c8 => ?_) (fun c8 => ?_)
          · refine J_pushI qX2_readStatement_104 ?_
            refine Jz_ret qX2_readStatement_105 (by first | exact Or.inl rfl | exact Or.inr rfl | assumption) ?_
            exact ⟨rfl, x1, x2⟩
          · omega
        | ok x =>
          obtain ⟨rfl, ⟨x1, x2, x3, x4, x5, x6, x7⟩, x8⟩ := hr
          refine J_ist4 qX2_readStatement_85 (Nat.le_of_ble_eq_true rfl) rfl ?_
          refine J_iload (i := 4) qX2_readStatement_87 rfl ?_
          first | with_reducible refine J_if_eq_n qX2_readStatement_89 (by omega) (fun c8 => ?_) (fun c8 => ?_) | refine J_if_eq qX2_readStatement_89 (fun c8 => ?_) (fun c8 => ?_)
          · omega
          · refine J_aload_n (i := 0) qX2_readStatement_92 rfl rfl ?_
            refine J_aload_n (i := 1) qX2_readStatement_93 rfl rfl ?_
            refine J_vi1 qX2_readStatement_94 kX2_98 (by assumption) (r_aw (d := d + 1) hR0 hP hqb x1 x2 x4 x5 x6 x7 hlt) (Nat.le_of_ble_eq_true rfl) (fun r2 ν2 hr => ?_)
            cases ht : tlF T x.2.2 with
            | error e =>
              rw [ht] at hr
              obtain ⟨rfl, y1, y2⟩ := hr
              first | with_reducible refine J_if_eq_n qX2_readStatement_97 (by omega) (fun c9 => ?_) (fun c9 => ?_) | refine J_if_eq qX2_readStatement_97 (fun c9 => ?_) (fun c9 => ?_)
              · refine J_pushI qX2_readStatement_104 ?_
                refine Jz_ret qX2_readStatement_105 (by first | exact Or.inl rfl | exact Or.inr rfl | assumption) ?_
                dsimp only
                rw [ht]
                exact ⟨rfl, y1, x8.tr y2⟩
              · omega
            | ok y =>
              rw [ht] at hr
              obtain ⟨rfl, ⟨y1, y2, y3⟩, y4⟩ := hr
              first | with_reducible refine J_if_eq_n qX2_readStatement_97 (by omega) (fun c9 => ?_) (fun c9 => ?_) | refine J_if_eq qX2_readStatement_97 (fun c9 => ?_) (fun c9 => ?_)
              · omega
              · refine J_pushI qX2_readStatement_100 ?_
                refine J_goto qX2_readStatement_101 ?_
                refine Jz_ret qX2_readStatement_105 (by first | exact Or.inl rfl | exact Or.inr rfl | assumption) ?_
                dsimp only
                rw [ht]
                exact ⟨rfl, ⟨y1, y2, y3.trans (x3.trans h8)⟩, x8.tr y4⟩
      have hn := hD.1.1
      have h12 := hD.1.2.1
      have bad : ¬ ((isWd T (tkS T p) (tkE T p) 1 || isWd T (tkS T p) (tkE T p) 2 || isWd T (tkS T p) (tkE T p) 3) = true ∧ cs.length < 12) → J mX2_readStatement (d + 5) (0, 0) s0 (Ki G fun r μ' => Rout (if (isWd T (tkS T p) (tkE T p) 1 || isWd T (tkS T p) (tkE T p) 2 || isWd T (tkS T p) (tkE T p) 3) = true ∧ cs.length < 12 then
      (match (if isWd T (tkS T p) (tkE T p) 2 then nmF T (tkE T p) cs else nbF T (tkE T p) cs (isWd T (tkS T p) (tkE T p) 1)) with
      | .error e => .error e
      | .ok x => match tlF T x.2.2 with
        | .error e => .error e
        | .ok y => .ok (insF cs (x.1, x.2.1, y.1, y.2.1), rt, rest, y.2.2))
    else .error (tkS T p)) q b μ (fun x μ' => AbR μ' q T x.2.2.2 ∧ DrS μ' b x.1 x.2.2.1 ∧ μ'.1 q 8 = b2i x.2.1) r μ') (0, 0) 65 [.ref q, .ref b, .int (b2i (isWd T (tkS T p) (tkE T p) 1)), .int (b2i (isWd T (tkS T p) (tkE T p) 2)), .null] [] (G, μ) := by
        intro hno
        rw [if_neg hno]
        refine J_pushI qX2_readStatement_65 ?_
        refine Jz_ret qX2_readStatement_66 (by first | exact Or.inl rfl | exact Or.inr rfl | assumption) ?_
        exact ⟨rfl, h4, FrQ.rf⟩
      have good : (isWd T (tkS T p) (tkE T p) 1 || isWd T (tkS T p) (tkE T p) 2 || isWd T (tkS T p) (tkE T p) 3) = true → J mX2_readStatement (d + 5) (0, 0) s0 (Ki G fun r μ' => Rout (if (isWd T (tkS T p) (tkE T p) 1 || isWd T (tkS T p) (tkE T p) 2 || isWd T (tkS T p) (tkE T p) 3) = true ∧ cs.length < 12 then
      (match (if isWd T (tkS T p) (tkE T p) 2 then nmF T (tkE T p) cs else nbF T (tkE T p) cs (isWd T (tkS T p) (tkE T p) 1)) with
      | .error e => .error e
      | .ok x => match tlF T x.2.2 with
        | .error e => .error e
        | .ok y => .ok (insF cs (x.1, x.2.1, y.1, y.2.1), rt, rest, y.2.2))
    else .error (tkS T p)) q b μ (fun x μ' => AbR μ' q T x.2.2.2 ∧ DrS μ' b x.1 x.2.2.1 ∧ μ'.1 q 8 = b2i x.2.1) r μ') (0, 0) 56 [.ref q, .ref b, .int (b2i (isWd T (tkS T p) (tkE T p) 1)), .int (b2i (isWd T (tkS T p) (tkE T p) 2)), .null] [] (G, μ) := by
        intro hw
        refine J_aload_n (i := 1) qX2_readStatement_56 rfl rfl ?_
        refine J_getIe qX2_readStatement_57 fX2_90 (by assumption) (by (repeat first | with_reducible exact wI_e _ _ _ _ | (with_reducible apply rd_s; focus omega) | (with_reducible apply rd_c; focus omega) | (with_reducible apply rd_k; focus omega) | with_reducible exact rd_e (by omega)); first | done | assumption | rfl) ?_
        refine J_pushI qX2_readStatement_60 ?_
        first | with_reducible refine J_icmp_lt_n qX2_readStatement_62 (by omega) (by omega) (fun c5 => ?_) (fun c5 => ?_) | refine J_icmp_lt qX2_readStatement_62 (fun c5 => ?_) (fun c5 => ?_)
        · rw [if_pos ⟨hw, c5⟩]
          refine J_iload_n (i := 3) qX2_readStatement_67 rfl rfl ?_
          cases w2 : isWd T (tkS T p) (tkE T p) 2 with
          | true =>
            rw [if_pos rfl]
            refine J_if_eq qX2_readStatement_68 (fun c => absurd c b2i_t0) (fun c => ?_)
            refine J_aload_n (i := 0) qX2_readStatement_71 rfl rfl ?_
            refine J_aload_n (i := 1) qX2_readStatement_72 rfl rfl ?_
            refine J_vi1 qX2_readStatement_73 kX2_91 (by assumption) (r_name (d := d + 1) hR0 hP hqb h hD) (Nat.le_of_ble_eq_true rfl) (fun r ν hr => ?_)
            refine J_goto qX2_readStatement_76 ?_
            have z := after _ r ν (.int (b2i (isWd T (tkS T p) (tkE T p) 1))) .null c5 hr
            rw [w2] at z
            exact z
          | false =>
            rw [if_neg (by decide)]
            refine J_if_eq qX2_readStatement_68 (fun c => ?_) (fun c => absurd b2i_f0 c)
            refine J_aload_n (i := 0) qX2_readStatement_79 rfl rfl ?_
            refine J_aload_n (i := 1) qX2_readStatement_80 rfl rfl ?_
            refine J_iload_n (i := 2) qX2_readStatement_81 rfl rfl ?_
            refine J_vi2 qX2_readStatement_82 kX2_94 (by assumption) (r_numbers (d := d + 1) hR0 hP hqb h hD (isWd T (tkS T p) (tkE T p) 1)) (Nat.le_of_ble_eq_true rfl) (fun r ν hr => ?_)
            have z := after _ r ν (.int (b2i (isWd T (tkS T p) (tkE T p) 1))) .null c5 hr
            rw [w2] at z
            exact z
        · exact bad (fun z => by omega)
      refine J_ist3 qX2_readStatement_38 (Nat.le_of_ble_eq_true rfl) rfl ?_
      refine J_iload_n (i := 2) qX2_readStatement_39 rfl rfl ?_
      cases w1 : isWd T (tkS T p) (tkE T p) 1 with
      | true =>
        refine J_if_ne qX2_readStatement_40 (fun c => ?_) (fun c => absurd c b2i_t0)
        rw [w1] at good
        exact good (by rfl)
      | false =>
        rw [w1] at good bad
        refine J_if_ne qX2_readStatement_40 (fun c => absurd b2i_f0 c) (fun c => ?_)
        refine J_iload_n (i := 3) qX2_readStatement_43 rfl rfl ?_
        cases w2 : isWd T (tkS T p) (tkE T p) 2 with
        | true =>
          refine J_if_ne qX2_readStatement_44 (fun c => ?_) (fun c => absurd c b2i_t0)
          rw [w2] at good
          exact good (by rfl)
        | false =>
          rw [w2] at good bad
          refine J_if_ne qX2_readStatement_44 (fun c => absurd b2i_f0 c) (fun c => ?_)
          refine J_aload_n (i := 0) qX2_readStatement_47 rfl rfl ?_
          refine J_ldcS (tx := "case") (i := 3) qX2_readStatement_48 (by decide +kernel) ?_
          refine J_vi1 qX2_readStatement_50 kX2_77 (by assumption) (W 3 (by omega)) (Nat.le_of_ble_eq_true rfl) (fun r μ' hr => ?_)
          obtain ⟨rfl, rfl⟩ := hr
          cases w3 : isWd T (tkS T p) (tkE T p) 3 with
          | true =>
            rw [w3] at good
            refine J_if_eq qX2_readStatement_53 (fun c => absurd c b2i_t0) (fun c => ?_)
            exact good (by rfl)
          | false =>
            rw [w3] at bad
            refine J_if_eq qX2_readStatement_53 (fun c => ?_) (fun c => absurd b2i_f0 c)
            exact bad (fun z => absurd z.1 (by decide))
  · refine J_pushI qX2_readStatement_8 ?_
    refine Jz_ret qX2_readStatement_9 (by first | exact Or.inl rfl | exact Or.inr rfl | assumption) ?_
    have e1 : stmF T p cs rt rest = .error (tkS T p) := if_neg c1
    rw [e1]
    exact ⟨rfl, h4, FrQ.rf⟩
end RD
