/-! THE ABSTRACT STATE, and the component's cells -/
abbrev Rw : Type := Option (List Int32)
abbrev Pg : Type := List Cs × List (List Cs)
/-- (cases, history), rest, rows, texts, kept, asked, mask, latest finding, how often each -/
abbrev St : Type := Pg × Nat × (Nat → Rw) × (Nat → Rw) × (Nat → Option Pg) × Int32 × Int64 × Int32 × (Nat → Int32)
abbrev sP (s : St) : Pg := s.1
abbrev sR (s : St) : Nat := s.2.1
abbrev sRw (s : St) : Nat → Rw := s.2.2.1
abbrev sTx (s : St) : Nat → Rw := s.2.2.2.1
abbrev sKp (s : St) : Nat → Option Pg := s.2.2.2.2.1
abbrev sAk (s : St) : Int32 := s.2.2.2.2.2.1
abbrev sMk (s : St) : Int64 := s.2.2.2.2.2.2.1
abbrev sLt (s : St) : Int32 := s.2.2.2.2.2.2.2.1
abbrev sTm (s : St) : Nat → Int32 := s.2.2.2.2.2.2.2.2
def fup {α : Type} (f : Nat → α) (k : Nat) (v : α) : Nat → α := fun j => if j = k then v else f j
theorem fup_e {α : Type} (f : Nat → α) (k : Nat) (v : α) : fup f k v k = v := if_pos rfl
theorem fup_n {α : Type} {f : Nat → α} {k j : Nat} {v : α} (h : j ≠ k) : fup f k v j = f j := if_neg h
def uFnd (s : St) (f : Nat) : St := (sP s, sR s, sRw s, sTx s, sKp s, sAk s, sMk s, nI f, fup (sTm s) f (sTm s f + nI 1))
def uAsk (s : St) (v : Int32) : St := (sP s, sR s, sRw s, sTx s, sKp s, v, sMk s, sLt s, sTm s)
def uMsk (s : St) (v : Int64) : St := (sP s, sR s, sRw s, sTx s, sKp s, sAk s, v, sLt s, sTm s)
def uRow (s : St) (r : Nat) (v : Rw) : St := (sP s, sR s, fup (sRw s) r v, sTx s, sKp s, sAk s, sMk s, sLt s, sTm s)
def uTxt (s : St) (r : Nat) (v : Rw) : St := (sP s, sR s, sRw s, fup (sTx s) r v, sKp s, sAk s, sMk s, sLt s, sTm s)
def uPrg (s : St) (v : Pg) : St := (v, sR s, sRw s, sTx s, sKp s, sAk s, sMk s, sLt s, sTm s)
def uKep (s : St) (k : Nat) (v : Option Pg) : St := (sP s, sR s, sRw s, sTx s, fup (sKp s) k v, sAk s, sMk s, sLt s, sTm s)
def OkP (g : Pg) : Prop := OkC g.1 ∧ g.1.length ≤ 12 ∧ g.2.length ≤ 40 ∧ ∀ h ∈ g.2, OkC h ∧ h.length ≤ 12
/-- a Program's cells hold cases, history and rest -/
def XP (μ : Mm) (b : Nat) (g : Pg) (rest : Nat) : Prop := AbC μ b g.1 ∧ AbH μ b g.1 g.2 ∧ OkP g ∧ μ.1 b 5 = nI rest
def XK (μ : Mm) (k : Nat) (o : Option Pg) (rest : Nat) : Prop := match o with
  | none => μ.1 15 k = nI 0
  | some g => μ.1 15 k = nI 1 ∧ XP μ (165 + 11 * k) g rest
def RelX (μ : Mm) (s : St) : Prop :=
  (∀ r, r < 6 → AbS μ (145 + 2 * r) 40 (sRw s r)) ∧ (∀ t, t < 4 → AbS μ (157 + 2 * t) 120 (sTx s t)) ∧ XP μ 3 (sP s) (sR s) ∧ (∀ k, k < 3 → XK μ k (sKp s k) (sR s)) ∧
  (μ.1 0 12 = sAk s ∧ μ.2 0 13 = sMk s ∧ μ.1 0 14 = sLt s ∧ ∀ f, f < 6 → μ.1 144 f = sTm s f) ∧ (μ.1 0 11 = nI 1 ∨ (μ.1 0 11 = nI 0 ∧ AbPl μ 32 (sP s).1 true true)) ∧ sR s < 10
/-- the component's cells, as its constructor lays them -/
def LayX (G : Gm) : Prop := IsO G 0 5 ∧ (RF G 0 0 1 ∧ RF G 0 1 2 ∧ RF G 0 2 3 ∧ RF G 0 3 14 ∧ RF G 0 4 15 ∧ RF G 0 5 16 ∧ RF G 0 6 27 ∧ RF G 0 7 29 ∧ RF G 0 8 32 ∧ RF G 0 9 88 ∧ RF G 0 10 144) ∧
  (IsA G 1 13 6 ∧ IsA G 2 13 4 ∧ IsA G 14 14 3 ∧ IsA G 15 12 3 ∧ IsA G 144 10 6) ∧ (∀ r, r < 6 → RF G 1 r (145 + 2 * r) ∧ IsS G (145 + 2 * r) 40) ∧ (∀ t, t < 4 → RF G 2 t (157 + 2 * t) ∧ IsS G (157 + 2 * t) 120) ∧ (∀ k, k < 3 → RF G 14 k (165 + 11 * k) ∧ IsP G (165 + 11 * k)) ∧
  IsP G 3 ∧ IsP G 16 ∧ IsRd G 27 ∧ IsW G 29 ∧ IsPl G 32 ∧ IsPl G 88
/-- nothing of the model's cells has changed -/
def FrX (μ μ' : Mm) : Prop := (∀ c k, 198 ≤ c → μ'.1 c k = μ.1 c k) ∧ ∀ c k, 198 ≤ c → μ'.2 c k = μ.2 c k
theorem FrX.rf {μ : Mm} : FrX μ μ := ⟨fun _ _ _ => rfl, fun _ _ _ => rfl⟩
theorem FrX.tr {μ μ1 μ2 : Mm} (h1 : FrX μ μ1) (h2 : FrX μ1 μ2) : FrX μ μ2 := ⟨fun c k h => (h2.1 c k h).trans (h1.1 c k h), fun c k h => (h2.2 c k h).trans (h1.2 c k h)⟩
