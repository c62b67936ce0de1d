/-! what stays when cells stay -/
def Ag (μ μ' : Mm) (lo hi : Nat) : Prop := ∀ c k, lo ≤ c → c ≤ hi → μ'.1 c k = μ.1 c k
theorem AbS.ag {μ μ' : Mm} {c N : Nat} {o : Rw} (h : AbS μ c N o) (hF : Ag μ μ' c (c + 1)) : AbS μ' c N o := by
  have e1 : μ'.1 c 1 = μ.1 c 1 := hF _ _ (by omega) (by omega)
  match o, h with
  | none, h => exact e1.trans h
  | some l, h => exact ⟨e1.trans h.1, h.2.1, fun k hk => (hF _ _ (by omega) (by omega)).trans (h.2.2 k hk)⟩
theorem AbC.ag {μ μ' : Mm} {b : Nat} {cs : List Cs} (h : AbC μ b cs) (hF : Ag μ μ' b (b + 10)) : AbC μ' b cs :=
  AbC.of ((hF _ _ (by omega) (by omega)).trans h.1) h.2.1 (fun j hj k hk => (hF _ _ (by omega) (by omega)).trans (h.j j hj k hk))
theorem AbH.ag {μ μ' : Mm} {b : Nat} {cs : List Cs} {hs : List (List Cs)} (h : AbH μ b cs hs) (hF : Ag μ μ' b (b + 10)) : AbH μ' b cs hs :=
  ⟨(hF _ _ (by omega) (by omega)).trans h.1, h.2.1, fun e he => (h.2.2 e he).cg (fun j hj => hF _ _ (by omega) (by omega))⟩
theorem XP.ag {μ μ' : Mm} {b : Nat} {g : Pg} {rest : Nat} (h : XP μ b g rest) (hF : Ag μ μ' b (b + 10)) : XP μ' b g rest := ⟨h.1.ag hF, h.2.1.ag hF, h.2.2.1, (hF _ _ (by omega) (by omega)).trans h.2.2.2⟩
theorem XK.ag {μ μ' : Mm} {k : Nat} {o : Option Pg} {rest : Nat} (h : XK μ k o rest) (h1 : μ'.1 15 k = μ.1 15 k) (hF : Ag μ μ' (165 + 11 * k) (175 + 11 * k)) : XK μ' k o rest := by
  match o, h with
  | none, h => exact h1.trans h
  | some g, h => exact ⟨h1.trans h.1, h.2.ag (fun c k h1 h2 => hF c k (by omega) (by omega))⟩
theorem AbPl.ag {μ μ' : Mm} {p : Nat} {cs : List Cs} {rw mk : Bool} (h : AbPl μ p cs rw mk) (h12 : cs.length ≤ 12) (hF : Ag μ μ' p (p + 55)) : AbPl μ' p cs rw mk := by
  obtain ⟨h1, h2, h3, h4⟩ := h
  refine ⟨fun a c x1 x2 => ?_, (hF _ _ (by omega) (by omega)).trans h2, (hF _ _ (by omega) (by omega)).trans h3, fun e he => ?_⟩
  · obtain ⟨t1, t2, t3, t4⟩ := h1 a c x1 x2
    exact ⟨(hF _ _ (by omega) (by omega)).trans t1, (hF _ _ (by omega) (by omega)).trans t2, (hF _ _ (by omega) (by omega)).trans t3, (hF _ _ (by omega) (by omega)).trans t4⟩
  · obtain ⟨t1, t2, t3⟩ := h4 e he
    exact ⟨(hF _ _ (by omega) (by omega)).trans t1, (hF _ _ (by omega) (by omega)).trans t2, (hF _ _ (by omega) (by omega)).trans t3⟩
/-- the parts of the tie, one by one -/
def XRows (μ : Mm) (f : Nat → Rw) : Prop := ∀ r, r < 6 → AbS μ (145 + 2 * r) 40 (f r)
def XTxs (μ : Mm) (f : Nat → Rw) : Prop := ∀ t, t < 4 → AbS μ (157 + 2 * t) 120 (f t)
def XKps (μ : Mm) (f : Nat → Option Pg) (rest : Nat) : Prop := ∀ k, k < 3 → XK μ k (f k) rest
def XMsc (μ : Mm) (ak : Int32) (mk : Int64) (lt : Int32) (tm : Nat → Int32) : Prop := μ.1 0 12 = ak ∧ μ.2 0 13 = mk ∧ μ.1 0 14 = lt ∧ ∀ f, f < 6 → μ.1 144 f = tm f
def XPl (μ : Mm) (cs : List Cs) : Prop := μ.1 0 11 = nI 1 ∨ (μ.1 0 11 = nI 0 ∧ AbPl μ 32 cs true true)
theorem RelX_eq (μ : Mm) (s : St) : RelX μ s ↔ XRows μ (sRw s) ∧ XTxs μ (sTx s) ∧ XP μ 3 (sP s) (sR s) ∧ XKps μ (sKp s) (sR s) ∧ XMsc μ (sAk s) (sMk s) (sLt s) (sTm s) ∧ XPl μ (sP s).1 ∧ sR s < 10 := Iff.rfl
theorem XRows.ag {μ μ' : Mm} {f : Nat → Rw} (h : XRows μ f) (hF : Ag μ μ' 145 156) : XRows μ' f := fun r hr => (h r hr).ag (fun c k h1 h2 => hF c k (by omega) (by omega))
theorem XTxs.ag {μ μ' : Mm} {f : Nat → Rw} (h : XTxs μ f) (hF : Ag μ μ' 157 164) : XTxs μ' f := fun r hr => (h r hr).ag (fun c k h1 h2 => hF c k (by omega) (by omega))
theorem XKps.ag {μ μ' : Mm} {f : Nat → Option Pg} {rest : Nat} (h : XKps μ f rest) (h1 : Ag μ μ' 15 15) (hF : Ag μ μ' 165 197) : XKps μ' f rest := fun k hk => (h k hk).ag (h1 _ _ (by omega) (by omega)) (fun c j h1 h2 => hF c j (by omega) (by omega))
theorem XPl.ag {μ μ' : Mm} {cs : List Cs} (h : XPl μ cs) (h12 : cs.length ≤ 12) (h1 : μ'.1 0 11 = μ.1 0 11) (hF : Ag μ μ' 32 87) : XPl μ' cs := h.imp (fun q => h1.trans q) (fun q => ⟨h1.trans q.1, q.2.ag h12 hF⟩)
