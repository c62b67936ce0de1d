/-! what stands when both are made -/
def st0 : St := (([], []), 0, fun _ => none, fun _ => none, fun _ => none, 0, 0, 0, fun _ => 0)
theorem okP0 : OkP (([], []) : Pg) := ⟨⟨fun k h => absurd h (Nat.not_lt_zero _), fun k h => absurd h (Nat.not_lt_zero _)⟩, Nat.zero_le _, Nat.zero_le _, fun h hh => absurd hh List.not_mem_nil⟩
theorem rel0 {μ μ' : Mm} (hp : Pm 10 μ) (hq : Pn 6 4 3 μ μ') : RelX μ' st0 ∧ RelM μ' st0 := by
  have hz : ∀ c k, ¬ (c = 0 ∧ k = 11) → ¬ (k = 1 ∧ 145 ≤ c ∧ c < 165) → c ≠ 200 → c ≠ 203 → c ≠ 209 → μ'.1 c k = 0 := fun c k h1 h2 h3 h4 h5 => (hq.2.2.2.1 c k h3 h4 h5).trans (hp.2.2.1 c k h1 (by omega))
  have hl : ∀ c k, μ'.2 c k = 0 := fun c k => by rw [hq.2.2.2.2]; exact hp.2.2.2 c k
  have hs : ∀ i, i < 10 → μ'.1 (145 + 2 * i) 1 = -1 := fun i hi => (hq.2.2.2.1 _ _ (by omega) (by omega) (by omega)).trans (hp.2.1 i hi)
  refine ⟨⟨fun r hr => hs r (by omega), fun t ht => ?_, ⟨⟨hz 3 4 (by omega) (by omega) (by omega) (by omega) (by omega), Nat.zero_le _, fun k h => absurd h (Nat.not_lt_zero _)⟩, ⟨hz 3 12 (by omega) (by omega) (by omega) (by omega) (by omega), Nat.zero_le _, fun k h => absurd h (Nat.not_lt_zero _)⟩, okP0, hz 3 5 (by omega) (by omega) (by omega) (by omega) (by omega)⟩, fun k hk => hz 15 k (by omega) (by omega) (by omega) (by omega) (by omega), ⟨hz 0 12 (by omega) (by omega) (by omega) (by omega) (by omega), hl 0 13, hz 0 14 (by omega) (by omega) (by omega) (by omega) (by omega), fun f hf => hz 144 f (by omega) (by omega) (by omega) (by omega) (by omega)⟩, Or.inl ((hq.2.2.2.1 0 11 (by omega) (by omega) (by omega)).trans hp.1), by decide⟩, ?_⟩
  · have := hs (6 + t) (by omega)
    rw [show 145 + 2 * (6 + t) = 157 + 2 * t by omega] at this
    exact this
  · exact ⟨fun r hr => hq.1 r hr, fun t ht => hq.2.1 t ht, ⟨⟨hz 206 0 (by omega) (by omega) (by omega) (by omega) (by omega), Nat.zero_le _, fun j _ k h => absurd h (Nat.not_lt_zero _)⟩, hz 198 20 (by omega) (by omega) (by omega) (by omega) (by omega), fun e h => absurd h (Nat.not_lt_zero _), okP0, hz 198 16 (by omega) (by omega) (by omega) (by omega) (by omega), by decide⟩, fun k hk => hq.2.2.1 k hk, hz 198 0 (by omega) (by omega) (by omega) (by omega) (by omega), hl 198 30, hz 198 1 (by omega) (by omega) (by omega) (by omega) (by omega), fun f hf => hz 199 f (by omega) (by omega) (by omega) (by omega) (by omega)⟩
def isOB (X : List Ce) (a ci : Nat) : Bool := match X[a]? with
  | some e => decide (e.1 = ci) && decide (e.2.1 = clN ci)
  | none => false
def isAB (X : List Ce) (a kd n : Nat) : Bool := match X[a]? with
  | some e => decide (e.1 = kd) && decide (e.2.1 = n) && decide (n < 2147483648)
  | none => false
def rFB (X : List Ce) (a k r : Nat) : Bool := match X[a]? with
  | some e => decide (e.2.2.getD k none = some r)
  | none => false
theorem isO_B {X : List Ce} {a ci : Nat} (h : isOB X a ci = true) : IsO (gL X) a ci := by
  unfold isOB at h
  cases he : X[a]? with
  | none => rw [he] at h; cases h
  | some e =>
    rw [he] at h
    simp only [Bool.and_eq_true, decide_eq_true_eq] at h
    exact ⟨gL_lt he, by rw [gL_at he]; exact h.1, by rw [gL_at he]; exact h.2⟩
theorem isA_B {X : List Ce} {a kd n : Nat} (h : isAB X a kd n = true) : IsA (gL X) a kd n := by
  unfold isAB at h
  cases he : X[a]? with
  | none => rw [he] at h; cases h
  | some e =>
    rw [he] at h
    simp only [Bool.and_eq_true, decide_eq_true_eq] at h
    exact ⟨gL_lt he, by rw [gL_at he]; exact h.1.1, by rw [gL_at he]; exact h.1.2, h.2⟩
theorem rF_B {X : List Ce} {a k r : Nat} (h : rFB X a k r = true) : RF (gL X) a k r := by
  unfold rFB at h
  cases he : X[a]? with
  | none => rw [he] at h; cases h
  | some e =>
    rw [he] at h
    exact rF_L he (of_decide_eq_true h)
def xV : List Ce := xEnd
theorem isP_B (b : Nat) (h : (isOB xEnd b 1 && (rFB xEnd b 0 (b + 1) && rFB xEnd b 1 (b + 2) && rFB xEnd b 2 (b + 3) && rFB xEnd b 3 (b + 4)) && (rFB xEnd b 6 (b + 5) && rFB xEnd b 7 (b + 6) && rFB xEnd b 8 (b + 7) && rFB xEnd b 9 (b + 8) && rFB xEnd b 10 (b + 9) && rFB xEnd b 11 (b + 10)) && (isAB xEnd (b + 1) 10 12 && isAB xEnd (b + 2) 10 12 && isAB xEnd (b + 3) 10 12 && isAB xEnd (b + 4) 10 12) && (isAB xEnd (b + 5) 10 40 && isAB xEnd (b + 6) 10 40 && isAB xEnd (b + 7) 10 40 && isAB xEnd (b + 8) 10 40 && isAB xEnd (b + 9) 10 40 && isAB xEnd (b + 10) 10 40)) = true) : IsP (gL xEnd) b := by
  simp only [Bool.and_eq_true] at h
  obtain ⟨⟨⟨⟨h0, ⟨⟨h1, h2⟩, h3⟩, h4⟩, ⟨⟨⟨⟨h5, h6⟩, h7⟩, h8⟩, h9⟩, h10⟩, ⟨⟨h11, h12⟩, h13⟩, h14⟩, ⟨⟨⟨⟨h15, h16⟩, h17⟩, h18⟩, h19⟩, h20⟩ := h
  exact ⟨isO_B h0, ⟨rF_B h1, rF_B h2, rF_B h3, rF_B h4⟩, ⟨rF_B h5, rF_B h6, rF_B h7, rF_B h8, rF_B h9, rF_B h10⟩, ⟨isA_B h11, isA_B h12, isA_B h13, isA_B h14⟩, isA_B h15, isA_B h16, isA_B h17, isA_B h18, isA_B h19, isA_B h20⟩
def plB (p : Nat) : Bool := (List.range 12).all (fun i => rFB xEnd (p + 1) i (p + 2 + i) && isAB xEnd (p + 2 + i) 10 12 && (rFB xEnd (p + 14) i (p + 15 + i) && isAB xEnd (p + 15 + i) 10 12) && (rFB xEnd (p + 27) i (p + 28 + i) && isAB xEnd (p + 28 + i) 10 12) && (rFB xEnd (p + 40) i (p + 41 + i) && isAB xEnd (p + 41 + i) 10 12))
theorem isPl_B (p : Nat) (h : plB p = true) : ∀ i, i < 12 → (RF (gL xEnd) (p + 1) i (p + 2 + i) ∧ IsA (gL xEnd) (p + 2 + i) 10 12) ∧ (RF (gL xEnd) (p + 14) i (p + 15 + i) ∧ IsA (gL xEnd) (p + 15 + i) 10 12) ∧ (RF (gL xEnd) (p + 27) i (p + 28 + i) ∧ IsA (gL xEnd) (p + 28 + i) 10 12) ∧ (RF (gL xEnd) (p + 40) i (p + 41 + i) ∧ IsA (gL xEnd) (p + 41 + i) 10 12) := fun i hi => by
  have h1 := List.all_eq_true.mp h i (List.mem_range.mpr hi)
  simp only [Bool.and_eq_true] at h1
  obtain ⟨⟨⟨⟨a1, a2⟩, b1, b2⟩, c1, c2⟩, d1, d2⟩ := h1
  exact ⟨⟨rF_B a1, isA_B a2⟩, ⟨rF_B b1, isA_B b2⟩, ⟨rF_B c1, isA_B c2⟩, rF_B d1, isA_B d2⟩
theorem all_B {n : Nat} {f : Nat → Bool} (h : (List.range n).all f = true) : ∀ i, i < n → f i = true := fun i hi => List.all_eq_true.mp h i (List.mem_range.mpr hi)
theorem layX_end : LayX (gL xEnd) := by
  have hr : (List.range 6).all (fun r => rFB xEnd 1 r (145 + 2 * r) && isOB xEnd (145 + 2 * r) 3 && rFB xEnd (145 + 2 * r) 0 (145 + 2 * r + 1) && isAB xEnd (145 + 2 * r + 1) 10 40) = true := by decide +kernel
  have ht : (List.range 4).all (fun r => rFB xEnd 2 r (157 + 2 * r) && isOB xEnd (157 + 2 * r) 3 && rFB xEnd (157 + 2 * r) 0 (157 + 2 * r + 1) && isAB xEnd (157 + 2 * r + 1) 10 120) = true := by decide +kernel
  have hk : (List.range 3).all (fun r => rFB xEnd 14 r (165 + 11 * r)) = true := by decide +kernel
  refine ⟨isO_B (by decide +kernel), ⟨rF_B (by decide +kernel), rF_B (by decide +kernel), rF_B (by decide +kernel), rF_B (by decide +kernel), rF_B (by decide +kernel), rF_B (by decide +kernel), rF_B (by decide +kernel), rF_B (by decide +kernel), rF_B (by decide +kernel), rF_B (by decide +kernel), rF_B (by decide +kernel)⟩, ⟨isA_B (by decide +kernel), isA_B (by decide +kernel), isA_B (by decide +kernel), isA_B (by decide +kernel), isA_B (by decide +kernel)⟩, fun r h => ?_, fun r h => ?_, fun k h => ⟨rF_B (all_B hk k h), ?_⟩, isP_B 3 (by decide +kernel), isP_B 16 (by decide +kernel), ⟨isO_B (by decide +kernel), rF_B (by decide +kernel), isA_B (by decide +kernel)⟩, ⟨isO_B (by decide +kernel), rF_B (by decide +kernel), rF_B (by decide +kernel), isA_B (by decide +kernel), isA_B (by decide +kernel)⟩, ?_, ?_⟩
  · have h1 := all_B hr r h
    simp only [Bool.and_eq_true] at h1
    exact ⟨rF_B h1.1.1.1, isO_B h1.1.1.2, rF_B h1.1.2, isA_B h1.2⟩
  · have h1 := all_B ht r h
    simp only [Bool.and_eq_true] at h1
    exact ⟨rF_B h1.1.1.1, isO_B h1.1.1.2, rF_B h1.1.2, isA_B h1.2⟩
  · match k, h with
    | 0, _ => exact isP_B 165 (by decide +kernel)
    | 1, _ => exact isP_B 176 (by decide +kernel)
    | 2, _ => exact isP_B 187 (by decide +kernel)
  · exact ⟨isO_B (by decide +kernel), ⟨rF_B (by decide +kernel), rF_B (by decide +kernel), rF_B (by decide +kernel), rF_B (by decide +kernel), rF_B (by decide +kernel), rF_B (by decide +kernel), rF_B (by decide +kernel)⟩, ⟨isA_B (by decide +kernel), isA_B (by decide +kernel), isA_B (by decide +kernel), isA_B (by decide +kernel), isA_B (by decide +kernel), isA_B (by decide +kernel), isA_B (by decide +kernel)⟩, isPl_B 32 (by decide +kernel)⟩
  · exact ⟨isO_B (by decide +kernel), ⟨rF_B (by decide +kernel), rF_B (by decide +kernel), rF_B (by decide +kernel), rF_B (by decide +kernel), rF_B (by decide +kernel), rF_B (by decide +kernel), rF_B (by decide +kernel)⟩, ⟨isA_B (by decide +kernel), isA_B (by decide +kernel), isA_B (by decide +kernel), isA_B (by decide +kernel), isA_B (by decide +kernel), isA_B (by decide +kernel), isA_B (by decide +kernel)⟩, isPl_B 88 (by decide +kernel)⟩
theorem layM_end : LayM (gL xEnd) := by
  refine ⟨isO_B (by decide +kernel), ?_, ?_⟩
  · refine ⟨?_, ?_, ?_, ?_, ?_, ?_, ?_, ?_, ?_, ?_, ?_, ?_, ?_, ?_, ?_, ?_, ?_, ?_, ?_⟩ <;> exact rF_B (by decide +kernel)
  · refine ⟨?_, ?_, ?_, ?_, ?_, ?_, ?_, ?_, ?_, ?_, ?_, ?_, ?_, ?_, ?_, ?_, ?_, ?_, ?_⟩ <;> exact isA_B (by decide +kernel)
