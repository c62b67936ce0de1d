/-! CASES stay as they may be -/
theorem posF_hi (cs : List Cs) (lo : Int32) : ∀ n k, posF cs lo n ≤ k → k < n → lo < (cg cs k).1
  | 0, k, _, h => absurd h (Nat.not_lt_zero k)
  | n + 1, k, h1, h2 => by
    rw [posF_succ] at h1
    by_cases c : lo < (cg cs n).1
    · rw [if_pos c] at h1
      by_cases e : k = n
      · subst e; exact c
      · exact posF_hi cs lo n k h1 (by omega)
    · rw [if_neg c] at h1; omega
theorem posF_lo (cs : List Cs) (lo : Int32) : ∀ n, 0 < posF cs lo n → ¬ lo < (cg cs (posF cs lo n - 1)).1
  | 0, h => absurd h (Nat.lt_irrefl 0)
  | n + 1, h => by
    rw [posF_succ] at h ⊢
    by_cases c : lo < (cg cs n).1
    · rw [if_pos c] at h ⊢; exact posF_lo cs lo n h
    · rw [if_neg c]; exact c
theorem free_at {cs : List Cs} {lo hi : Int32} (h : freeB cs lo hi = true) {k : Nat} (hk : k < cs.length) : ¬ ((cg cs k).1 ≤ hi ∧ lo ≤ (cg cs k).2.1) := of_decide_eq_true h k hk
theorem ok_ins {cs : List Cs} (ho : OkC cs) {lo hi : Int32} {a w : Nat} (hle : lo ≤ hi) (hf : freeB cs lo hi = true) (ha : a < 8) (hw : w < 10) : OkC (insF cs (lo, hi, a, w)) := by
  have hp := posF_le cs lo cs.length
  have hhi := posF_hi cs lo cs.length
  have hlo := posF_lo cs lo cs.length
  unfold OkC
  rw [insF_len]
  unfold insF
  show (∀ k, k < cs.length + 1 → _) ∧ ∀ k, k + 1 < cs.length + 1 → _
  generalize hP : posF cs lo cs.length = P at *
  constructor
  · intro k hk
    rw [cg_insA hp]
    by_cases h1 : k < P
    · rw [if_pos h1]; exact ho.1 k (by omega)
    · rw [if_neg h1]
      by_cases h2 : k = P
      · rw [if_pos h2]; exact ⟨hle, ha, hw⟩
      · rw [if_neg h2]; exact ho.1 (k - 1) (by omega)
  · intro k hk
    rw [cg_insA hp, cg_insA hp]
    by_cases h1 : k + 1 < P
    · rw [if_pos (by omega), if_pos h1]; exact ho.2 k (by omega)
    · by_cases h2 : k + 1 = P
      · rw [if_pos (by omega), if_neg h1, if_pos h2]
        have f := free_at hf (k := k) (by omega)
        have g := hlo (by omega)
        rw [← h2, Nat.add_sub_cancel] at g
        have g1 : (cg cs k).1 ≤ hi := Int32.le_trans (Int32.not_lt.mp g) hle
        exact Int32.not_le.mp (fun z => f ⟨g1, z⟩)
      · by_cases h3 : k = P
        · rw [if_neg (by omega), if_pos h3, if_neg (by omega), if_neg (by omega), Nat.add_sub_cancel]
          have f := free_at hf (k := k) (by omega)
          have g := hhi k (by omega) (by omega)
          have g1 : lo ≤ (cg cs k).2.1 := Int32.le_of_lt (Int32.lt_of_lt_of_le g (ho.1 k (by omega)).1)
          exact Int32.not_le.mp (fun z => f ⟨z, g1⟩)
        · rw [if_neg (by omega), if_neg h3, if_neg (by omega), if_neg (by omega)]
          have g := ho.2 (k - 1) (by omega)
          rw [show k - 1 + 1 = k by omega] at g
          rw [Nat.add_sub_cancel]
          exact g
theorem ok_era {cs : List Cs} (ho : OkC cs) {i : Nat} (hi : i < cs.length) : OkC (cs.eraseIdx i) := by
  have hel : (cs.eraseIdx i).length = cs.length - 1 := List.length_eraseIdx_of_lt hi
  unfold OkC
  rw [hel]
  constructor
  · intro k hk
    rw [cg_era]
    split
    · exact ho.1 k (by omega)
    · exact ho.1 (k + 1) (by omega)
  · intro k hk
    rw [cg_era, cg_era]
    by_cases h1 : k + 1 < i
    · rw [if_pos (by omega), if_pos h1]; exact ho.2 k (by omega)
    · by_cases h2 : k < i
      · rw [if_pos h2, if_neg h1]; exact lo_lt ho k (k + 1 + 1) (by omega) (by omega)
      · rw [if_neg h2, if_neg h1]; exact ho.2 (k + 1) (by omega)
theorem ok_set {cs : List Cs} (ho : OkC cs) {i a w : Nat} (hi : i < cs.length) (ha : a < 8) (hw : w < 10) : OkC (cs.set i ((cg cs i).1, (cg cs i).2.1, a, w)) := by
  unfold OkC
  rw [List.length_set]
  constructor
  · intro k hk
    rw [cg_set hi]
    by_cases h : k = i
    · rw [if_pos h]; exact ⟨(ho.1 i hi).1, ha, hw⟩
    · rw [if_neg h]; exact ho.1 k hk
  · intro k hk
    rw [cg_set hi, cg_set hi]
    have g := ho.2 k hk
    by_cases h : k = i
    · rw [if_pos h, if_neg (by omega)]; rw [h] at g ⊢; exact g
    · rw [if_neg h]
      by_cases h2 : k + 1 = i
      · rw [if_pos h2]; rw [← h2]; exact g
      · rw [if_neg h2]; exact g
theorem ok_setA {cs : List Cs} (ho : OkC cs) {i a : Nat} (hi : i < cs.length) (ha : a < 8) : OkC (setA cs i a) := ok_set ho hi ha (ho.1 i hi).2.2
theorem ok_setW {cs : List Cs} (ho : OkC cs) {i w : Nat} (hi : i < cs.length) (hw : w < 10) : OkC (setW cs i w) := ok_set ho hi (ho.1 i hi).2.1 hw
theorem ok_nil : OkC [] := ⟨fun k hk => absurd hk (Nat.not_lt_zero k), fun k hk => absurd hk (Nat.not_lt_zero _)⟩
