/-! THE PLAN, as a function of the CASES -/
theorem span_i (cs : List Cs) (i j : Nat) : (spanF cs i j).toInt = (cg cs j).2.1.toInt - (cg cs i).1.toInt + 1 := by
  unfold spanF
  have h1 := rng (cg cs j).2.1
  have h2 := rng (cg cs i).1
  have e : ((cg cs j).2.1.toInt - (cg cs i).1.toInt).bmod (2 ^ 64) = (cg cs j).2.1.toInt - (cg cs i).1.toInt := Int.bmod_eq_of_le (by omega) (by omega)
  rw [Int64.toInt_add, Int64.toInt_sub, Int32.toInt_toInt64, Int32.toInt_toInt64, show (1 : Int64).toInt = 1 from rfl, e]
  exact Int.bmod_eq_of_le (by omega) (by omega)
theorem i32_inj {x y : Int32} (h : x.toInt = y.toInt) : x = y := Int32.toInt_inj.mp h
theorem i64_inj {x y : Int64} (h : x.toInt = y.toInt) : x = y := Int64.toInt_inj.mp h
theorem span_1 (cs : List Cs) (i : Nat) : spanF cs i i = lN 1 ↔ (cg cs i).1 = (cg cs i).2.1 := by
  constructor
  · intro h
    have h1 := span_i cs i i
    rw [h, show (lN 1).toInt = 1 from rfl] at h1
    exact i32_inj (by omega)
  · intro h
    refine i64_inj ?_
    rw [span_i, h, show (lN 1).toInt = 1 from rfl]
    omega
def rwB (cs : List Cs) (i j : Nat) : Bool := decide (¬ lN 64 < spanF cs i j ∧ ¬ lN 4 * numF cs i (j + 1 - i) < spanF cs i j)
def mkB (cs : List Cs) (i j : Nat) : Bool := decide (¬ lN 32 < spanF cs i j ∧ aimF cs i (j + 1 - i) ≤ 2)
/-- the SORT of CASES i to j as one PART, of the SORTS allowed; 0: none -/
def sortF (cs : List Cs) (rw mk : Bool) (i j : Nat) : Nat :=
  if i = j then (if (cg cs i).1 = (cg cs i).2.1 then 4 else 1)
  else if rw && rwB cs i j then (if mk && mkB cs i j && decide (aimF cs i (j + 1 - i) < 2) then 3 else 2)
  else if mk && mkB cs i j then 3 else 0
def stF (s aims : Nat) : Nat := match s with
  | 0 => 0
  | 1 => 2
  | 2 => 3
  | 3 => 1 + aims
  | _ => 1
def stepF (cs : List Cs) (rw mk : Bool) (i j : Nat) : Nat := stF (sortF cs rw mk i j) (aimF cs i (j + 1 - i))
/-- the cheapest of 'one PART' and the COMPARISONS at i, i + 1, .. (m of them) -/
def chF (w init : Nat) (L R : Nat → Nat) (i : Nat) : Nat → Nat × Option Nat
  | 0 => (init, none)
  | m + 1 => if w + L (i + m) + R (i + m) < (chF w init L R i m).1 then (w + L (i + m) + R (i + m), some (i + m)) else chF w init L R i m
theorem chF_le (w init : Nat) (L R : Nat → Nat) (i : Nat) : ∀ m, (chF w init L R i m).1 ≤ init
  | 0 => Nat.le_refl _
  | m + 1 => by
    have h := chF_le w init L R i m
    unfold chF
    by_cases c : w + L (i + m) + R (i + m) < (chF w init L R i m).1
    · rw [if_pos c]; exact Nat.le_trans (Nat.le_of_lt c) h
    · rw [if_neg c]; exact h
theorem chF_le2 (w init : Nat) (L R : Nat → Nat) (i : Nat) : ∀ m k, k < m → (chF w init L R i m).1 ≤ w + L (i + k) + R (i + k)
  | 0, k, h => absurd h (Nat.not_lt_zero k)
  | m + 1, k, hk => by
    unfold chF
    by_cases c : w + L (i + m) + R (i + m) < (chF w init L R i m).1
    · rw [if_pos c]
      by_cases e : k = m
      · subst e; exact Nat.le_refl _
      · exact Nat.le_trans (Nat.le_of_lt c) (chF_le2 w init L R i m k (by omega))
    · rw [if_neg c]
      by_cases e : k = m
      · subst e; exact Nat.not_lt.mp c
      · exact chF_le2 w init L R i m k (by omega)
theorem chF_no (w init : Nat) (L R : Nat → Nat) (i : Nat) : ∀ m, (chF w init L R i m).2 = none → (chF w init L R i m).1 = init
  | 0, _ => rfl
  | m + 1, h => by
    unfold chF at h ⊢
    by_cases c : w + L (i + m) + R (i + m) < (chF w init L R i m).1
    · rw [if_pos c] at h; cases h
    · rw [if_neg c] at h ⊢; exact chF_no w init L R i m h
theorem chF_at (w init : Nat) (L R : Nat → Nat) (i : Nat) {k : Nat} : ∀ m, (chF w init L R i m).2 = some k → i ≤ k ∧ k < i + m
  | 0, h => by cases h
  | m + 1, h => by
    unfold chF at h
    by_cases c : w + L (i + m) + R (i + m) < (chF w init L R i m).1
    · rw [if_pos c] at h
      cases h
      omega
    · rw [if_neg c] at h
      have := chF_at w init L R i m h
      omega
theorem chF_cg {w init : Nat} {L R L' R' : Nat → Nat} {i : Nat} : ∀ m, (∀ k, k < m → L (i + k) = L' (i + k) ∧ R (i + k) = R' (i + k)) → chF w init L R i m = chF w init L' R' i m
  | 0, _ => rfl
  | m + 1, h => by
    unfold chF
    rw [chF_cg m (fun k hk => h k (by omega)), (h m (by omega)).1, (h m (by omega)).2]
def iniF (cs : List Cs) (rw mk : Bool) (i j : Nat) : Nat := if sortF cs rw mk i j = 0 then 2147483647 else stepF cs rw mk i j * wgF cs i (j + 1 - i)
def PF (cs : List Cs) (rw mk : Bool) : Nat → Nat → Nat → Nat × Option Nat
  | 0, _, _ => (0, none)
  | f + 1, i, j => chF (wgF cs i (j + 1 - i)) (iniF cs rw mk i j) (fun m => (PF cs rw mk f i m).1) (fun m => (PF cs rw mk f (m + 1) j).1) i (j - i)
theorem PF_ir (cs : List Cs) (rw mk : Bool) : ∀ f g i j, j - i < f → j - i < g → PF cs rw mk f i j = PF cs rw mk g i j
  | 0, _, _, _, h, _ => absurd h (Nat.not_lt_zero _)
  | _ + 1, 0, _, _, _, h => absurd h (Nat.not_lt_zero _)
  | f + 1, g + 1, i, j, h1, h2 => by
    unfold PF
    refine chF_cg _ (fun k hk => ⟨?_, ?_⟩)
    · rw [PF_ir cs rw mk f g i (i + k) (by omega) (by omega)]
    · rw [PF_ir cs rw mk f g (i + k + 1) j (by omega) (by omega)]
/-- what CASES i to j cost, and behind which of them the COMPARISON is -/
def pcF (cs : List Cs) (rw mk : Bool) (i j : Nat) : Nat × Option Nat := PF cs rw mk 12 i j
theorem pcF_eq (cs : List Cs) (rw mk : Bool) {i j : Nat} (hj : j < 12) : pcF cs rw mk i j = chF (wgF cs i (j + 1 - i)) (iniF cs rw mk i j) (fun m => (pcF cs rw mk i m).1) (fun m => (pcF cs rw mk (m + 1) j).1) i (j - i) := by
  unfold pcF
  rw [show PF cs rw mk 12 i j = PF cs rw mk (11 + 1) i j from rfl]
  conv => lhs; unfold PF
  refine chF_cg _ (fun k hk => ⟨?_, ?_⟩)
  · rw [PF_ir cs rw mk 11 12 i (i + k) (by omega) (by omega)]
  · rw [PF_ir cs rw mk 11 12 (i + k + 1) j (by omega) (by omega)]
theorem wgF_cut (cs : List Cs) (i : Nat) : ∀ m, wgF cs i (m + 1) = (cg cs i).2.2.2 + wgF cs (i + 1) m
  | 0 => by show 0 + (cg cs (i + 0)).2.2.2 = _ + 0; simp
  | m + 1 => by
    show wgF cs i (m + 1) + (cg cs (i + (m + 1))).2.2.2 = _ + (wgF cs (i + 1) m + (cg cs (i + 1 + m)).2.2.2)
    rw [wgF_cut cs i m, show i + (m + 1) = i + 1 + m by omega]
    omega
theorem wgF_le {cs : List Cs} (ho : OkC cs) (i : Nat) : ∀ m, i + m ≤ cs.length → wgF cs i m ≤ 9 * m
  | 0, _ => Nat.zero_le _
  | m + 1, h => by
    have h1 := wgF_le ho i m (by omega)
    have h2 := (ho.1 (i + m) (by omega)).2.2
    show wgF cs i m + (cg cs (i + m)).2.2.2 ≤ _
    omega
theorem sort_own (cs : List Cs) (rw mk : Bool) (i : Nat) : sortF cs rw mk i i = (if (cg cs i).1 = (cg cs i).2.1 then 4 else 1) := if_pos rfl
theorem step_own (cs : List Cs) (rw mk : Bool) (i : Nat) : stepF cs rw mk i i = loneF cs i := by
  unfold stepF loneF
  rw [sort_own]
  by_cases h : (cg cs i).1 = (cg cs i).2.1
  · rw [if_pos h, if_pos h]; rfl
  · rw [if_neg h, if_neg h]; rfl
theorem pc_own (cs : List Cs) (rw mk : Bool) {i : Nat} (hi : i < 12) : pcF cs rw mk i i = (loneF cs i * (cg cs i).2.2.2, none) := by
  rw [pcF_eq cs rw mk hi, Nat.sub_self]
  show (iniF cs rw mk i i, none) = _
  unfold iniF
  rw [if_neg (by rw [sort_own]; by_cases h : (cg cs i).1 = (cg cs i).2.1 <;> simp [h]), step_own, show i + 1 - i = 0 + 1 by omega, wgF_cut]
  rfl
theorem lone_le (cs : List Cs) (i : Nat) : loneF cs i ≤ 2 := by unfold loneF; by_cases h : (cg cs i).1 = (cg cs i).2.1 <;> simp [h]
theorem pc_le (cs : List Cs) (rw mk : Bool) : ∀ l i j, j - i = l → i ≤ j → j < 12 → (pcF cs rw mk i j).1 ≤ (l + 2) * wgF cs i (j + 1 - i)
  | 0, i, j, hl, hij, hj => by
    have e : j = i := by omega
    subst e
    rw [pc_own cs rw mk hj, show j + 1 - j = 0 + 1 by omega, wgF_cut]
    exact Nat.mul_le_mul (lone_le cs j) (Nat.le_refl _)
  | l + 1, i, j, hl, hij, hj => by
    have h1 := chF_le2 (wgF cs i (j + 1 - i)) (iniF cs rw mk i j) (fun m => (pcF cs rw mk i m).1) (fun m => (pcF cs rw mk (m + 1) j).1) i (j - i) 0 (by omega)
    rw [← pcF_eq cs rw mk hj] at h1
    have h2 := pc_le cs rw mk l (i + 1) j (by omega) (by omega) hj
    have h3 : (pcF cs rw mk i (i + 0)).1 ≤ 2 * (cg cs i).2.2.2 := by
      show (pcF cs rw mk i i).1 ≤ _
      rw [pc_own cs rw mk (by omega)]
      exact Nat.mul_le_mul (lone_le cs i) (Nat.le_refl _)
    have h4 : wgF cs i (j + 1 - i) = (cg cs i).2.2.2 + wgF cs (i + 1) (j + 1 - (i + 1)) := by
      rw [show j + 1 - i = (j + 1 - (i + 1)) + 1 by omega, wgF_cut]
    rw [h4] at h1 ⊢
    simp only [Nat.add_zero] at h1 h3
    generalize wgF cs (i + 1) (j + 1 - (i + 1)) = W at *
    generalize (cg cs i).2.2.2 = u at *
    have h5 : (l + 1 + 2) * (u + W) = (l + 2) * W + W + (l + 3) * u := by
      rw [show l + 1 + 2 = l + 3 from rfl, Nat.mul_add, show (l + 3) * W = (l + 2) * W + W from Nat.succ_mul (l + 2) W]
      omega
    have h6 : 3 * u ≤ (l + 3) * u := Nat.mul_le_mul (by omega) (Nat.le_refl _)
    rw [h5]
    omega
theorem pc_bd {cs : List Cs} (ho : OkC cs) (h12 : cs.length ≤ 12) (rw mk : Bool) {i j : Nat} (hij : i ≤ j) (hj : j < cs.length) : (pcF cs rw mk i j).1 ≤ 1404 := by
  have h1 := pc_le cs rw mk (j - i) i j rfl hij (by omega)
  have h2 := wgF_le ho i (j + 1 - i) (by omega)
  have h3 : (j - i + 2) * wgF cs i (j + 1 - i) ≤ 13 * 108 := Nat.mul_le_mul (by omega) (by omega)
  omega
theorem ini_le {cs : List Cs} (ho : OkC cs) (h12 : cs.length ≤ 12) (rw mk : Bool) {i j : Nat} (hij : i ≤ j) (hj : j < cs.length) : iniF cs rw mk i j ≤ 2147483647 := by
  unfold iniF
  by_cases h : sortF cs rw mk i j = 0
  · rw [if_pos h]; omega
  · rw [if_neg h]
    have h2 := wgF_le ho i (j + 1 - i) (by omega)
    have h3 : stepF cs rw mk i j ≤ 9 := by
      unfold stepF stF
      have : aimF cs i (j + 1 - i) ≤ 8 := by unfold aimF popF; omega
      split <;> omega
    have h4 : stepF cs rw mk i j * wgF cs i (j + 1 - i) ≤ 9 * 108 := Nat.mul_le_mul h3 (by omega)
    omega
theorem cut_some {cs : List Cs} (ho : OkC cs) (h12 : cs.length ≤ 12) (rw mk : Bool) {i j : Nat} (hij : i ≤ j) (hj : j < cs.length) (h : (pcF cs rw mk i j).2 = none) : sortF cs rw mk i j ≠ 0 := by
  intro h0
  have h1 := pc_bd ho h12 rw mk hij hj
  have h2 := pcF_eq cs rw mk (i := i) (j := j) (by omega)
  rw [h2] at h h1
  rw [chF_no _ _ _ _ _ _ h] at h1
  unfold iniF at h1
  rw [if_pos h0] at h1
  omega
theorem cut_at {cs : List Cs} {rw mk : Bool} {i j m : Nat} (hj : j < 12) (h : (pcF cs rw mk i j).2 = some m) : i ≤ m ∧ m < j := by
  rw [pcF_eq cs rw mk hj] at h
  have := chF_at _ _ _ _ _ _ h
  omega
/-- THE PLAN's PARTS: first, last CASE, DEPTH -/
def LF (cs : List Cs) (rw mk : Bool) : Nat → Nat → Nat → Nat → List (Nat × Nat × Nat)
  | 0, _, _, _ => []
  | f + 1, i, j, dp => match (pcF cs rw mk i j).2 with
    | none => [(i, j, dp)]
    | some m => LF cs rw mk f i m (dp + 1) ++ LF cs rw mk f (m + 1) j (dp + 1)
theorem LF_none {cs : List Cs} {rw mk : Bool} {f i j dp : Nat} (h : (pcF cs rw mk i j).2 = none) : LF cs rw mk (f + 1) i j dp = [(i, j, dp)] := by
  show (match (pcF cs rw mk i j).2 with
    | none => [(i, j, dp)]
    | some m => LF cs rw mk f i m (dp + 1) ++ LF cs rw mk f (m + 1) j (dp + 1)) = _
  rw [h]
theorem LF_some {cs : List Cs} {rw mk : Bool} {f i j dp m : Nat} (h : (pcF cs rw mk i j).2 = some m) : LF cs rw mk (f + 1) i j dp = LF cs rw mk f i m (dp + 1) ++ LF cs rw mk f (m + 1) j (dp + 1) := by
  show (match (pcF cs rw mk i j).2 with
    | none => [(i, j, dp)]
    | some m => LF cs rw mk f i m (dp + 1) ++ LF cs rw mk f (m + 1) j (dp + 1)) = _
  rw [h]
theorem LF_ir (cs : List Cs) (rw mk : Bool) : ∀ f g i j dp, j < 12 → j - i < f → j - i < g → LF cs rw mk f i j dp = LF cs rw mk g i j dp
  | 0, _, _, _, _, _, h, _ => absurd h (Nat.not_lt_zero _)
  | _ + 1, 0, _, _, _, _, _, h => absurd h (Nat.not_lt_zero _)
  | f + 1, g + 1, i, j, dp, hj, h1, h2 => by
    cases h : (pcF cs rw mk i j).2 with
    | none => rw [LF_none h, LF_none h]
    | some m =>
      have hm := cut_at hj h
      rw [LF_some h, LF_some h, LF_ir cs rw mk f g i m (dp + 1) (by omega) (by omega) (by omega), LF_ir cs rw mk f g (m + 1) j (dp + 1) hj (by omega) (by omega)]
theorem LF_len (cs : List Cs) (rw mk : Bool) : ∀ f i j dp, i ≤ j → j < 12 → j - i < f → 1 ≤ (LF cs rw mk f i j dp).length ∧ (LF cs rw mk f i j dp).length ≤ j + 1 - i
  | 0, _, _, _, _, _, h => absurd h (Nat.not_lt_zero _)
  | f + 1, i, j, dp, hij, hj, h1 => by
    cases h : (pcF cs rw mk i j).2 with
    | none =>
      rw [LF_none h]
      show 1 ≤ 1 ∧ 1 ≤ j + 1 - i
      omega
    | some m =>
      have hm := cut_at hj h
      have a1 := LF_len cs rw mk f i m (dp + 1) (by omega) (by omega) (by omega)
      have a2 := LF_len cs rw mk f (m + 1) j (dp + 1) (by omega) hj (by omega)
      rw [LF_some h, List.length_append]
      omega
def prtF (cs : List Cs) (rw mk : Bool) : List (Nat × Nat × Nat) := if cs.length = 0 then [] else LF cs rw mk 12 0 (cs.length - 1) 0
def priceF (cs : List Cs) (rw mk : Bool) : Nat := if cs.length = 0 then 0 else (pcF cs rw mk 0 (cs.length - 1)).1
def pg (l : List (Nat × Nat × Nat)) (k : Nat) : Nat × Nat × Nat := l.getD k (0, 0, 0)
def cutV : Option Nat → Int32
  | none => -1
  | some m => nI m
