/-! THE MODEL: its cells and the abstract state -/
def MR (μ : Mm) (zs ar N r : Nat) (o : Rw) : Prop := match o with
  | none => μ.1 zs r = -1
  | some l => μ.1 zs r = nI l.length ∧ l.length ≤ N ∧ ∀ k, k < l.length → μ.1 ar (N * r + k) = l.getD k 0
/-- CASES as a row of 49 numbers from place o on -/
def MC (μ : Mm) (a o : Nat) (cs : List Cs) : Prop := μ.1 a o = nI cs.length ∧ cs.length ≤ 12 ∧ ∀ j, j < 4 → ∀ k, k < cs.length → μ.1 a (o + (1 + 12 * j + k)) = valF cs k j
def MH (μ : Mm) (a o : Nat) (hs : List (List Cs)) : Prop := ∀ e, e < hs.length → MC μ a (o + 49 * e) (hs.getD e [])
def MK (μ : Mm) (k : Nat) (o : Option Pg) : Prop := match o with
  | none => μ.1 209 k = -1
  | some g => μ.1 209 k = nI g.2.length ∧ MC μ 210 (2009 * k) g.1 ∧ MH μ 210 (2009 * k + 49) g.2 ∧ OkP g
def MPg (μ : Mm) (g : Pg) (rest : Nat) : Prop := MC μ 206 0 g.1 ∧ μ.1 198 20 = nI g.2.length ∧ MH μ 208 0 g.2 ∧ OkP g ∧ μ.1 198 16 = nI rest ∧ rest < 10
def MMs (μ : Mm) (ak : Int32) (mk : Int64) (lt : Int32) (tm : Nat → Int32) : Prop := μ.1 198 0 = ak ∧ μ.2 198 30 = mk ∧ μ.1 198 1 = lt ∧ ∀ f, f < 6 → μ.1 199 f = tm f
def MRws (μ : Mm) (f : Nat → Rw) : Prop := ∀ r, r < 6 → MR μ 200 201 40 r (f r)
def MTxs (μ : Mm) (f : Nat → Rw) : Prop := ∀ t, t < 4 → MR μ 203 204 120 t (f t)
def MKs (μ : Mm) (f : Nat → Option Pg) : Prop := ∀ k, k < 3 → MK μ k (f k)
def RelM (μ : Mm) (s : St) : Prop := MRws μ (sRw s) ∧ MTxs μ (sTx s) ∧ MPg μ (sP s) (sR s) ∧ MKs μ (sKp s) ∧ MMs μ (sAk s) (sMk s) (sLt s) (sTm s)
def LayM (G : Gm) : Prop := IsO G 198 6 ∧ (RF G 198 2 199 ∧ RF G 198 3 200 ∧ RF G 198 4 201 ∧ RF G 198 5 202 ∧ RF G 198 6 203 ∧ RF G 198 7 204 ∧ RF G 198 15 205 ∧ RF G 198 17 206 ∧ RF G 198 19 207 ∧ RF G 198 21 208 ∧ RF G 198 22 209 ∧ RF G 198 23 210 ∧ RF G 198 24 211 ∧ RF G 198 25 212 ∧ RF G 198 27 213 ∧ RF G 198 28 214 ∧ RF G 198 29 215 ∧ RF G 198 32 216 ∧ RF G 198 33 217) ∧
  (IsA G 199 10 6 ∧ IsA G 200 10 6 ∧ IsA G 201 10 240 ∧ IsA G 202 10 40 ∧ IsA G 203 10 4 ∧ IsA G 204 11 480 ∧ IsA G 205 10 49 ∧ IsA G 206 10 49 ∧ IsA G 207 11 120 ∧ IsA G 208 10 1960 ∧ IsA G 209 10 3 ∧ IsA G 210 10 6027 ∧ IsA G 211 10 144 ∧ IsA G 212 10 144 ∧ IsA G 213 10 12 ∧ IsA G 214 10 12 ∧ IsA G 215 10 12 ∧ IsA G 216 10 12 ∧ IsA G 217 10 12)
/-- nothing of the component's cells has changed -/
def FrM (μ μ' : Mm) : Prop := (∀ c k, c < 198 → μ'.1 c k = μ.1 c k) ∧ ∀ c k, c < 198 → μ'.2 c k = μ.2 c k
theorem FrM.rf {μ : Mm} : FrM μ μ := ⟨fun _ _ _ => rfl, fun _ _ _ => rfl⟩
theorem FrM.tr {μ μ1 μ2 : Mm} (h1 : FrM μ μ1) (h2 : FrM μ1 μ2) : FrM μ μ2 := ⟨fun c k h => (h2.1 c k h).trans (h1.1 c k h), fun c k h => (h2.2 c k h).trans (h1.2 c k h)⟩
theorem FrM.w {μ μ1 : Mm} {a k : Nat} {v : Int32} (h : FrM μ μ1) (ha : 198 ≤ a) : FrM μ (wI μ1 a k v) := ⟨fun c j z => (wI_n (by omega)).trans (h.1 c j z), h.2⟩
theorem FrM.l {μ μ1 : Mm} {a k : Nat} {v : Int64} (h : FrM μ μ1) (ha : 198 ≤ a) : FrM μ (wL μ1 a k v) := ⟨h.1, fun c j z => (wL_n (by omega)).trans (h.2 c j z)⟩
/-- a cell keeps all its numbers -/
def Ac (μ μ' : Mm) (c : Nat) : Prop := ∀ k, μ'.1 c k = μ.1 c k
theorem MR.ag {μ μ' : Mm} {zs ar N r : Nat} {o : Rw} (h : MR μ zs ar N r o) (h1 : μ'.1 zs r = μ.1 zs r) (h2 : ∀ k, N * r ≤ k → k < N * r + N → μ'.1 ar k = μ.1 ar k) : MR μ' zs ar N r o := by
  match o, h with
  | none, h => exact h1.trans h
  | some l, h => exact ⟨h1.trans h.1, h.2.1, fun k hk => (h2 _ (by omega) (by have := h.2.1; omega)).trans (h.2.2 k hk)⟩
theorem MC.ag {μ μ' : Mm} {a o : Nat} {cs : List Cs} (h : MC μ a o cs) (h1 : ∀ k, o ≤ k → k < o + 49 → μ'.1 a k = μ.1 a k) : MC μ' a o cs :=
  ⟨(h1 _ (by omega) (by omega)).trans h.1, h.2.1, fun j hj k hk => (h1 _ (by omega) (by have := h.2.1; omega)).trans (h.2.2 j hj k hk)⟩
theorem MC.cp {μ μ' : Mm} {a o a' o' : Nat} {cs : List Cs} (h : MC μ a o cs) (h1 : ∀ k, k < 49 → μ'.1 a' (o' + k) = μ.1 a (o + k)) : MC μ' a' o' cs :=
  ⟨(by have q := h1 0 (by omega); exact q.trans h.1), h.2.1, fun j hj k hk => (h1 _ (by have := h.2.1; omega)).trans (h.2.2 j hj k hk)⟩
theorem MH.ag {μ μ' : Mm} {a o : Nat} {hs : List (List Cs)} (h : MH μ a o hs) (h1 : ∀ k, o ≤ k → k < o + 49 * hs.length → μ'.1 a k = μ.1 a k) : MH μ' a o hs := fun e he => (h e he).ag (fun k x y => h1 k (by omega) (by omega))
theorem MRws.ag {μ μ' : Mm} {f : Nat → Rw} (h : MRws μ f) (h1 : Ac μ μ' 200) (h2 : Ac μ μ' 201) : MRws μ' f := fun r hr => (h r hr).ag (h1 r) (fun k _ _ => h2 k)
theorem MTxs.ag {μ μ' : Mm} {f : Nat → Rw} (h : MTxs μ f) (h1 : Ac μ μ' 203) (h2 : Ac μ μ' 204) : MTxs μ' f := fun r hr => (h r hr).ag (h1 r) (fun k _ _ => h2 k)
theorem MK.ag {μ μ' : Mm} {k : Nat} {o : Option Pg} (h : MK μ k o) (h1 : μ'.1 209 k = μ.1 209 k) (h2 : ∀ j, 2009 * k ≤ j → j < 2009 * k + 2009 → μ'.1 210 j = μ.1 210 j) : MK μ' k o := by
  match o, h with
  | none, h => exact h1.trans h
  | some g, h => exact ⟨h1.trans h.1, h.2.1.ag (fun j x y => h2 j x (by omega)), h.2.2.1.ag (fun j x y => h2 j (by omega) (by have := h.2.2.2.2.2.1; omega)), h.2.2.2⟩
theorem MKs.ag {μ μ' : Mm} {f : Nat → Option Pg} (h : MKs μ f) (h1 : Ac μ μ' 209) (h2 : Ac μ μ' 210) : MKs μ' f := fun r hr => (h r hr).ag (h1 r) (fun k _ _ => h2 k)
theorem MPg.ag {μ μ' : Mm} {g : Pg} {rest : Nat} (h : MPg μ g rest) (h1 : Ac μ μ' 206) (h2 : Ac μ μ' 208) (h3 : μ'.1 198 20 = μ.1 198 20) (h4 : μ'.1 198 16 = μ.1 198 16) : MPg μ' g rest := ⟨h.1.ag (fun k _ _ => h1 k), h3.trans h.2.1, h.2.2.1.ag (fun k _ _ => h2 k), h.2.2.2.1, h4.trans h.2.2.2.2.1, h.2.2.2.2.2⟩
theorem MMs.ag {μ μ' : Mm} {ak : Int32} {mk : Int64} {lt : Int32} {tm : Nat → Int32} (h : MMs μ ak mk lt tm) (h0 : μ'.1 198 0 = μ.1 198 0) (h1 : μ'.1 198 1 = μ.1 198 1) (h2 : Ac μ μ' 199) (h3 : μ'.2 198 30 = μ.2 198 30) : MMs μ' ak mk lt tm := ⟨h0.trans h.1, h3.trans h.2.1, h1.trans h.2.2.1, fun f hf => (h2 f).trans (h.2.2.2 f hf)⟩
/-- what the model uses in passing -/
def Fre (c k : Nat) : Prop := (c = 198 ∧ ((8 ≤ k ∧ k ≤ 14) ∨ k = 18 ∨ k = 26 ∨ k = 31)) ∨ c = 202 ∨ c = 205 ∨ c = 207 ∨ (211 ≤ c ∧ c ≤ 217)
def FrE (μ μ' : Mm) : Prop := (∀ c k, ¬ Fre c k → μ'.1 c k = μ.1 c k) ∧ ∀ c k, ¬ (c = 198 ∧ (k = 11 ∨ k = 34)) → μ'.2 c k = μ.2 c k
theorem FrE.rf {μ : Mm} : FrE μ μ := ⟨fun _ _ _ => rfl, fun _ _ _ => rfl⟩
theorem FrE.tr {μ μ1 μ2 : Mm} (h1 : FrE μ μ1) (h2 : FrE μ1 μ2) : FrE μ μ2 := ⟨fun c k h => (h2.1 c k h).trans (h1.1 c k h), fun c k h => (h2.2 c k h).trans (h1.2 c k h)⟩
theorem FrE.w {μ μ1 : Mm} {a k : Nat} {v : Int32} (h : FrE μ μ1) (ha : Fre a k) : FrE μ (wI μ1 a k v) := ⟨fun c j z => (wI_n (fun y => z (by rw [y.1, y.2]; exact ha))).trans (h.1 c j z), h.2⟩
theorem FrE.l {μ μ1 : Mm} {k : Nat} {v : Int64} (h : FrE μ μ1) (ha : k = 11 ∨ k = 34) : FrE μ (wL μ1 198 k v) := ⟨h.1, fun c j z => (wL_n (fun y => z ⟨y.1, by rw [y.2]; exact ha⟩)).trans (h.2 c j z)⟩
theorem RelM.free {μ μ' : Mm} {s : St} (h : RelM μ s) (hF : FrE μ μ') : RelM μ' s ∧ FrM μ μ' := by
  have e : ∀ c k, ¬ Fre c k → μ'.1 c k = μ.1 c k := hF.1
  have a : ∀ c, (199 ≤ c ∧ c ≤ 210 ∧ c ≠ 202 ∧ c ≠ 205 ∧ c ≠ 207) → Ac μ μ' c := fun c z k => e c k (fun y => by unfold Fre at y; omega)
  exact ⟨⟨h.1.ag (a _ (by omega)) (a _ (by omega)), h.2.1.ag (a _ (by omega)) (a _ (by omega)), h.2.2.1.ag (a _ (by omega)) (a _ (by omega)) (e _ _ (fun y => by unfold Fre at y; omega)) (e _ _ (fun y => by unfold Fre at y; omega)), h.2.2.2.1.ag (a _ (by omega)) (a _ (by omega)), h.2.2.2.2.ag (e _ _ (fun y => by unfold Fre at y; omega)) (e _ _ (fun y => by unfold Fre at y; omega)) (a _ (by omega)) (hF.2 _ _ (by omega))⟩, fun c k z => e _ _ (fun y => by unfold Fre at y; omega), fun c k z => hF.2 _ _ (by omega)⟩
/-- the component's calls leave the model's state, and the other way round -/
theorem RelM.x {μ μ' : Mm} {s : St} (h : RelM μ s) (hF : FrX μ μ') : RelM μ' s := by
  have a : ∀ c, 198 ≤ c → Ac μ μ' c := fun c z k => hF.1 c k z
  exact ⟨h.1.ag (a _ (by omega)) (a _ (by omega)), h.2.1.ag (a _ (by omega)) (a _ (by omega)), h.2.2.1.ag (a _ (by omega)) (a _ (by omega)) (a _ (by omega) _) (a _ (by omega) _), h.2.2.2.1.ag (a _ (by omega)) (a _ (by omega)), h.2.2.2.2.ag (a _ (by omega) _) (a _ (by omega) _) (a _ (by omega)) (hF.2 _ _ (by omega))⟩
theorem RelX.m {μ μ' : Mm} {s : St} (h : RelX μ s) (hF : FrM μ μ') : RelX μ' s := by
  obtain ⟨h1, h2, h3, h4, h5, h6, h7⟩ := (RelX_eq μ s).mp h
  have ag : ∀ lo hi, hi < 198 → Ag μ μ' lo hi := fun lo hi a c k x y => hF.1 _ _ (by omega)
  refine (RelX_eq _ _).mpr ⟨h1.ag (ag _ _ (by omega)), h2.ag (ag _ _ (by omega)), h3.ag (ag _ _ (by omega)), h4.ag (ag _ _ (by omega)) (ag _ _ (by omega)), ⟨?_, ?_, ?_, fun g hg => ?_⟩, h6.ag h3.2.2.1.2.1 (hF.1 _ _ (by omega)) (ag _ _ (by omega)), h7⟩
  · rw [hF.1 _ _ (by omega)]; exact h5.1
  · rw [hF.2 _ _ (by omega)]; exact h5.2.1
  · rw [hF.1 _ _ (by omega)]; exact h5.2.2.1
  · rw [hF.1 _ _ (by omega)]; exact h5.2.2.2 g hg
def inB (v lo hi : Int32) : Bool := decide (lo ≤ v ∧ v ≤ hi)
theorem inB_lv {L : Nat} (hL : L < 2147483648) (x : Int32) : inB x (nI 0) (lv L) = hasB L x := by
  unfold inB hasB
  apply decide_eq_decide.mpr
  show (0 ≤ x ∧ x ≤ lv L) ↔ _
  constructor
  · rintro ⟨h1, h2⟩
    refine ⟨h1, ?_⟩
    match L, h2 with
    | 0, h2 => exact absurd (Int32.le_trans h1 h2) (by decide)
    | n + 1, h2 =>
      rw [Int32.lt_iff_toInt_lt, nI_toInt hL]
      have h3 : x ≤ nI n := h2
      rw [Int32.le_iff_toInt_le, nI_toInt (by omega)] at h3
      omega
  · rintro ⟨h1, h2⟩
    refine ⟨h1, ?_⟩
    match L, h2 with
    | 0, h2 => exact absurd (Int32.lt_of_le_of_lt h1 h2) (by decide)
    | n + 1, h2 =>
      show x ≤ nI n
      rw [Int32.lt_iff_toInt_lt, nI_toInt hL] at h2
      rw [Int32.le_iff_toInt_le, nI_toInt (by omega)]
      omega
theorem RelM.found {ν : Mm} {s : St} {f : Nat} (h : RelM ν s) (hf : f < 6) : RelM (wI (wI ν 198 1 (nI f)) 199 f (sTm s f + nI 1)) (uFnd s f) ∧ FrM ν (wI (wI ν 198 1 (nI f)) 199 f (sTm s f + nI 1)) := by
  have a : ∀ c, c ≠ 198 → c ≠ 199 → Ac ν (wI (wI ν 198 1 (nI f)) 199 f (sTm s f + nI 1)) c := fun c z y k => by rw [wI_n (by omega), wI_n (by omega)]
  refine ⟨⟨h.1.ag (a _ (by omega) (by omega)) (a _ (by omega) (by omega)), h.2.1.ag (a _ (by omega) (by omega)) (a _ (by omega) (by omega)), h.2.2.1.ag (a _ (by omega) (by omega)) (a _ (by omega) (by omega)) ?_ ?_, h.2.2.2.1.ag (a _ (by omega) (by omega)) (a _ (by omega) (by omega)), ?_, h.2.2.2.2.2.1, ?_, fun g hg => ?_⟩, FrM.w (FrM.w FrM.rf (by omega)) (by omega)⟩
  · rw [wI_n (by omega), wI_n (by omega)]
  · rw [wI_n (by omega), wI_n (by omega)]
  · rw [wI_n (by omega), wI_n (by omega)]; exact h.2.2.2.2.1
  · rw [wI_n (by omega), wI_e]; rfl
  · show _ = fup (sTm s) f (sTm s f + nI 1) g
    by_cases e : g = f
    · subst e; rw [wI_e, fup_e]
    · rw [wI_n (by omega), wI_n (by omega), fup_n e]; exact h.2.2.2.2.2.2.2 g hg
theorem RelM.ask {μ : Mm} {s : St} (h : RelM μ s) (v : Int32) : RelM (wI μ 198 0 v) (uAsk s v) ∧ FrM μ (wI μ 198 0 v) := by
  have a : ∀ c, c ≠ 198 → Ac μ (wI μ 198 0 v) c := fun c z k => wI_n (by omega)
  exact ⟨⟨h.1.ag (a _ (by omega)) (a _ (by omega)), h.2.1.ag (a _ (by omega)) (a _ (by omega)), h.2.2.1.ag (a _ (by omega)) (a _ (by omega)) (wI_n (by omega)) (wI_n (by omega)), h.2.2.2.1.ag (a _ (by omega)) (a _ (by omega)), wI_e _ _ _ _, h.2.2.2.2.2.1, (wI_n (by omega)).trans h.2.2.2.2.2.2.1, fun g hg => (wI_n (by omega)).trans (h.2.2.2.2.2.2.2 g hg)⟩, FrM.w FrM.rf (by omega)⟩
section MM
variable {G : Gm} {μ : Mm} {d : Nat} {s : St}
theorem m_in (v lo hi : Int32) : Si mX6_in (d) [.int v, .int lo, .int hi] G μ (fun r μ' => μ = μ' ∧ r = b2i (inB v lo hi)) := by
  refine Si_of (ls := [.int v, .int lo, .int hi]) (by decide +kernel) (Nat.le_of_ble_eq_true rfl) rfl ?_
  refine J_iload_n (i := 0) qX6_in_0 rfl rfl ?_
  refine J_iload_n (i := 1) qX6_in_1 rfl rfl ?_
  refine J_icmp_lt qX6_in_2 (fun c => ?_) (fun c => ?_)
  · refine J_pushI qX6_in_14 ?_
    refine Jz_ret qX6_in_15 (by first | exact Or.inl rfl | exact Or.inr rfl | assumption) ?_
    exact ⟨rfl, b2i_f (decide_eq_false (fun q => absurd q.1 (Int32.not_le.mpr c)))⟩
  · refine J_iload_n (i := 0) qX6_in_5 rfl rfl ?_
    refine J_iload_n (i := 2) qX6_in_6 rfl rfl ?_
    refine J_icmp_gt qX6_in_7 (fun c2 => ?_) (fun c2 => ?_)
    · refine J_pushI qX6_in_14 ?_
      refine Jz_ret qX6_in_15 (by first | exact Or.inl rfl | exact Or.inr rfl | assumption) ?_
      exact ⟨rfl, b2i_f (decide_eq_false (fun q => absurd q.2 (Int32.not_le.mpr c2)))⟩
    · refine J_pushI qX6_in_10 ?_
      refine J_goto qX6_in_11 ?_
      refine Jz_ret qX6_in_15 (by first | exact Or.inl rfl | exact Or.inr rfl | assumption) ?_
      exact ⟨rfl, b2i_t (decide_eq_true ⟨i32_nlt c, i32_nlt c2⟩)⟩
theorem m_isRow (x : Int32) : Si mX6_isRow (d+1) [.int x] G μ (fun r μ' => μ = μ' ∧ r = b2i (hasB 6 x)) := by
  refine Si_of (ls := [.int x]) (by decide +kernel) (Nat.le_of_ble_eq_true rfl) rfl ?_
  refine J_iload_n (i := 0) qX6_isRow_0 rfl rfl ?_
  refine J_pushI qX6_isRow_1 ?_
  refine J_pushI qX6_isRow_2 ?_
  refine J_si3 qX6_isRow_3 kX6_75 (m_in (d := d) x (nI 0) (lv 6)) (Nat.le_of_ble_eq_true rfl) (fun v μ' hr => ?_)
  rw [inB_lv (by omega)] at hr
  obtain ⟨rfl, rfl⟩ := hr
  refine Jz_ret qX6_isRow_6 (b2i_01 _) ?_
  exact ⟨rfl, rfl⟩
theorem m_isText (x : Int32) : Si mX6_isText (d+1) [.int x] G μ (fun r μ' => μ = μ' ∧ r = b2i (hasB 4 x)) := by
  refine Si_of (ls := [.int x]) (by decide +kernel) (Nat.le_of_ble_eq_true rfl) rfl ?_
  refine J_iload_n (i := 0) qX6_isText_0 rfl rfl ?_
  refine J_pushI qX6_isText_1 ?_
  refine J_pushI qX6_isText_2 ?_
  refine J_si3 qX6_isText_3 kX6_75 (m_in (d := d) x (nI 0) (lv 4)) (Nat.le_of_ble_eq_true rfl) (fun v μ' hr => ?_)
  rw [inB_lv (by omega)] at hr
  obtain ⟨rfl, rfl⟩ := hr
  refine Jz_ret qX6_isText_6 (b2i_01 _) ?_
  exact ⟨rfl, rfl⟩
theorem m_found (hM : LayM G) (h : RelM μ s) {f : Nat} (hf : f < 6) : Si mX6_found (d) [.ref 198, .int (nI f)] G μ (fun r μ' => r = -3 ∧ RelM μ' (uFnd s f) ∧ FrM μ μ') := by
  obtain ⟨mO, ⟨f2, -⟩, ⟨b199, -⟩⟩ := hM
  have e := h.2.2.2.2.2.2.2 f hf
  refine Si_of (ls := [.ref 198, .int (nI f)]) (by decide +kernel) (Nat.le_of_ble_eq_true rfl) rfl ?_
  refine J_aload_n (i := 0) qX6_found_0 rfl rfl ?_
  refine J_iload_n (i := 1) qX6_found_1 rfl rfl ?_
  refine J_putI qX6_found_2 fX6_68p (by assumption) rfl rfl ?_
  refine J_aload_n (i := 0) qX6_found_5 rfl rfl ?_
  refine J_getR qX6_found_6 fX6_9 (by assumption) (by assumption) ?_
  refine J_iload_n (i := 1) qX6_found_9 rfl rfl ?_
  refine J_dup2 qX6_found_10 rfl rfl ?_
  refine J_ialde qX6_found_11 (by assumption) rfl (by omega) (by (repeat first | with_reducible exact wI_e _ _ _ _ | (with_reducible apply rd_s; focus omega) | (with_reducible apply rd_c; focus omega) | (with_reducible apply rd_k; focus omega) | with_reducible exact rd_e (by omega)); first | done | assumption | rfl) ?_
  refine J_pushI qX6_found_12 ?_
  first | with_reducible refine J_iadd_n qX6_found_13 ?_ | refine J_iadd qX6_found_13 ?_
  refine J_iast qX6_found_14 (by assumption) rfl (by omega) ?_
  refine J_pushI qX6_found_15 ?_
  refine Ji_ret qX6_found_17 ?_
  exact ⟨rfl, h.found hf⟩
theorem m_tells (hM : LayM G) (h : RelM μ s) (v a : Int32) : Si mX6_tells (d) [.ref 198, .int v, .int a] G μ (fun r μ' => r = a ∧ RelM μ' (uAsk s v) ∧ FrM μ μ') := by
  have mO := hM.1
  refine Si_of (ls := [.ref 198, .int v, .int a]) (by decide +kernel) (Nat.le_of_ble_eq_true rfl) rfl ?_
  refine J_aload_n (i := 0) qX6_tells_0 rfl rfl ?_
  refine J_iload_n (i := 1) qX6_tells_1 rfl rfl ?_
  refine J_putI qX6_tells_2 fX6_72p (by assumption) rfl rfl ?_
  refine J_iload_n (i := 2) qX6_tells_5 rfl rfl ?_
  refine Ji_ret qX6_tells_6 ?_
  exact ⟨rfl, h.ask v⟩
theorem m_rowAt (hM : LayM G) {r i : Nat} (hr : r < 6) (hi : i < 40) : Si mX6_rowAt (d) [.ref 198, .int (nI r), .int (nI i)] G μ (fun v μ' => μ = μ' ∧ v = μ.1 201 (40 * r + i)) := by
  obtain ⟨mO, ⟨f2, f3, f4, -⟩, ⟨b199, b200, b201, -⟩⟩ := hM
  refine Si_of (ls := [.ref 198, .int (nI r), .int (nI i)]) (by decide +kernel) (Nat.le_of_ble_eq_true rfl) rfl ?_
  refine J_aload_n (i := 0) qX6_rowAt_0 rfl rfl ?_
  refine J_getR qX6_rowAt_1 fX6_16 (by assumption) (by assumption) ?_
  refine J_pushI qX6_rowAt_4 ?_
  refine J_iload_n (i := 1) qX6_rowAt_6 rfl rfl ?_
  first | with_reducible refine J_imul_n qX6_rowAt_7 ?_ | refine J_imul qX6_rowAt_7 ?_
  refine J_iload_n (i := 2) qX6_rowAt_8 rfl rfl ?_
  first | with_reducible refine J_iadd_n qX6_rowAt_9 ?_ | refine J_iadd qX6_rowAt_9 ?_
  refine J_ialde qX6_rowAt_10 (by assumption) rfl (by omega) (by (repeat first | with_reducible exact wI_e _ _ _ _ | (with_reducible apply rd_s; focus omega) | (with_reducible apply rd_c; focus omega) | (with_reducible apply rd_k; focus omega) | with_reducible exact rd_e (by omega)); first | done | assumption | rfl) ?_
  refine Ji_ret qX6_rowAt_11 ?_
  exact ⟨rfl, rfl⟩
theorem m_asked (hM : LayM G) (h : RelM μ s) : Si mX6_asked (d) [.ref 198] G μ (fun q μ' => q = sAk s ∧ RelM μ' s ∧ FrM μ μ') := by
  have mO := hM.1
  have e := h.2.2.2.2.1
  refine Si_of (ls := [.ref 198]) (by decide +kernel) (Nat.le_of_ble_eq_true rfl) rfl ?_
  refine J_aload_n (i := 0) qX6_asked_0 rfl rfl ?_
  refine J_getIe qX6_asked_1 fX6_72 (by assumption) (by (repeat first | with_reducible exact wI_e _ _ _ _ | (with_reducible apply rd_s; focus omega) | (with_reducible apply rd_c; focus omega) | (with_reducible apply rd_k; focus omega) | with_reducible exact rd_e (by omega)); first | done | assumption | rfl) ?_
  refine Ji_ret qX6_asked_4 ?_
  exact ⟨rfl, h, FrM.rf⟩
theorem m_mask0 (hM : LayM G) (h : RelM μ s) : Sl mX6_mask0 (d) [.ref 198] G μ (fun q μ' => q = sMk s ∧ RelM μ' s ∧ FrM μ μ') := by
  have mO := hM.1
  have e := h.2.2.2.2.2.1
  refine Sl_of (ls := [.ref 198]) (by decide +kernel) (Nat.le_of_ble_eq_true rfl) rfl ?_
  refine J_aload_n (i := 0) qX6_mask0_0 rfl rfl ?_
  refine J_getLe qX6_mask0_1 fX6_299 (by assumption) (by (repeat first | with_reducible exact wL_e _ _ _ _ | with_reducible apply rdl_i | (with_reducible apply rdl_s; focus omega) | (with_reducible apply rdl_k; focus omega)); first | done | assumption | rfl) ?_
  refine Jl_ret qX6_mask0_4 ?_
  exact ⟨rfl, h, FrM.rf⟩
theorem m_finding (hM : LayM G) (h : RelM μ s) : Si mX6_finding (d) [.ref 198] G μ (fun q μ' => q = sLt s ∧ RelM μ' s ∧ FrM μ μ') := by
  have mO := hM.1
  have e := h.2.2.2.2.2.2.1
  refine Si_of (ls := [.ref 198]) (by decide +kernel) (Nat.le_of_ble_eq_true rfl) rfl ?_
  refine J_aload_n (i := 0) qX6_finding_0 rfl rfl ?_
  refine J_getIe qX6_finding_1 fX6_68 (by assumption) (by (repeat first | with_reducible exact wI_e _ _ _ _ | (with_reducible apply rd_s; focus omega) | (with_reducible apply rd_c; focus omega) | (with_reducible apply rd_k; focus omega) | with_reducible exact rd_e (by omega)); first | done | assumption | rfl) ?_
  refine Ji_ret qX6_finding_4 ?_
  exact ⟨rfl, h, FrM.rf⟩
end MM
