/-! THE PURE WORLD: cells by their numbers 0, 1, .. in the order of their making; what a cell is (Sh), what it holds (Mm) -/
abbrev Sh : Type := Nat × Nat × (Nat → Option Nat)
abbrev Gm : Type := (Nat → Sh) × Nat
abbrev Mm : Type := (Nat → Nat → Int32) × (Nat → Nat → Int64)
abbrev Wd : Type := Gm × Mm
def tyF (c k : Nat) : FieldType := match c with
  | 0 => tyX0 k
  | 1 => tyX1 k
  | 2 => tyX2 k
  | 3 => tyX3 k
  | 4 => tyX4 k
  | 5 => tyX5 k
  | _ => tyX6 k
def clR (c : Nat) : String := match c with
  | 0 => RX0
  | 1 => RX1
  | 2 => RX2
  | 3 => RX3
  | 4 => RX4
  | 5 => RX5
  | _ => RX6
def clT (c : Nat) : u_T := match c with
  | 0 => TX0
  | 1 => TX1
  | 2 => TX2
  | 3 => TX3
  | 4 => TX4
  | 5 => TX5
  | _ => TX6
def clN (c : Nat) : Nat := match c with
  | 0 => 9
  | 1 => 13
  | 2 => 9
  | 3 => 2
  | 4 => 3
  | 5 => 15
  | _ => 35
abbrev cls7 : List vw_C := [(RX0, TX0, 9), (RX1, TX1, 13), (RX2, TX2, 9), (RX3, TX3, 2), (RX4, TX4, 3), (RX5, TX5, 15), (RX6, TX6, 35)]
theorem cls7_at {c : Nat} (h : c < 7) : cls7[c]? = some (clR c, clT c, clN c) := by
  match c, h with
  | 0, _ => rfl
  | 1, _ => rfl
  | 2, _ => rfl
  | 3, _ => rfl
  | 4, _ => rfl
  | 5, _ => rfl
  | 6, _ => rfl
theorem clN_ok {c : Nat} (h : c < 7) : ∀ a, a < clN c → ∀ b, b < clN c → a ≠ b → (clT c a).2.1 ≠ (clT c b).2.1 := by
  match c, h with
  | 0, _ => exact nmX0
  | 1, _ => exact nmX1
  | 2, _ => exact nmX2
  | 3, _ => exact nmX3
  | 4, _ => exact nmX4
  | 5, _ => exact nmX5
  | 6, _ => exact nmX6
theorem clTy_ok {c : Nat} (h : c < 7) : ∀ k, k < clN c → parseFieldDescriptor (clT c k).2.2.1 = some (tyF c k) := by
  match c, h with
  | 0, _ => exact tyX0_ok
  | 1, _ => exact tyX1_ok
  | 2, _ => exact tyX2_ok
  | 3, _ => exact tyX3_ok
  | 4, _ => exact tyX4_ok
  | 5, _ => exact tyX5_ok
  | 6, _ => exact tyX6_ok
def lw_g : List Cond := lw_tbl.filter goodWord
theorem lw_gm {w : Cond} (h : w ∈ lw_tbl) (hg : goodWord w = true) : w ∈ lw_g := List.mem_filter.mpr ⟨h, hg⟩
set_option maxRecDepth 20000 in
theorem inX0 : ∀ w ∈ wsX00, w ∈ lw_tbl := by decide +kernel
set_option maxRecDepth 20000 in
theorem inX1 : ∀ w ∈ wsX10, w ∈ lw_tbl := by decide +kernel
set_option maxRecDepth 20000 in
theorem inX2 : ∀ w ∈ wsX20, w ∈ lw_tbl := by decide +kernel
set_option maxRecDepth 20000 in
theorem inX3 : ∀ w ∈ wsX30, w ∈ lw_tbl := by decide +kernel
set_option maxRecDepth 20000 in
theorem inX4 : ∀ w ∈ wsX40, w ∈ lw_tbl := by decide +kernel
set_option maxRecDepth 20000 in
theorem inX5 : ∀ w ∈ wsX50, w ∈ lw_tbl := by decide +kernel
set_option maxRecDepth 20000 in
theorem inX6 : ∀ w ∈ wsX60, w ∈ lw_tbl := by decide +kernel
theorem gdX0 : wsX00.all goodWord = true := by decide +kernel
theorem gdX1 : wsX10.all goodWord = true := by decide +kernel
theorem gdX2 : wsX20.all goodWord = true := by decide +kernel
theorem gdX3 : wsX30.all goodWord = true := by decide +kernel
theorem gdX4 : wsX40.all goodWord = true := by decide +kernel
theorem gdX5 : wsX50.all goodWord = true := by decide +kernel
theorem gdX6 : wsX60.all goodWord = true := by decide +kernel
theorem in_g {ws : List Cond} (h : ∀ w ∈ ws, w ∈ lw_tbl) (hg : ws.all goodWord = true) : ∀ w ∈ ws, w ∈ lw_g := fun w hw => lw_gm (h w hw) (List.all_eq_true.mp hg w hw)
theorem cl_in {c : Nat} (h : c < 7) : ∀ w ∈ u_ws (clR c) (clT c) (clN c), w ∈ lw_g := by
  match c, h with
  | 0, _ => exact in_g inX0 gdX0
  | 1, _ => exact in_g inX1 gdX1
  | 2, _ => exact in_g inX2 gdX2
  | 3, _ => exact in_g inX3 gdX3
  | 4, _ => exact in_g inX4 gdX4
  | 5, _ => exact in_g inX5 gdX5
  | 6, _ => exact in_g inX6 gdX6
def ftk : FieldType → Nat
  | .long => 1
  | .object _ => 2
  | .array _ => 2
  | _ => 0
def fty (c k : Nat) : Nat := ftk (tyF c k)
def trV (ad : Nat → Nat) : Value → Value
  | .ref i => .ref (ad i)
  | v => v
def fv (ad : Nat → Nat) (w : Wd) (i k : Nat) : Value :=
  if fty (w.1.1 i).1 k = 0 then .int (w.2.1 i k) else if fty (w.1.1 i).1 k = 1 then .long (w.2.2 i k) else va_rf (((w.1.1 i).2.2 k).map ad)
def ob (tc : Nat → ClassId) (ad : Nat → Nat) (w : Wd) (i : Nat) : va_E :=
  if (w.1.1 i).1 < 10 then .inr ((w.1.1 i).1, (List.range (w.1.1 i).2.1).map (fv ad w i))
  else if (w.1.1 i).1 < 13 then .inl (tc (w.1.1 i).1, (w.1.1 i).2.1, .inl (fun j => w.2.1 i j))
  else .inl (tc (w.1.1 i).1, (w.1.1 i).2.1, .inr (.inr (.inr (.inr (fun j => ((w.1.1 i).2.2 j).map ad)))))
def wsW (tc : Nat → ClassId) (ad : Nat → Nat) (w : Wd) : va_W := (List.range w.1.2).map (fun i => (ad i, ob tc ad w i))
theorem wsW_at {tc : Nat → ClassId} {ad : Nat → Nat} {w : Wd} {i : Nat} (h : i < w.1.2) : (wsW tc ad w)[i]? = some (ad i, ob tc ad w i) := by
  unfold wsW
  rw [List.getElem?_map, List.getElem?_range h]
  rfl
/-- the world but for one cell -/
theorem wsW_set {tc : Nat → ClassId} {ad : Nat → Nat} {w w' : Wd} {a : Nat} {x : va_E} (hG : w'.1.2 = w.1.2) (ho : ∀ i, i ≠ a → ob tc ad w' i = ob tc ad w i) (hx : ob tc ad w' a = x) : (wsW tc ad w).set a (ad a, x) = wsW tc ad w' := by
  unfold wsW
  rw [hG]
  apply List.ext_getElem?
  intro j
  rw [List.getElem?_set]
  by_cases hj : a = j
  · subst hj
    by_cases hl : a < w.1.2
    · simp [hl, hx]
    · simp [hl]
  · rw [if_neg hj, List.getElem?_map, List.getElem?_map]
    by_cases hl : j < w.1.2
    · rw [List.getElem?_range hl]
      simp [ho j (fun h => hj h.symm)]
    · rw [List.getElem?_eq_none (by simpa using hl)]
      rfl
/-- the array classes, by their kinds -/
abbrev tyL (tc : Nat → ClassId) : List (ClassId × FieldType) := [(tc 10, .int), (tc 11, .byte), (tc 12, .boolean), (tc 13, .object RX3), (tc 14, .object RX1), (tc 15, .array .int)]
/-! THE CONTEXT of a method's body -/
def Cx (mi : MI) (p : Program) (s : State) (m : MethodId) (args : Array Value) (meth : Method) (c : Code) : Prop :=
  p.tables.exec = Jvm.exec ∧ c.code = mi.2.1 ∧ meth.sig.returnType = mi.2.2.2 ∧ c.maxLocals = mi.2.2.1 ∧ s.vm.findClass mi.1.cls = some m.cls ∧ (∀ w ∈ lw_g, w.before args s = true) ∧ meth.locks = false ∧ meth.name = mi.1.name
def Rm (d : Nat) (lim : Nat × Nat) (R : Room) : Prop := d + 1 ≤ R.frames ∧ 64 * (d + 1) ≤ R.locals ∧ lim.1 ≤ R.cells ∧ lim.2 ≤ R.slots
def nestL : List (String × Nat × MethodName × String) := [("CaseCutter$Reader", 121, yX5_hashWith, "CaseCutter"), ("CaseCutter", 20, yX1_init, "CaseCutter"), ("CaseCutter", 38, yX2_init, "CaseCutter"), ("CaseCutter", 45, yX4_init, "CaseCutter"), ("CaseCutter", 52, yX0_init, "CaseCutter")]
def strN : List Nat := [4, 5, 4, 4]
def strB : List (List Int32) := [[114, 101, 115, 116], [114, 97, 110, 103, 101], [110, 97, 109, 101], [99, 97, 115, 101]]
def strL : List (String × Nat × String × Nat) := [("CaseCutter$Reader", 75, "rest", 0), ("CaseCutter$Reader", 84, "range", 1), ("CaseCutter$Reader", 86, "name", 2), ("CaseCutter$Reader", 88, "case", 3), ("CaseCutter$Writer", 31, "case", 3), ("CaseCutter$Writer", 41, "range", 1), ("CaseCutter$Writer", 55, "rest", 0)]
/-- arrays of arrays of ints -/
def lx_AI (U : State) : Prop := (Cond.arrayOver (.array .int)).before #[] U = true
theorem lx_AI.moved {u U : State} (hal : u.vm.Alike U.vm) (h : lx_AI u) : lx_AI U := by
  have h1 := Cond.arrayOver_setVmC (args := #[]) (s := u) hal (.array .int)
  exact h1.trans h
/-- what else is known of the machine outside the world: nest mates' links, the constants' texts -/
def Xs (ad : Nat → Nat) (A : Nat → Prop) (U : State) : Prop := (∀ q ∈ nestL, va_Nw (.methodLinkNest q.1 q.2.1 q.2.2.1 q.2.2.2) U) ∧
  vk_S 4 strN strB (fun i => ad (1000000 + i)) (fun i => ad (1000010 + i)) A U U.heap ∧ (∀ q ∈ strL, vk_R q.1 q.2.1 q.2.2.1 (ad (1000000 + q.2.2.2)) U) ∧ va_Z "java/lang/String" "COMPACT_STRINGS" "Z" (.int 1) A U U.heap ∧ va_AO RX3 U ∧ (va_AO RX1 U ∧ lx_AI U) ∧
  (va_Z "jdk/internal/util/Preconditions" "SIOOBE_FORMATTER" "Ljava/util/function/BiFunction;" .null A U U.heap ∨ va_Z "jdk/internal/util/Preconditions" "SIOOBE_FORMATTER" "Ljava/util/function/BiFunction;" (.ref (ad 2000000)) A U U.heap)
def Sc (sc : Nat × (Nat → Int32)) (ad : Nat → Nat) (A : Nat → Prop) (U : State) : Prop := sc.1 = 0 ∨ (va_X (ad 3000000) (sc.1 - 1) sc.2 U U.heap ∧ ad 3000000 < U.heap.size ∧ ¬ A (ad 3000000))
def Ev (D : va_G) (tc : Nat → ClassId) (ad : Nat → Nat) (w : Wd) (sc : Nat × (Nat → Int32)) (s : State) (A : Nat → Prop) (H : Heap) (locs : List Loc) : Prop :=
  va_K D cls7 (tyL tc) s ∧ va_P D cls7 (wsW tc ad w) H ∧ va_D A (wsW tc ad w) ∧ va_S A s.heap H locs ∧ (∀ q, s.heap.size ≤ q → A q) ∧ w.1.2 ≤ 1000000 ∧ Xs ad A s ∧ Sc sc ad A s
/-- the locals: null stands for 'not known' -/
def Lr (nL : Nat) (ad : Nat → Nat) (ls : List Value) (lr : Array Slot) : Prop := lr.size = nL ∧ lv_wf lr ∧ ∀ (i : Nat) (v : Value), ls[i]? = some v → v ≠ .null → lr[i]? = some (.val (trV ad v))
def RetI (mi : MI) (pc : Nat) (v : Option Value) : Prop := match v with
  | none => decode mi.2.1 pc = .ok (.return_, 1) ∧ mi.2.2.2 = none
  | some (.int x) => decode mi.2.1 pc = .ok (.ireturn, 1) ∧ ∃ t, mi.2.2.2 = some t ∧ narrow t (.int x) = .int x
  | some (.long _) => decode mi.2.1 pc = .ok (.lreturn, 1) ∧ mi.2.2.2 = some .long
  | some _ => False
/-- a later naming of the cells: what was named keeps its name -/
def AdX (ad ad' : Nat → Nat) (n n' : Nat) : Prop := ∀ i, (i < n ∨ n' ≤ i) → ad' i = ad i
/-- THE JUDGEMENT: from pc on, with these locals, operands and world, the method comes to an answer and a world of K -/
def J (mi : MI) (d : Nat) (lim : Nat × Nat) (sc : Nat × (Nat → Int32)) (K : Option Value → Wd → Prop) (cs : Nat × Nat) (pc : Nat) (ls st : List Value) (w : Wd) : Prop :=
  ∀ (p : Program) (l : Launch) (e : Env) (R : Room) (s : State) (m : MethodId) (args : Array Value) (below : List Frame) (meth : Method) (c : Code) (H : Heap) (locs : List Loc) (D : va_G) (tc : Nat → ClassId) (ad : Nat → Nat) (A : Nat → Prop) (lr : Array Slot) (Q : State → Prop),
    Cx mi p s m args meth c → Rm d lim R → Ev D tc ad w sc s A H locs → Lr mi.2.2.1 ad ls lr →
    (∀ (v : Option Value) (w' : Wd) (H' : Heap) (locs' : List Loc) (ad' : Nat → Nat) (lr' : Array Slot) (pc' : Nat) (cs' : Nat × Nat), K v w' → AdX ad ad' w.1.2 w'.1.2 → w.1.2 ≤ w'.1.2 → Ev D tc ad' w' sc s A H' locs' → cs'.1 ≤ lim.1 → cs'.2 ≤ lim.2 → RetI mi pc' v →
      W p l e R s m args below meth c H' locs' cs'.1 cs'.2 Q (F0 m pc' lr' (v.toList.map (trV ad')))) →
    W p l e R s m args below meth c H locs cs.1 cs.2 Q (F0 m pc lr (st.map (trV ad)))
def Dc (mi : MI) (pc : Nat) (i : Instr) (n nx : Nat) : Prop := decode mi.2.1 pc = .ok (i, n) ∧ pc + n = nx
