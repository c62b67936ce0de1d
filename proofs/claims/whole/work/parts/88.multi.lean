/-! multianewarray: an array of 12 rows of 12 ints -/
def mulR (c : ClassId) : Cell := { cls := c, slots := Array.replicate 12 (.int 0), vm := .none }
def mulO (cA : ClassId) (h : Nat) : Nat → Cell
  | 0 => { cls := cA, slots := Array.replicate 12 .null, vm := .none }
  | k + 1 => (mulO cA h k).setSlot k (.ref (h + 1 + k))
def mulS (T : State) (cA c : ClassId) : Nat → State
  | 0 => T.pushCell (mulO cA T.heap.size 0)
  | k + 1 => ((mulS T cA c k).pushCell (mulR c)).setCell T.heap.size (mulO cA T.heap.size (k + 1))
section MU
variable {Q : Addr → Pre} {E : CtlPost} {e : Env} {d : Bool} {acts : List Action} {s : State}
theorem mu_new {c comp : ClassId} {k : Class} {ty : FieldType} {v : Value} (hk : s.vm.classes[c]? = some k) (hkind : k.kind = .array comp ty) (hv : v.isDefault = true) (hf : fits ty v = true) (hlim : 12 ≤ e.platform.arrayLengthLimit) (hheap : 12 * componentBytes ty ≤ e.platform.maxHeapBytes) (h1 : s.heap.size < e.platform.maxCells) (h2 : s.slotsUsed + 12 ≤ e.platform.maxSlots)
    (hq : Q s.heap.size d acts (s.pushCell { cls := c, slots := Array.replicate 12 v, vm := .none })) : wp (Jvm.newArray c 12 v) Q E e d acts s := by
  have hfit : ∀ i x, (Array.replicate 12 v)[i]? = some x → s.fitsSlot c .none i x = true := by
    intro i x hx
    simp only [Array.getElem?_replicate] at hx
    split at hx
    · cases hx; simp [State.fitsSlot, State.slotType?, hk, hkind, hf]
    · cases hx
  have hdef : allocActs (Array.replicate 12 v) s.heap.size acts = acts := by
    have hall : ((Array.replicate 12 v).all (·.isDefault)) = true := by
      rw [Array.all_replicate]; split <;> simp [hv]
    unfold allocActs; rw [if_pos hall]
  simp only [Jvm.newArray, Jvm.arrayFits, wp_bind', W.ask, W.theClass, hk, hkind, W.alloc, W.stop, W.ite, wp_pure', W.mark, Option.some.injEq, exists_eq_left']
  rw [if_neg (by omega)]
  trace_state
  sorry
end MU
