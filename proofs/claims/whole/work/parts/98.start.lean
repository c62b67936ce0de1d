/-! THE CLAIM OUT OF ONE WALK OF THE LAW'S BODY. Your part is whole_start (and what it stands on); all else here is the same for every law, but numbers. -/
def R_law : String := "CaseCutterLaw"
def lw_P (b : Addr) (xs : List Int32) (args : Array Value) (s : State) : Prop := args = #[.ref b] ∧ s.IntsAt b xs ∧ xs.length ≤ 3072 ∧ (Jvm.Cond.and given_1 narrow_1).before args s = true
def lw_Q (_ : Array Value) (s : State) (o : Outcome) (t : State) : Prop := o = .returned (some (.int 1)) ∧ Framed s o t [] 600000 7302250
def lw_Z (below : List Frame) (a : Array Value) (s : State) : State → Prop := fun t => ∃ o, t.status = .running ∧ Ended t below o ∧ lw_Q a s o t
/-- the law's own end, with 1 on the stack, nothing written that was there before, its room as the claim has it -/
theorem lw_ret {p : Program} {l : Launch} {e : Env} {s : State} {m : MethodId} {below : List Frame} {meth : Method} {c : Code} {b : Nat} (hx : p.tables.exec = Jvm.exec) (hb : c.code = code) (hr : meth.sig.returnType = ret) (hlocks : meth.locks = false) {pc : Nat} {H : Heap} {ls : Array Slot} (hdg : decode code pc = .ok (.ireturn, 1)) : W p l e room_1 s m #[Value.ref b] below meth c H [] 600000 7302250 (lw_Z below #[Value.ref b] s) (F0 m pc ls [.int 1]) := by
  intro T hT X
  obtain ⟨fs, hret, hrun, hended, hW, hframe⟩ := X.leave (v := some (.int 1)) (hlocks := hlocks) (fun h => by rw [hr] at h; cases h)
  have hmeth' : T.vm.method? m = some meth := X.method'
  refine ⟨T.setFrames fs, ?_, .returned (some (.int 1)), hrun, hended, rfl, ⟨_, rfl⟩, hW, hframe⟩
  jvm_step X.here [X.here.top, hx, hb, hdg, hmeth', hr, ret, narrow_b1]
  (try refine ⟨rfl, ?_⟩); (try refine ⟨rfl, ?_⟩)
  first | (intro acts; rw [hret _ acts rfl rfl rfl]) | rw [hret _ _ rfl rfl rfl]
  exact Steps.refl _
/-- what holds at the law's entry: the machine, the code, the tables' words (any of lw_tbl by 'hts w (by decide +kernel)'), the script of L ints xs at the cell b, what the Statement gives of the start (any of its parts by flat_of_before) -/
def lw_At (p : Program) (s : State) (m : MethodId) (meth : Method) (c : Code) (b L : Nat) (xs : Nat → Int32) : Prop :=
  p.tables.exec = Jvm.exec ∧ c.code = code ∧ meth.sig.returnType = ret ∧ c.maxLocals = 4 ∧ s.vm.findClass R_law = some m.cls ∧ (∀ w ∈ lw_tbl, w.before #[Value.ref b] s = true) ∧ va_X b L xs s s.heap ∧ b < s.heap.size ∧ meth.locks = false ∧ (Jvm.Cond.and given_1 narrow_1).before #[Value.ref b] s = true
theorem whole_start {p : Program} {e : Env} {s : State} {m : MethodId} {below : List Frame} {meth : Method} {c : Code} (l : Launch) (hflags : l.flags = flags0) {b L : Nat} {xs : Nat → Int32} (hL : L ≤ 3072) (C0 : lw_At p s m meth c b L xs) : W p l e room_1 s m #[Value.ref b] below meth c s.heap [] 0 0 (lw_Z below #[Value.ref b] s) (entryFrame m ([Value.ref b] : List Value).toArray 4) := by
  obtain ⟨hx, hb, hr, hml, hown, hts, hX, hbl, hlocks, hgv⟩ := C0
  obtain ⟨ad, hXs, had⟩ := lx_Xs hts hgv b
  obtain ⟨D, tc, hK⟩ := lx_K hts
  have hC : Cx (mLn meth.name) p s m #[Value.ref b] meth c := ⟨hx, hb, hr, hml, hown, fun w hw => hts w (List.mem_filter.mp hw).1, hlocks, rfl⟩
  · have hR : Rm 40 (218, 13249) room_1 := ⟨by decide, by decide, by decide, by decide⟩
    have hE : Ev D tc ad (gL [], ((fun _ _ => 0, fun _ _ => 0) : Mm)) (L + 1, xs) s (fun q => s.heap.size ≤ q) s.heap [] := ⟨hK, fun k q hq => (by cases hq), ⟨fun i j p q hi => (by cases hi), fun k q hq => (by cases hq)⟩, va_S.rf, fun q h => h, Nat.zero_le _, hXs, Or.inr ⟨by rw [had]; exact hX, by rw [had]; exact hbl, by rw [had]; exact Nat.not_le.mpr hbl⟩⟩
    rw [lg_entry_eq]
    have hl := lv_entry ([Value.ref b]) (n := 4) (Nat.le_of_ble_eq_true rfl)
    have hLr : Lr 4 ad [.ref 3000000, .null, .null, .null] ((lg_sl [Value.ref b] ++ List.replicate (4 - (lg_sl [Value.ref b]).length) Slot.unset).toArray) := by
      refine ⟨hl.1, hl.2.1, fun i v h hv => ?_⟩
      match i, h with
      | 0, h => cases h; show _ = some (Slot.val (Value.ref (ad 3000000))); rw [had]; rfl
      | 1, h => cases h; exact absurd rfl hv
      | 2, h => cases h; exact absurd rfl hv
      | 3, h => cases h; exact absurd rfl hv
    generalize (lg_sl [Value.ref b] ++ List.replicate (4 - (lg_sl [Value.ref b]).length) Slot.unset).toArray = lr at hLr ⊢
    refine law_J meth.name (xs := xs) hL p l e room_1 s m _ below meth c s.heap [] D tc ad (fun q => s.heap.size ≤ q) lr _ hC hR hE hLr ?_
    intro v w' H' locs' ad' lr' pc' cs' hKv _ _ hE' h1 h2 hret
    have hv : v = some (.int 1) := hKv
    subst hv
    refine va_forget (fun q hq => hE'.2.2.2.1.2.2 q hq) ?_
    exact W.widen (Nat.le_trans h1 (by decide)) (Nat.le_trans h2 (by decide)) (lw_ret hx hb hr hlocks hret.1)
