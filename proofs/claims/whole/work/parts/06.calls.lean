/-! CONTRACTS AND CALLS -/
theorem Xs.warm {ad : Nat → Nat} {A B : Nat → Prop} {s U : State} {H : Heap} {locs : List Loc} (hW : s.WarmedH U.vm) (hS : va_S A s.heap H locs) (hU : U.heap = H) (hB : ∀ q, B q → A q) (h : Xs ad A s) : Xs ad B U := by
  obtain ⟨h1, h2, h3, h4, h5, h6, h7⟩ := h
  have hal := hW.alike
  refine ⟨fun q hq => va_Nw.warmM hW (h1 q hq), ?_, fun q hq => vk_R.warm hW (h3 q hq), ?_, va_AO.moved hal h5, ⟨va_AO.moved hal h6.1, lx_AI.moved hal h6.2⟩, ?_⟩
  · rw [hU]
    exact ((vk_S.moved hal h2).kept hS.2.1).narrow hB
  · rw [hU]
    exact ((va_Z.moved hal h4).kept hS.2.1).narrow hB
  · rw [hU]
    exact h7.imp (fun q => ((va_Z.moved hal q).kept hS.2.1).narrow hB) (fun q => ((va_Z.moved hal q).kept hS.2.1).narrow hB)
theorem Xs.blind {ad : Nat → Nat} {A : Nat → Prop} {U : State} {g : JFrame} {mk : MethodId} {a : Array Value} (h : Xs ad A U) : Xs ad A (U.calling g mk a) := by
  obtain ⟨h1, h2, h3, h4, h5, h6, h7⟩ := h
  have hal : U.vm.Alike (U.calling g mk a).vm := Vm.Alike.refl U.vm
  exact ⟨fun q hq => va_Nw.same rfl rfl (h1 q hq), vk_S.moved (U := U.calling g mk a) hal h2, fun q hq => vk_R.same rfl (h3 q hq), va_Z.moved (U := U.calling g mk a) hal h4, va_AO.moved hal h5, ⟨va_AO.moved hal h6.1, lx_AI.moved hal h6.2⟩, h7.imp (fun q => va_Z.moved (U := U.calling g mk a) hal q) (fun q => va_Z.moved (U := U.calling g mk a) hal q)⟩
theorem Xs.ad {ad ad' : Nat → Nat} {A : Nat → Prop} {U : State} {n n' : Nat} (h : AdX ad ad' n n') (hn : n' ≤ 1000000) (hX : Xs ad A U) : Xs ad' A U := by
  obtain ⟨h1, h2, h3, h4, h5, h6, h7⟩ := hX
  refine ⟨h1, ?_, fun q hq => ?_, h4, h5, h6, by rw [h 2000000 (Or.inr (by omega))]; exact h7⟩
  · rw [show (fun i => ad' (1000000 + i)) = fun i => ad (1000000 + i) from funext fun i => h _ (Or.inr (by omega)), show (fun i => ad' (1000010 + i)) = fun i => ad (1000010 + i) from funext fun i => h _ (Or.inr (by omega))]
    exact h2
  · rw [h _ (Or.inr (by omega))]
    exact h3 q hq
theorem Sc.ad {sc : Nat × (Nat → Int32)} {ad ad' : Nat → Nat} {A : Nat → Prop} {U : State} {n n' : Nat} (h : AdX ad ad' n n') (hn : n' ≤ 1000000) (hX : Sc sc ad A U) : Sc sc ad' A U := by
  unfold Sc at hX ⊢
  rw [h _ (Or.inr (by omega))]
  exact hX
def mrm (d : Nat) (lim : Nat × Nat) : Room := { frames := d + 1, cells := lim.1, slots := lim.2, locals := 64 * (d + 1) }
def EvP (D : va_G) (tc : Nat → ClassId) (ad : Nat → Nat) (w : Wd) (sz : Nat) (U : State) : Prop :=
  U.heap.size = sz ∧ va_K D cls7 (tyL tc) U ∧ va_P D cls7 (wsW tc ad w) U.heap ∧ va_D (fun _ => True) (wsW tc ad w) ∧ w.1.2 ≤ 1000000 ∧ Xs ad (va_A (wsW tc ad w) sz) U
def QcJ (D : va_G) (tc : Nat → ClassId) (ad : Nat → Nat) (w : Wd) (sz : Nat) (K : Option Value → Wd → Prop) : Array Value → State → Outcome → State → Prop := fun _ st o t =>
  (∃ (v : Option Value) (w' : Wd) (ad' : Nat → Nat), o = .returned (v.map (trV ad')) ∧ K v w' ∧ AdX ad ad' w.1.2 w'.1.2 ∧ w.1.2 ≤ w'.1.2 ∧ w'.1.2 ≤ 1000000 ∧ va_P D cls7 (wsW tc ad' w') t.heap ∧ va_D (va_A (wsW tc ad w) sz) (wsW tc ad' w')) ∧ va_F (va_A (wsW tc ad w) sz) st t
/-- A METHOD'S CONTRACT: called with these arguments in this world it returns, with an answer and a world of K -/
def C (mi : MI) (d : Nat) (lim : Nat × Nat) (As : List Value) (w : Wd) (K : Option Value → Wd → Prop) : Prop :=
  ∀ (l : Launch) (D : va_G) (tc : Nat → ClassId) (ad : Nat → Nat) (sz : Nat), Met l mi.1 (Cond.code mi.1 mi.2.1 mi.2.2.1 mi.2.2.2 :: lw_g) (mrm d lim) (va_Pc (As.map (trV ad)) (EvP D tc ad w sz)) (QcJ D tc ad w sz K) lim.1 lim.2 (va_A (wsW tc ad w) sz)
def enA (As : List Value) : List Value := As.flatMap (fun v => if v.category = 2 then [v, .null] else [v])
theorem enA_len (ad : Nat → Nat) (As : List Value) : (lg_sl (As.map (trV ad))).length = (enA As).length := by
  induction As with
  | nil => rfl
  | cons v t ih =>
    have e1 : lg_sl ((v :: t).map (trV ad)) = (if (trV ad v).category = 2 then [Slot.val (trV ad v), Slot.second] else [Slot.val (trV ad v)]) ++ lg_sl (t.map (trV ad)) := rfl
    have e2 : enA (v :: t) = (if v.category = 2 then [v, .null] else [v]) ++ enA t := rfl
    rw [e1, e2, List.length_append, List.length_append, ih, tr_cat]
    by_cases h : v.category = 2
    · rw [if_pos h, if_pos h]; rfl
    · rw [if_neg h, if_neg h]; rfl
theorem enA_at (ad : Nat → Nat) (As : List Value) : ∀ (i : Nat) (v : Value), (enA As)[i]? = some v → v ≠ .null → (lg_sl (As.map (trV ad)))[i]? = some (.val (trV ad v)) := by
  induction As with
  | nil => intro i v h; simp [enA] at h
  | cons u t ih =>
    intro i v h hv
    have e1 : lg_sl ((u :: t).map (trV ad)) = (if (trV ad u).category = 2 then [Slot.val (trV ad u), Slot.second] else [Slot.val (trV ad u)]) ++ lg_sl (t.map (trV ad)) := rfl
    have e2 : enA (u :: t) = (if u.category = 2 then [u, .null] else [u]) ++ enA t := rfl
    rw [e1, tr_cat]
    rw [e2] at h
    by_cases hc : u.category = 2
    · rw [if_pos hc] at h ⊢
      match i, h with
      | 0, h => cases h; rfl
      | 1, h => cases h; exact absurd rfl hv
      | i + 2, h => exact ih i v h hv
    · rw [if_neg hc] at h ⊢
      match i, h with
      | 0, h => cases h; rfl
      | i + 1, h => exact ih i v h hv
def enL (nL : Nat) (As : List Value) : List Value := enA As ++ List.replicate (nL - (enA As).length) .null
theorem C_of_J {mi : MI} {d : Nat} {lim : Nat × Nat} {As ls : List Value} {w : Wd} {K : Option Value → Wd → Prop} (hy : plainName mi.1.cls = true) (hlen : (enA As).length ≤ mi.2.2.1) (hls : enL mi.2.2.1 As = ls) (k : J mi d lim (0, fun _ => 0) K (0, 0) 0 ls [] w) : C mi d lim As w K := by
  intro l D tc ad sz
  refine Met.ofW (cc := mi.2.1) (maxL := mi.2.2.1) (ret := mi.2.2.2) hy rfl ?_
  intro p e s m args below meth c s₁ B hml hv
  obtain ⟨rfl, hsz, hK, hP, hD0, htop, hX⟩ := hv
  subst hsz
  have hts := atoms_spec (ws := Cond.code mi.1 mi.2.1 mi.2.2.1 mi.2.2.2 :: lw_g) B.pre
  have hown : s.vm.findClass mi.1.cls = some m.cls := findClass_of_methodNamed B.named
  have hlocks := B.notSynchronized
  have hCx : Cx mi p s m ((As.map (trV ad)).toArray) meth c := ⟨B.exec, B.bytes, B.returns, hml, hown, fun w hw => hts w (List.mem_cons_of_mem _ hw), hlocks, (name_of_methodNamed B.named B.method).1⟩
  have hRm : Rm d lim (mrm d lim) := ⟨Nat.le_refl _, Nat.le_refl _, Nat.le_refl _, Nat.le_refl _⟩
  have hEv : Ev D tc ad w (0, fun _ => 0) s (va_A (wsW tc ad w) s.heap.size) s.heap [] := ⟨hK, hP, hD0.self, va_S.rf, fun q h => Or.inr h, htop, hX, Or.inl rfl⟩
  have hl := lv_entry (As.map (trV ad)) (n := mi.2.2.1) (by rw [enA_len]; exact hlen)
  rw [lg_entry_eq]
  have hLr : Lr mi.2.2.1 ad ls ((lg_sl (As.map (trV ad)) ++ List.replicate (mi.2.2.1 - (lg_sl (As.map (trV ad))).length) Slot.unset).toArray) := by
    refine ⟨hl.1, hl.2.1, fun i v h hv => ?_⟩
    rw [← hls] at h
    unfold enL at h
    by_cases hi : i < (enA As).length
    · rw [List.getElem?_append_left hi] at h
      rw [List.getElem?_toArray, List.getElem?_append_left (by rw [enA_len]; exact hi)]
      exact enA_at ad As i v h hv
    · rw [List.getElem?_append_right (by omega)] at h
      have := (List.getElem?_eq_some_iff.mp h).2
      rw [List.getElem_replicate] at this
      exact absurd this.symm hv
  generalize (lg_sl (As.map (trV ad)) ++ List.replicate (mi.2.2.1 - (lg_sl (As.map (trV ad))).length) Slot.unset).toArray = lr at hLr ⊢
  refine k p l e (mrm d lim) s m _ below meth c s.heap [] D tc ad (va_A (wsW tc ad w) s.heap.size) lr _ hCx hRm hEv hLr ?_
  intro v w' H' locs' ad' lr' pc' cs' hKv had htop' hE' h1 h2 hret
  refine W.widen h1 h2 ?_
  have hq : ∀ t : State, t.heap = H' → s.WarmedH t.vm → QcJ D tc ad w s.heap.size K ((As.map (trV ad)).toArray) s (.returned (v.map (trV ad'))) t := fun t ht _ =>
    ⟨⟨v, w', ad', rfl, hKv, had, htop', hE'.2.2.2.2.2.1, by rw [ht]; exact hE'.2.1, hE'.2.2.1⟩, hE'.2.2.2.1.F ht⟩
  have hf : ∀ q ∈ locs', va_A (wsW tc ad w) s.heap.size q.base := hE'.2.2.2.1.2.2
  match v, hret, hq with
  | none, hret, hq => exact W.vret hCx.1 hCx.2.1 (hCx.2.2.1.trans hret.2) hq hf hret.1
  | some (.int x), hret, hq =>
    obtain ⟨r1, t, r2, r3⟩ := hret
    exact W.zret hCx.1 hCx.2.1 (hCx.2.2.1.trans r2) r3 hq hf r1
  | some (.long x), hret, hq => exact W.lret hCx.1 hCx.2.1 (hCx.2.2.1.trans hret.2) hq hf hret.1
theorem lw_gg {ws : List Cond} (h : ∀ w ∈ ws, w ∈ lw_g) : GoodIn lw_g ws := fun w hw => ⟨h w hw, good_of_word (List.mem_filter.mp (h w hw)).2⟩
theorem callJ {p : Program} {l : Launch} {e : Env} {R : Room} {s : State} {m : MethodId} {args : Array Value} {below : List Frame} {meth : Method} {c : Code} {H : Heap} {locs : List Loc} {cells slots mc ms pc : Nat} {Q : State → Prop} {lr : Array Slot} {st0 rest : List Value} {Qa : State → Outcome → State → Prop} {free : Addr → Prop}
    (hr : va_Run p l e R s m args below meth c H locs cells slots mc ms (F0 m pc lr st0) rest Qa free)
    (kk : ∀ (v : Option Value) (st₀ t : State) (H1 : Heap) (L : List Loc), st₀.heap = H → t.heap = H1 → Qa st₀ (.returned v) t → (∀ q ∈ L, free q.base) → W p l e R s m args below meth c H1 (locs ++ L) (cells + mc) (slots + ms) Q (F0 m (pc + 3) lr (v.toList ++ rest))) : W p l e R s m args below meth c H locs cells slots Q (F0 m pc lr st0) := by
  intro T hT X
  obtain ⟨v, st₀, t, T', L, h0, X', hL, e1, e2, hq, st⟩ := hr T hT X
  obtain ⟨t2, a1, b1⟩ := kk v st₀ t T'.heap L h0 e1.symm hq hL T' rfl X'
  exact ⟨t2, st t2 a1, b1⟩
/-- behind a call -/
theorem Ev.back {D : va_G} {tc : Nat → ClassId} {ad ad' : Nat → Nat} {w w' : Wd} {sc : Nat × (Nat → Int32)} {s st₀ t : State} {A : Nat → Prop} {H H1 : Heap} {locs L : List Loc} (hE : Ev D tc ad w sc s A H locs) (h0 : st₀.heap = H) (h1 : t.heap = H1) (had : AdX ad ad' w.1.2 w'.1.2) (ht : w'.1.2 ≤ 1000000)
    (hP : va_P D cls7 (wsW tc ad' w') t.heap) (hD : va_D (va_A (wsW tc ad w) H.size) (wsW tc ad' w')) (hF : va_F (va_A (wsW tc ad w) H.size) st₀ t) (hL : ∀ q ∈ L, va_A (wsW tc ad w) H.size q.base) : Ev D tc ad' w' sc s A H1 (locs ++ L) := by
  obtain ⟨e1, e2, e3, e4, e5, e6, e7, e8⟩ := hE
  have hsub : ∀ q, va_A (wsW tc ad w) H.size q → A q := fun q h => by
    rcases h with ⟨k, x, h⟩ | h
    · exact e3.2 k _ h
    · exact e5 q (Nat.le_trans e4.1 h)
  rw [h1] at hP
  obtain ⟨f1, f2⟩ := hF
  rw [h0, h1] at f1 f2
  refine ⟨e1, hP, hD.weaken (fun k q _ h => hsub q.1 h), ⟨Nat.le_trans e4.1 f1, fun q g1 g2 => ?_, fun q hq => ?_⟩, e5, ht, e7.ad had ht, e8.ad had ht⟩
  · rw [f2 q (Nat.lt_of_lt_of_le g1 e4.1) (fun z => g2 (hsub q z))]
    exact e4.2.1 q g1 g2
  · rcases List.mem_append.mp hq with h | h
    · exact e4.2.2 q h
    · exact hsub _ (hL q h)
/-- before a call -/
theorem EvP.of {D : va_G} {tc : Nat → ClassId} {ad : Nat → Nat} {w : Wd} {sc : Nat × (Nat → Int32)} {s U : State} {A : Nat → Prop} {H : Heap} {locs : List Loc} (hE : Ev D tc ad w sc s A H locs) (hU : U.heap = H) (hW : s.WarmedH U.vm) : EvP D tc ad w H.size U := by
  obtain ⟨e1, e2, e3, e4, e5, e6, e7, e8⟩ := hE
  have hsub : ∀ q, va_A (wsW tc ad w) H.size q → A q := fun q h => by
    rcases h with ⟨k, x, h⟩ | h
    · exact e3.2 k _ h
    · exact e5 q (Nat.le_trans e4.1 h)
  exact ⟨by rw [hU], va_K.moved hW.alike e1, by rw [hU]; exact e2, e3.weaken (fun _ _ _ _ => trivial), e6, e7.warm hW e4 hU hsub⟩
theorem EvP.blind {D : va_G} {tc : Nat → ClassId} {ad : Nat → Nat} {w : Wd} {sz : Nat} {av : List Value} : FrameBlind (va_Pc av (EvP D tc ad w sz)) := fun a U g mk q => by
  obtain ⟨q0, q1, q2, q3, q4, q5, q6⟩ := q
  exact ⟨q0, q1, va_K.moved (u := U) (U := U.calling g mk a) (Vm.Alike.refl U.vm) q2, q3, q4, q5, q6.blind⟩
def CD (y : MethodName) (n : Nat) : Prop := y.cls ≠ "java/lang/invoke/MethodHandle" ∧ y.cls ≠ "java/lang/invoke/VarHandle" ∧ (parseMethodDescriptor y.desc).map (fun d => d.parameters.length) = some n
/-- a method that is called: its words -/
def CM (mj : MI) (n : Nat) : Prop := CD mj.1 n ∧ mj.2.2.1 ≤ 40 ∧ Cond.code mj.1 mj.2.1 mj.2.2.1 mj.2.2.2 ∈ lw_g ∧ Cond.initialized mj.1.cls ∈ lw_g
def CV (own : String) (idx : Nat) (mj : MI) (n ci : Nat) : Prop := ci < 7 ∧ mj.1.cls = clR ci ∧ Cond.methodLink own idx mj.1 ∈ lw_g ∧ Cond.instanceMethod mj.1 ∈ lw_g ∧ Cond.selects (clR ci) mj.1 mj.1 ∈ lw_g ∧ CM mj n
def CS (own : String) (idx : Nat) (mj : MI) (n : Nat) : Prop := Cond.methodLink own idx mj.1 ∈ lw_g ∧ Cond.static mj.1 ∈ lw_g ∧ CM mj n
def CSN (own : String) (idx : Nat) (mj : MI) (n : Nat) (host : String) : Prop := (own, idx, mj.1, host) ∈ nestL ∧ Cond.static mj.1 ∈ lw_g ∧ CM mj n
def CI (own : String) (idx : Nat) (mj : MI) (n : Nat) : Prop := Cond.methodLink own idx mj.1 ∈ lw_g ∧ Cond.instanceMethod mj.1 ∈ lw_g ∧ mj.1.name = "<init>" ∧ mj.2.2.2 = none ∧ CM mj n
def CIN (own : String) (idx : Nat) (mj : MI) (n : Nat) (host : String) : Prop := (own, idx, mj.1, host) ∈ nestL ∧ Cond.instanceMethod mj.1 ∈ lw_g ∧ mj.1.name = "<init>" ∧ mj.2.2.2 = none ∧ CM mj n
theorem CM.good {mj : MI} {n : Nat} (h : CM mj n) : GoodIn lw_g (Cond.code mj.1 mj.2.1 mj.2.2.1 mj.2.2.2 :: lw_g) := lw_gg (fun w hw => by
  rcases List.mem_cons.mp hw with rfl | hw
  · exact h.2.2.1
  · exact hw)
section JC
variable {mi mj : MI} {d : Nat} {lim lim' : Nat × Nat} {sc : Nat × (Nat → Int32)} {K K1 : Option Value → Wd → Prop} {cs : Nat × Nat} {pc nx idx n : Nat} {ls st As : List Value} {w : Wd}
theorem Rm.call {R : Room} (hR : Rm (d + 1) lim R) (h40 : mj.2.2.1 ≤ 40) : (mrm d lim').frames + 1 ≤ R.frames ∧ 8 + (mj.2.2.1 + 11) + (mrm d lim').locals ≤ R.locals := by
  obtain ⟨h1, h2, -⟩ := hR
  refine ⟨h1, ?_⟩
  show 8 + (mj.2.2.1 + 11) + 64 * (d + 1) ≤ R.locals
  omega
theorem tr_cats (ad : Nat → Nat) (st : List Value) : ((st.map (trV ad)).map fun v => v.category).sum = (st.map fun v => v.category).sum := by
  rw [List.map_map]
  congr 1
  apply List.map_congr_left
  intro v _
  exact tr_cat ad v
/-- what is kept over a call: nothing was made, or all that is named was there before -/
def Kp (K1 : Option Value → Wd → Prop) (w : Wd) (ls st : List Value) : Prop := (∀ v w', K1 v w' → w'.1.2 = w.1.2) ∨ (∀ i, Value.ref i ∈ ls ++ st → i < w.1.2 ∨ 1000000 ≤ i)
theorem Kp.eq {w w' : Wd} {v : Option Value} {ad ad' : Nat → Nat} (h : Kp K1 w ls st) (hK : K1 v w') (had : AdX ad ad' w.1.2 w'.1.2) (ht : w'.1.2 ≤ 1000000) : ∀ u, u ∈ ls ++ st → trV ad' u = trV ad u := by
  intro u hu
  rcases h with h | h
  · have he : ad' = ad := funext fun i => had i (by rw [h v w' hK]; omega)
    rw [he]
  · cases u with
    | ref i => 
      show Value.ref (ad' i) = Value.ref (ad i)
      rw [had i ((h i hu).imp id (fun q => Nat.le_trans ht q))]
    | _ => rfl
theorem J_after {p : Program} {l : Launch} {e : Env} {R : Room} {s : State} {m : MethodId} {args : Array Value} {below : List Frame} {meth : Method} {c : Code} {H : Heap} {locs : List Loc} {D : va_G} {tc : Nat → ClassId} {ad : Nat → Nat} {A : Nat → Prop} {lr : Array Slot} {Q : State → Prop} {d1 : Nat}
    (hC : Cx mi p s m args meth c) (hR : Rm d1 lim R) (hE : Ev D tc ad w sc s A H locs) (hL : Lr mi.2.2.1 ad ls lr) (hKp : Kp K1 w ls st)
    (hret : ∀ (v : Option Value) (w' : Wd) (H' : Heap) (locs' : List Loc) (ad' : Nat → Nat) (lr' : Array Slot) (pc' : Nat) (cs' : Nat × Nat), K v w' → AdX ad ad' w.1.2 w'.1.2 → w.1.2 ≤ w'.1.2 → Ev D tc ad' w' sc s A H' locs' → cs'.1 ≤ lim.1 → cs'.2 ≤ lim.2 → RetI mi pc' v →
      W p l e R s m args below meth c H' locs' cs'.1 cs'.2 Q (F0 m pc' lr' (v.toList.map (trV ad'))))
    (kk : ∀ v w', K1 v w' → J mi d1 lim sc K (cs.1 + lim'.1, cs.2 + lim'.2) (pc + 3) ls (v.toList ++ st) w') (v : Option Value) (st₀ t : State) (H1 : Heap) (L : List Loc) (h0 : st₀.heap = H) (ht : t.heap = H1) (hq : QcJ D tc ad w H.size K1 args st₀ (.returned v) t) (hL1 : ∀ q ∈ L, va_A (wsW tc ad w) H.size q.base) :
    W p l e R s m args below meth c H1 (locs ++ L) (cs.1 + lim'.1) (cs.2 + lim'.2) Q (F0 m (pc + 3) lr (v.toList ++ st.map (trV ad))) := by
  obtain ⟨⟨v', w', ad', e1, hK1, had, hle, htop, hP, hD⟩, hF⟩ := hq
  cases e1
  have hE' := hE.back h0 ht had htop hP hD hF hL1
  have hst : st.map (trV ad) = st.map (trV ad') := List.map_congr_left (fun u hu => (hKp.eq hK1 had htop u (List.mem_append.mpr (Or.inr hu))).symm)
  have hvs : (v'.map (trV ad')).toList ++ st.map (trV ad) = (v'.toList ++ st).map (trV ad') := by
    rw [hst, List.map_append]
    cases v' <;> rfl
  rw [hvs]
  refine kk v' w' hK1 p l e R s m args below meth c H1 (locs ++ L) D tc ad' A lr Q hC hR hE' ⟨hL.1, hL.2.1, fun i u hi hu => ?_⟩ ?_
  · rw [hKp.eq hK1 had htop u (List.mem_append.mpr (Or.inl (List.mem_of_getElem? hi)))]
    exact hL.2.2 i u hi hu
  · exact fun v2 w2 H2 locs2 ad2 lr2 pc2 cs2 g1 g2 g3 => hret v2 w2 H2 locs2 ad2 lr2 pc2 cs2 g1 (fun i hi => (g2 i (hi.imp (fun q => Nat.lt_of_lt_of_le q hle) id)).trans (had i (hi.imp id (fun q => Nat.le_trans g3 q)))) (Nat.le_trans hle g3)
theorem J_callV {a ci : Nat} (h : Dc mi pc (.invokevirtual idx) 3 nx) (hl : CV mi.1.cls idx mj n ci) (ho : IsO w.1 a ci) (hn : As.length = n) (hM : C mj d lim' (.ref a :: As) w K1) (h1 : cs.1 + lim'.1 ≤ lim.1) (h2 : cs.2 + lim'.2 ≤ lim.2) (hst : (st.map fun v => v.category).sum ≤ 8) (hKp : Kp K1 w ls st)
    (kk : ∀ v w', K1 v w' → J mi (d + 1) lim sc K (cs.1 + lim'.1, cs.2 + lim'.2) nx ls (v.toList ++ st) w') : J mi (d + 1) lim sc K cs pc ls (As.reverse ++ .ref a :: st) w := by
  obtain ⟨hd, rfl⟩ := h
  obtain ⟨hc7, hcl, hl1, hl2, hl3, hcm⟩ := hl
  intro p l e R s m args below meth c H locs D tc ad A lr Q hC hR hE hL hret
  have hts := hC.2.2.2.2.2.1
  refine callJ (va_runV (As := As.map (trV ad)) (rest := st.map (trV ad)) (b := ad a) (C := clR ci) (Ts := lw_g) ⟨hC.1, hC.2.1, hC.2.2.2.1, hC.2.2.2.2.1, hts⟩ (hM l D tc ad H.size) ⟨callB_of n hts hcm.good rfl rfl rfl (hts _ hcm.2.2.2) (hts _ hl1) hcm.1 (hR.call hcm.2.1), hts _ hl2, hts _ hl3⟩ ⟨EvP.blind, va_recv hE.1 hE.2.1 (q0 := a) (cls7_at hc7) (by rw [wsW_at ho.1, ob_o ho hc7]), fun U hU hW => ⟨rfl, EvP.of hE hU hW⟩⟩ rfl (by rw [List.length_map]; exact hn) hL.1 ?_ (lv_room (by rw [tr_cats]; exact hst)) hd ⟨Nat.le_trans h1 hR.2.2.1, Nat.le_trans h2 hR.2.2.2⟩) (J_after hC hR hE hL hKp hret kk)
  show (As.reverse ++ Value.ref a :: st).map (trV ad) = _
  rw [List.map_append, List.map_reverse]
  rfl
theorem J_callS (h : Dc mi pc (.invokestatic idx) 3 nx) (hl : CS mi.1.cls idx mj n) (hn : As.length = n) (hM : C mj d lim' As w K1) (h1 : cs.1 + lim'.1 ≤ lim.1) (h2 : cs.2 + lim'.2 ≤ lim.2) (hst : (st.map fun v => v.category).sum ≤ 8) (hKp : Kp K1 w ls st)
    (kk : ∀ v w', K1 v w' → J mi (d + 1) lim sc K (cs.1 + lim'.1, cs.2 + lim'.2) nx ls (v.toList ++ st) w') : J mi (d + 1) lim sc K cs pc ls (As.reverse ++ st) w := by
  obtain ⟨hd, rfl⟩ := h
  obtain ⟨hl1, hl2, hcm⟩ := hl
  intro p l e R s m args below meth c H locs D tc ad A lr Q hC hR hE hL hret
  have hts := hC.2.2.2.2.2.1
  refine callJ (va_runS (As := As.map (trV ad)) (rest := st.map (trV ad)) (Ts := lw_g) ⟨hC.1, hC.2.1, hC.2.2.2.1, hC.2.2.2.2.1, hts⟩ (hM l D tc ad H.size) ⟨callB_of n hts hcm.good rfl rfl rfl (hts _ hcm.2.2.2) (hts _ hl1) hcm.1 (hR.call hcm.2.1), hts _ hl2⟩ ⟨EvP.blind, fun U hU hW => ⟨rfl, EvP.of hE hU hW⟩⟩ rfl (by rw [List.length_map]; exact hn) hL.1 ?_ (lv_room (by rw [tr_cats]; exact hst)) hd ⟨Nat.le_trans h1 hR.2.2.1, Nat.le_trans h2 hR.2.2.2⟩) (J_after hC hR hE hL hKp hret kk)
  show (As.reverse ++ st).map (trV ad) = _
  rw [List.map_append, List.map_reverse]
theorem J_callSN {host : String} (h : Dc mi pc (.invokestatic idx) 3 nx) (hl : CSN mi.1.cls idx mj n host) (hn : As.length = n) (hM : C mj d lim' As w K1) (h1 : cs.1 + lim'.1 ≤ lim.1) (h2 : cs.2 + lim'.2 ≤ lim.2) (hst : (st.map fun v => v.category).sum ≤ 8) (hKp : Kp K1 w ls st)
    (kk : ∀ v w', K1 v w' → J mi (d + 1) lim sc K (cs.1 + lim'.1, cs.2 + lim'.2) nx ls (v.toList ++ st) w') : J mi (d + 1) lim sc K cs pc ls (As.reverse ++ st) w := by
  obtain ⟨hd, rfl⟩ := h
  obtain ⟨hl1, hl2, hcm⟩ := hl
  intro p l e R s m args below meth c H locs D tc ad A lr Q hC hR hE hL hret
  have hts := hC.2.2.2.2.2.1
  refine callJ (va_runSN (host := host) (As := As.map (trV ad)) (rest := st.map (trV ad)) (Ts := lw_g) ⟨hC.1, hC.2.1, hC.2.2.2.1, hC.2.2.2.2.1, hts⟩ (hM l D tc ad H.size) ⟨va_cnB n hts hcm.good rfl rfl rfl (hE.2.2.2.2.2.2.1.1 _ hl1) (hts _ hcm.2.2.2) hcm.1 (hR.call hcm.2.1), hts _ hl2, trivial⟩ ⟨EvP.blind, fun U hU hW => ⟨rfl, EvP.of hE hU hW⟩⟩ rfl (by rw [List.length_map]; exact hn) hL.1 ?_ (lv_room (by rw [tr_cats]; exact hst)) hd ⟨Nat.le_trans h1 hR.2.2.1, Nat.le_trans h2 hR.2.2.2⟩) (J_after hC hR hE hL hKp hret kk)
  show (As.reverse ++ st).map (trV ad) = _
  rw [List.map_append, List.map_reverse]
theorem J_callI {a : Nat} (h : Dc mi pc (.invokespecial idx) 3 nx) (hl : CI mi.1.cls idx mj n) (hn : As.length = n) (hM : C mj d lim' (.ref a :: As) w K1) (h1 : cs.1 + lim'.1 ≤ lim.1) (h2 : cs.2 + lim'.2 ≤ lim.2) (hst : (st.map fun v => v.category).sum ≤ 8) (hKp : Kp K1 w ls st)
    (kk : ∀ v w', K1 v w' → J mi (d + 1) lim sc K (cs.1 + lim'.1, cs.2 + lim'.2) nx ls (v.toList ++ st) w') : J mi (d + 1) lim sc K cs pc ls (As.reverse ++ .ref a :: st) w := by
  obtain ⟨hd, rfl⟩ := h
  obtain ⟨hl1, hl2, hl3, hl4, hcm⟩ := hl
  intro p l e R s m args below meth c H locs D tc ad A lr Q hC hR hE hL hret
  have hts := hC.2.2.2.2.2.1
  have hg := hcm.good
  have hm := hM l D tc ad H.size
  rw [hl4] at hg hm
  refine callJ (va_runI (As := As.map (trV ad)) (rest := st.map (trV ad)) (b := ad a) (Ts := lw_g) ⟨hC.1, hC.2.1, hC.2.2.2.1, hC.2.2.2.2.1, hts⟩ hm ⟨callB_of n hts hg rfl rfl rfl (hts _ hcm.2.2.2) (hts _ hl1) hcm.1 (hR.call hcm.2.1), hl3, hts _ hl2⟩ ⟨EvP.blind, fun U hU hW => ⟨rfl, EvP.of hE hU hW⟩⟩ rfl (by rw [List.length_map]; exact hn) hL.1 ?_ (lv_room (by rw [tr_cats]; exact hst)) hd ⟨Nat.le_trans h1 hR.2.2.1, Nat.le_trans h2 hR.2.2.2⟩) (J_after hC hR hE hL hKp hret kk)
  show (As.reverse ++ Value.ref a :: st).map (trV ad) = _
  rw [List.map_append, List.map_reverse]
  rfl
theorem J_callIN {a : Nat} {host : String} (h : Dc mi pc (.invokespecial idx) 3 nx) (hl : CIN mi.1.cls idx mj n host) (hn : As.length = n) (hM : C mj d lim' (.ref a :: As) w K1) (h1 : cs.1 + lim'.1 ≤ lim.1) (h2 : cs.2 + lim'.2 ≤ lim.2) (hst : (st.map fun v => v.category).sum ≤ 8) (hKp : Kp K1 w ls st)
    (kk : ∀ v w', K1 v w' → J mi (d + 1) lim sc K (cs.1 + lim'.1, cs.2 + lim'.2) nx ls (v.toList ++ st) w') : J mi (d + 1) lim sc K cs pc ls (As.reverse ++ .ref a :: st) w := by
  obtain ⟨hd, rfl⟩ := h
  obtain ⟨hl1, hl2, hl3, hl4, hcm⟩ := hl
  intro p l e R s m args below meth c H locs D tc ad A lr Q hC hR hE hL hret
  have hts := hC.2.2.2.2.2.1
  have hg := hcm.good
  have hm := hM l D tc ad H.size
  rw [hl4] at hg hm
  refine callJ (va_runIN (host := host) (As := As.map (trV ad)) (rest := st.map (trV ad)) (b := ad a) (Ts := lw_g) ⟨hC.1, hC.2.1, hC.2.2.2.1, hC.2.2.2.2.1, hts⟩ hm ⟨va_cnB n hts hg rfl rfl rfl (hE.2.2.2.2.2.2.1.1 _ hl1) (hts _ hcm.2.2.2) hcm.1 (hR.call hcm.2.1), hl3, hts _ hl2⟩ ⟨EvP.blind, fun U hU hW => ⟨rfl, EvP.of hE hU hW⟩⟩ rfl (by rw [List.length_map]; exact hn) hL.1 ?_ (lv_room (by rw [tr_cats]; exact hst)) hd ⟨Nat.le_trans h1 hR.2.2.1, Nat.le_trans h2 hR.2.2.2⟩) (J_after hC hR hE hL hKp hret kk)
  show (As.reverse ++ Value.ref a :: st).map (trV ad) = _
  rw [List.map_append, List.map_reverse]
  rfl
end JC
/-! METHODS THAT MAKE NOTHING: whole numbers, longs, nothing answered -/
abbrev s0 : Nat × (Nat → Int32) := (0, fun _ => 0)
def Ki (G : Gm) (K : Int32 → Mm → Prop) : Option Value → Wd → Prop := fun v w' => ∃ (r : Int32) (μ' : Mm), v = some (.int r) ∧ w' = (G, μ') ∧ K r μ'
def Kl (G : Gm) (K : Int64 → Mm → Prop) : Option Value → Wd → Prop := fun v w' => ∃ (r : Int64) (μ' : Mm), v = some (.long r) ∧ w' = (G, μ') ∧ K r μ'
def Kv (G : Gm) (K : Mm → Prop) : Option Value → Wd → Prop := fun v w' => ∃ μ' : Mm, v = none ∧ w' = (G, μ') ∧ K μ'
def Si (mi : MI) (d : Nat) (As : List Value) (G : Gm) (μ : Mm) (K : Int32 → Mm → Prop) : Prop := C mi d (0, 0) As (G, μ) (Ki G K)
def Sl (mi : MI) (d : Nat) (As : List Value) (G : Gm) (μ : Mm) (K : Int64 → Mm → Prop) : Prop := C mi d (0, 0) As (G, μ) (Kl G K)
def Sv (mi : MI) (d : Nat) (As : List Value) (G : Gm) (μ : Mm) (K : Mm → Prop) : Prop := C mi d (0, 0) As (G, μ) (Kv G K)
theorem Ki.kp {G : Gm} {K : Int32 → Mm → Prop} {μ : Mm} {ls st : List Value} : Kp (Ki G K) (G, μ) ls st := Or.inl (fun v w' h => by obtain ⟨r, μ', -, rfl, -⟩ := h; rfl)
theorem Kl.kp {G : Gm} {K : Int64 → Mm → Prop} {μ : Mm} {ls st : List Value} : Kp (Kl G K) (G, μ) ls st := Or.inl (fun v w' h => by obtain ⟨r, μ', -, rfl, -⟩ := h; rfl)
theorem Kv.kp {G : Gm} {K : Mm → Prop} {μ : Mm} {ls st : List Value} : Kp (Kv G K) (G, μ) ls st := Or.inl (fun v w' h => by obtain ⟨μ', -, rfl, -⟩ := h; rfl)
section JS
variable {mi mj : MI} {d : Nat} {lim : Nat × Nat} {sc : Nat × (Nat → Int32)} {K : Option Value → Wd → Prop} {cs : Nat × Nat} {pc nx idx n : Nat} {ls st As : List Value} {G : Gm} {μ : Mm}
theorem Si_of {K : Int32 → Mm → Prop} (hy : plainName mi.1.cls = true) (hlen : (enA As).length ≤ mi.2.2.1) (hls : enL mi.2.2.1 As = ls) (k : J mi d (0, 0) s0 (Ki G K) (0, 0) 0 ls [] (G, μ)) : Si mi d As G μ K := C_of_J hy hlen hls k
theorem Sl_of {K : Int64 → Mm → Prop} (hy : plainName mi.1.cls = true) (hlen : (enA As).length ≤ mi.2.2.1) (hls : enL mi.2.2.1 As = ls) (k : J mi d (0, 0) s0 (Kl G K) (0, 0) 0 ls [] (G, μ)) : Sl mi d As G μ K := C_of_J hy hlen hls k
theorem Sv_of {K : Mm → Prop} (hy : plainName mi.1.cls = true) (hlen : (enA As).length ≤ mi.2.2.1) (hls : enL mi.2.2.1 As = ls) (k : J mi d (0, 0) s0 (Kv G K) (0, 0) 0 ls [] (G, μ)) : Sv mi d As G μ K := C_of_J hy hlen hls k
def Ri (mi : MI) (pc : Nat) (t : FieldType) : Prop := decode mi.2.1 pc = .ok (.ireturn, 1) ∧ mi.2.2.2 = some t
theorem Ji_ret {K : Int32 → Mm → Prop} {x : Int32} (h : Ri mi pc .int) (k : K x μ) : J mi d (0, 0) sc (Ki G K) (0, 0) pc ls [.int x] (G, μ) := J_iret h.1 h.2 rfl (Nat.le_refl _) (Nat.le_refl _) ⟨x, μ, rfl, rfl, k⟩
theorem Jz_ret {K : Int32 → Mm → Prop} {x : Int32} (h : Ri mi pc .boolean) (hx : x = 0 ∨ x = 1) (k : K x μ) : J mi d (0, 0) sc (Ki G K) (0, 0) pc ls [.int x] (G, μ) := J_iret h.1 h.2 (by rcases hx with rfl | rfl <;> rfl) (Nat.le_refl _) (Nat.le_refl _) ⟨x, μ, rfl, rfl, k⟩
theorem Jl_ret {K : Int64 → Mm → Prop} {x : Int64} (h : decode mi.2.1 pc = .ok (.lreturn, 1) ∧ mi.2.2.2 = some .long) (k : K x μ) : J mi d (0, 0) sc (Kl G K) (0, 0) pc ls [.long x] (G, μ) := J_lret h.1 h.2 (Nat.le_refl _) (Nat.le_refl _) ⟨x, μ, rfl, rfl, k⟩
theorem Jv_ret {K : Mm → Prop} (h : decode mi.2.1 pc = .ok (.return_, 1) ∧ mi.2.2.2 = none) (k : K μ) : J mi d (0, 0) sc (Kv G K) (0, 0) pc ls [] (G, μ) := J_vret h.1 h.2 (Nat.le_refl _) (Nat.le_refl _) ⟨μ, rfl, rfl, k⟩
end JS
