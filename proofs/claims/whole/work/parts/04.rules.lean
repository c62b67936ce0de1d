section JR
variable {mi : MI} {d : Nat} {lim : Nat × Nat} {sc : Nat × (Nat → Int32)} {K : Option Value → Wd → Prop} {cs : Nat × Nat} {pc nx : Nat} {ls st : List Value} {w : Wd}
theorem J_iadd {x y : Int32} (h : Dc mi pc .iadd 1 nx) (k : J mi d lim sc K cs nx ls (.int (x + y) :: st) w) : J mi d lim sc K cs pc ls (.int y :: .int x :: st) w := by
  obtain ⟨hd, rfl⟩ := h
  intro p l e R s m args below meth c H locs D tc ad A lr Q hC hR hE hL hret
  exact lv_iadd hC.1 hC.2.1 hd (k p l e R s m args below meth c H locs D tc ad A lr Q hC hR hE hL hret)
theorem J_isub {x y : Int32} (h : Dc mi pc .isub 1 nx) (k : J mi d lim sc K cs nx ls (.int (x - y) :: st) w) : J mi d lim sc K cs pc ls (.int y :: .int x :: st) w := by
  obtain ⟨hd, rfl⟩ := h
  intro p l e R s m args below meth c H locs D tc ad A lr Q hC hR hE hL hret
  exact lv_isub hC.1 hC.2.1 hd (k p l e R s m args below meth c H locs D tc ad A lr Q hC hR hE hL hret)
theorem J_imul {x y : Int32} (h : Dc mi pc .imul 1 nx) (k : J mi d lim sc K cs nx ls (.int (x * y) :: st) w) : J mi d lim sc K cs pc ls (.int y :: .int x :: st) w := by
  obtain ⟨hd, rfl⟩ := h
  intro p l e R s m args below meth c H locs D tc ad A lr Q hC hR hE hL hret
  exact lv_imul hC.1 hC.2.1 hd (k p l e R s m args below meth c H locs D tc ad A lr Q hC hR hE hL hret)
theorem J_iand {x y : Int32} (h : Dc mi pc .iand 1 nx) (k : J mi d lim sc K cs nx ls (.int (x &&& y) :: st) w) : J mi d lim sc K cs pc ls (.int y :: .int x :: st) w := by
  obtain ⟨hd, rfl⟩ := h
  intro p l e R s m args below meth c H locs D tc ad A lr Q hC hR hE hL hret
  exact lv_iand hC.1 hC.2.1 hd (k p l e R s m args below meth c H locs D tc ad A lr Q hC hR hE hL hret)
theorem J_ior {x y : Int32} (h : Dc mi pc .ior 1 nx) (k : J mi d lim sc K cs nx ls (.int (x ||| y) :: st) w) : J mi d lim sc K cs pc ls (.int y :: .int x :: st) w := by
  obtain ⟨hd, rfl⟩ := h
  intro p l e R s m args below meth c H locs D tc ad A lr Q hC hR hE hL hret
  exact lv_ior hC.1 hC.2.1 hd (k p l e R s m args below meth c H locs D tc ad A lr Q hC hR hE hL hret)
theorem J_ishl {x y : Int32} (h : Dc mi pc .ishl 1 nx) (k : J mi d lim sc K cs nx ls (.int (x <<< (y &&& 31)) :: st) w) : J mi d lim sc K cs pc ls (.int y :: .int x :: st) w := by
  obtain ⟨hd, rfl⟩ := h
  intro p l e R s m args below meth c H locs D tc ad A lr Q hC hR hE hL hret
  exact lv_ishl hC.1 hC.2.1 hd (k p l e R s m args below meth c H locs D tc ad A lr Q hC hR hE hL hret)
theorem J_ishr {x y : Int32} (h : Dc mi pc .ishr 1 nx) (k : J mi d lim sc K cs nx ls (.int (x >>> (y &&& 31)) :: st) w) : J mi d lim sc K cs pc ls (.int y :: .int x :: st) w := by
  obtain ⟨hd, rfl⟩ := h
  intro p l e R s m args below meth c H locs D tc ad A lr Q hC hR hE hL hret
  exact lv_ishr hC.1 hC.2.1 hd (k p l e R s m args below meth c H locs D tc ad A lr Q hC hR hE hL hret)
theorem J_iushr {x y : Int32} (h : Dc mi pc .iushr 1 nx) (k : J mi d lim sc K cs nx ls (.int ((x.toUInt32 >>> (y.toUInt32 &&& Int32.toUInt32 31)).toInt32) :: st) w) : J mi d lim sc K cs pc ls (.int y :: .int x :: st) w := by
  obtain ⟨hd, rfl⟩ := h
  intro p l e R s m args below meth c H locs D tc ad A lr Q hC hR hE hL hret
  exact lv_iushr hC.1 hC.2.1 hd rfl (k p l e R s m args below meth c H locs D tc ad A lr Q hC hR hE hL hret)
theorem J_idiv {x y : Int32} (h : Dc mi pc .idiv 1 nx) (hne : ¬ y = 0) (k : J mi d lim sc K cs nx ls (.int (x / y) :: st) w) : J mi d lim sc K cs pc ls (.int y :: .int x :: st) w := by
  obtain ⟨hd, rfl⟩ := h
  intro p l e R s m args below meth c H locs D tc ad A lr Q hC hR hE hL hret
  exact lv_idiv hC.1 hC.2.1 hd hne (k p l e R s m args below meth c H locs D tc ad A lr Q hC hR hE hL hret)
theorem J_irem {x y : Int32} (h : Dc mi pc .irem 1 nx) (hne : ¬ y = 0) (k : J mi d lim sc K cs nx ls (.int (x - x / y * y) :: st) w) : J mi d lim sc K cs pc ls (.int y :: .int x :: st) w := by
  obtain ⟨hd, rfl⟩ := h
  intro p l e R s m args below meth c H locs D tc ad A lr Q hC hR hE hL hret
  exact lv_irem hC.1 hC.2.1 hd hne (k p l e R s m args below meth c H locs D tc ad A lr Q hC hR hE hL hret)
theorem J_ladd {x y : Int64} (h : Dc mi pc .ladd 1 nx) (k : J mi d lim sc K cs nx ls (.long (x + y) :: st) w) : J mi d lim sc K cs pc ls (.long y :: .long x :: st) w := by
  obtain ⟨hd, rfl⟩ := h
  intro p l e R s m args below meth c H locs D tc ad A lr Q hC hR hE hL hret
  exact lv_ladd hC.1 hC.2.1 hd (k p l e R s m args below meth c H locs D tc ad A lr Q hC hR hE hL hret)
theorem J_lsub {x y : Int64} (h : Dc mi pc .lsub 1 nx) (k : J mi d lim sc K cs nx ls (.long (x - y) :: st) w) : J mi d lim sc K cs pc ls (.long y :: .long x :: st) w := by
  obtain ⟨hd, rfl⟩ := h
  intro p l e R s m args below meth c H locs D tc ad A lr Q hC hR hE hL hret
  exact lv_lsub hC.1 hC.2.1 hd (k p l e R s m args below meth c H locs D tc ad A lr Q hC hR hE hL hret)
theorem J_lmul {x y : Int64} (h : Dc mi pc .lmul 1 nx) (k : J mi d lim sc K cs nx ls (.long (x * y) :: st) w) : J mi d lim sc K cs pc ls (.long y :: .long x :: st) w := by
  obtain ⟨hd, rfl⟩ := h
  intro p l e R s m args below meth c H locs D tc ad A lr Q hC hR hE hL hret
  exact lv_lmul hC.1 hC.2.1 hd (k p l e R s m args below meth c H locs D tc ad A lr Q hC hR hE hL hret)
theorem J_lor {x y : Int64} (h : Dc mi pc .lor 1 nx) (k : J mi d lim sc K cs nx ls (.long (x ||| y) :: st) w) : J mi d lim sc K cs pc ls (.long y :: .long x :: st) w := by
  obtain ⟨hd, rfl⟩ := h
  intro p l e R s m args below meth c H locs D tc ad A lr Q hC hR hE hL hret
  exact lv_lor hC.1 hC.2.1 hd (k p l e R s m args below meth c H locs D tc ad A lr Q hC hR hE hL hret)
theorem J_ldiv {x y : Int64} (h : Dc mi pc .ldiv 1 nx) (hne : ¬ y = 0) (k : J mi d lim sc K cs nx ls (.long (x / y) :: st) w) : J mi d lim sc K cs pc ls (.long y :: .long x :: st) w := by
  obtain ⟨hd, rfl⟩ := h
  intro p l e R s m args below meth c H locs D tc ad A lr Q hC hR hE hL hret
  exact lv_ldiv hC.1 hC.2.1 hd hne (k p l e R s m args below meth c H locs D tc ad A lr Q hC hR hE hL hret)
theorem J_lrem {x y : Int64} (h : Dc mi pc .lrem 1 nx) (hne : ¬ y = 0) (k : J mi d lim sc K cs nx ls (.long (x - x / y * y) :: st) w) : J mi d lim sc K cs pc ls (.long y :: .long x :: st) w := by
  obtain ⟨hd, rfl⟩ := h
  intro p l e R s m args below meth c H locs D tc ad A lr Q hC hR hE hL hret
  exact lv_lrem hC.1 hC.2.1 hd hne (k p l e R s m args below meth c H locs D tc ad A lr Q hC hR hE hL hret)
theorem J_lneg {x : Int64} (h : Dc mi pc .lneg 1 nx) (k : J mi d lim sc K cs nx ls (.long (-x) :: st) w) : J mi d lim sc K cs pc ls (.long x :: st) w := by
  obtain ⟨hd, rfl⟩ := h
  intro p l e R s m args below meth c H locs D tc ad A lr Q hC hR hE hL hret
  exact lv_lneg hC.1 hC.2.1 hd (k p l e R s m args below meth c H locs D tc ad A lr Q hC hR hE hL hret)
theorem J_lshl {x : Int64} {y : Int32} (h : Dc mi pc .lshl 1 nx) (k : J mi d lim sc K cs nx ls (.long (x <<< (y.toInt64 &&& 63)) :: st) w) : J mi d lim sc K cs pc ls (.int y :: .long x :: st) w := by
  obtain ⟨hd, rfl⟩ := h
  intro p l e R s m args below meth c H locs D tc ad A lr Q hC hR hE hL hret
  exact lv_lshl hC.1 hC.2.1 hd rfl (k p l e R s m args below meth c H locs D tc ad A lr Q hC hR hE hL hret)
theorem J_lcmp {x y : Int64} (h : Dc mi pc .lcmp 1 nx) (k : J mi d lim sc K cs nx ls (.int (lg_cmp x y) :: st) w) : J mi d lim sc K cs pc ls (.long y :: .long x :: st) w := by
  obtain ⟨hd, rfl⟩ := h
  intro p l e R s m args below meth c H locs D tc ad A lr Q hC hR hE hL hret
  exact W.lcmp hC.1 hC.2.1 hd (k p l e R s m args below meth c H locs D tc ad A lr Q hC hR hE hL hret)
theorem J_i2l {x : Int32} (h : Dc mi pc .i2l 1 nx) (k : J mi d lim sc K cs nx ls (.long x.toInt64 :: st) w) : J mi d lim sc K cs pc ls (.int x :: st) w := by
  obtain ⟨hd, rfl⟩ := h
  intro p l e R s m args below meth c H locs D tc ad A lr Q hC hR hE hL hret
  exact lv_i2l hC.1 hC.2.1 hd rfl (k p l e R s m args below meth c H locs D tc ad A lr Q hC hR hE hL hret)
theorem J_l2i {x : Int64} (h : Dc mi pc .l2i 1 nx) (k : J mi d lim sc K cs nx ls (.int x.toInt32 :: st) w) : J mi d lim sc K cs pc ls (.long x :: st) w := by
  obtain ⟨hd, rfl⟩ := h
  intro p l e R s m args below meth c H locs D tc ad A lr Q hC hR hE hL hret
  exact lv_l2i hC.1 hC.2.1 hd rfl (k p l e R s m args below meth c H locs D tc ad A lr Q hC hR hE hL hret)
theorem J_i2b {x : Int32} (h : Dc mi pc .i2b 1 nx) (k : J mi d lim sc K cs nx ls (.int x.toInt8.toInt32 :: st) w) : J mi d lim sc K cs pc ls (.int x :: st) w := by
  obtain ⟨hd, rfl⟩ := h
  intro p l e R s m args below meth c H locs D tc ad A lr Q hC hR hE hL hret
  exact lv_i2b hC.1 hC.2.1 hd rfl (k p l e R s m args below meth c H locs D tc ad A lr Q hC hR hE hL hret)
theorem tr_cat (ad : Nat → Nat) (v : Value) : (trV ad v).category = v.category := by cases v <;> rfl
theorem J_dup {va : Value} (h : Dc mi pc .dup 1 nx) (hc : va.category = 1) (k : J mi d lim sc K cs nx ls (va :: va :: st) w) : J mi d lim sc K cs pc ls (va :: st) w := by
  obtain ⟨hd, rfl⟩ := h
  intro p l e R s m args below meth c H locs D tc ad A lr Q hC hR hE hL hret
  exact lv_dup hC.1 hC.2.1 hd ((tr_cat ad va).trans hc) (k p l e R s m args below meth c H locs D tc ad A lr Q hC hR hE hL hret)
theorem J_pop {va : Value} (h : Dc mi pc .pop 1 nx) (hc : va.category = 1) (k : J mi d lim sc K cs nx ls st w) : J mi d lim sc K cs pc ls (va :: st) w := by
  obtain ⟨hd, rfl⟩ := h
  intro p l e R s m args below meth c H locs D tc ad A lr Q hC hR hE hL hret
  exact lv_pop hC.1 hC.2.1 hd ((tr_cat ad va).trans hc) (k p l e R s m args below meth c H locs D tc ad A lr Q hC hR hE hL hret)
theorem J_dup2 {va vb : Value} (h : Dc mi pc .dup2 1 nx) (hc : va.category = 1) (hc2 : vb.category = 1) (k : J mi d lim sc K cs nx ls (va :: vb :: va :: vb :: st) w) : J mi d lim sc K cs pc ls (va :: vb :: st) w := by
  obtain ⟨hd, rfl⟩ := h
  intro p l e R s m args below meth c H locs D tc ad A lr Q hC hR hE hL hret
  exact lv_dup2_11 hC.1 hC.2.1 hd ((tr_cat ad va).trans hc) ((tr_cat ad vb).trans hc2) (k p l e R s m args below meth c H locs D tc ad A lr Q hC hR hE hL hret)
def PuI (mi : MI) (pc : Nat) (v : Int32) (nx : Nat) : Prop := (∃ n : Int, Dc mi pc (.iconst n) 1 nx ∧ Int32.ofInt n = v) ∨ (∃ n : Int, Dc mi pc (.bipush n) 2 nx ∧ (Int8.ofInt n).toInt32 = v) ∨ (∃ n : Int, Dc mi pc (.sipush n) 3 nx ∧ (Int16.ofInt n).toInt32 = v) ∨ (∃ i : Nat, Dc mi pc (.ldc i) 2 nx ∧ Cond.constant mi.1.cls i v ∈ lw_g)
theorem J_pushI {v : Int32} (h : PuI mi pc v nx) (k : J mi d lim sc K cs nx ls (.int v :: st) w) : J mi d lim sc K cs pc ls st w := by
  intro p l e R s m args below meth c H locs D tc ad A lr Q hC hR hE hL hret
  rcases h with ⟨n, ⟨hd, rfl⟩, hv⟩ | ⟨n, ⟨hd, rfl⟩, hv⟩ | ⟨n, ⟨hd, rfl⟩, hv⟩ | ⟨n, ⟨hd, rfl⟩, hv⟩
  · exact lv_iconst hC.1 hC.2.1 hd hv (k p l e R s m args below meth c H locs D tc ad A lr Q hC hR hE hL hret)
  · exact lv_bipush hC.1 hC.2.1 hd hv (k p l e R s m args below meth c H locs D tc ad A lr Q hC hR hE hL hret)
  · exact lv_sipush hC.1 hC.2.1 hd hv (k p l e R s m args below meth c H locs D tc ad A lr Q hC hR hE hL hret)
  · exact lv_ldc hC.1 hC.2.1 hC.2.2.2.2.1 (hC.2.2.2.2.2.1 _ hv) hd (k p l e R s m args below meth c H locs D tc ad A lr Q hC hR hE hL hret)
def PuL (mi : MI) (pc : Nat) (v : Int64) (nx : Nat) : Prop := (∃ n : Fin 2, Dc mi pc (.lconst n) 1 nx ∧ Int64.ofNat (n : Nat) = v) ∨ (∃ i : Nat, Dc mi pc (.ldc2_w i) 3 nx ∧ Cond.constantLong mi.1.cls i v ∈ lw_g)
theorem J_pushL {v : Int64} (h : PuL mi pc v nx) (k : J mi d lim sc K cs nx ls (.long v :: st) w) : J mi d lim sc K cs pc ls st w := by
  intro p l e R s m args below meth c H locs D tc ad A lr Q hC hR hE hL hret
  rcases h with ⟨n, ⟨hd, rfl⟩, hv⟩ | ⟨n, ⟨hd, rfl⟩, hv⟩
  · exact lv_lconst hC.1 hC.2.1 hd hv (k p l e R s m args below meth c H locs D tc ad A lr Q hC hR hE hL hret)
  · exact lv_ldc2 hC.1 hC.2.1 hC.2.2.2.2.1 (hC.2.2.2.2.2.1 _ hv) hd (k p l e R s m args below meth c H locs D tc ad A lr Q hC hR hE hL hret)
/-- a branch: its instruction, where it goes, where it goes on -/
def Br (mi : MI) (pc : Nat) (i : Int → Instr) (tgt nx : Nat) : Prop := ∃ off : Int, decode mi.2.1 pc = .ok (i off, 3) ∧ (pc : Int) + off = (tgt : Int) ∧ pc + 3 = nx
theorem J_icmp_eq {x y : Int32} {tgt : Nat} (h : Br mi pc (.if_icmp .eq) tgt nx) (kt : x = y → J mi d lim sc K cs tgt ls st w) (kf : ¬ x = y → J mi d lim sc K cs nx ls st w) : J mi d lim sc K cs pc ls (.int y :: .int x :: st) w := by
  obtain ⟨off, hd, ht, rfl⟩ := h
  intro p l e R s m args below meth c H locs D tc ad A lr Q hC hR hE hL hret
  exact lv_icmp_eq hC.1 hC.2.1 hd ht (fun q => kt q p l e R s m args below meth c H locs D tc ad A lr Q hC hR hE hL hret) (fun q => kf q p l e R s m args below meth c H locs D tc ad A lr Q hC hR hE hL hret)
theorem J_if_eq {x : Int32} {tgt : Nat} (h : Br mi pc (.ifCond .eq) tgt nx) (kt : x = 0 → J mi d lim sc K cs tgt ls st w) (kf : ¬ x = 0 → J mi d lim sc K cs nx ls st w) : J mi d lim sc K cs pc ls (.int x :: st) w := by
  obtain ⟨off, hd, ht, rfl⟩ := h
  intro p l e R s m args below meth c H locs D tc ad A lr Q hC hR hE hL hret
  exact lv_if_eq hC.1 hC.2.1 hd ht (fun q => kt q p l e R s m args below meth c H locs D tc ad A lr Q hC hR hE hL hret) (fun q => kf q p l e R s m args below meth c H locs D tc ad A lr Q hC hR hE hL hret)
theorem J_icmp_ne {x y : Int32} {tgt : Nat} (h : Br mi pc (.if_icmp .ne) tgt nx) (kt : ¬ x = y → J mi d lim sc K cs tgt ls st w) (kf : x = y → J mi d lim sc K cs nx ls st w) : J mi d lim sc K cs pc ls (.int y :: .int x :: st) w := by
  obtain ⟨off, hd, ht, rfl⟩ := h
  intro p l e R s m args below meth c H locs D tc ad A lr Q hC hR hE hL hret
  exact lv_icmp_ne hC.1 hC.2.1 hd ht (fun q => kt q p l e R s m args below meth c H locs D tc ad A lr Q hC hR hE hL hret) (fun q => kf q p l e R s m args below meth c H locs D tc ad A lr Q hC hR hE hL hret)
theorem J_if_ne {x : Int32} {tgt : Nat} (h : Br mi pc (.ifCond .ne) tgt nx) (kt : ¬ x = 0 → J mi d lim sc K cs tgt ls st w) (kf : x = 0 → J mi d lim sc K cs nx ls st w) : J mi d lim sc K cs pc ls (.int x :: st) w := by
  obtain ⟨off, hd, ht, rfl⟩ := h
  intro p l e R s m args below meth c H locs D tc ad A lr Q hC hR hE hL hret
  exact lv_if_ne hC.1 hC.2.1 hd ht (fun q => kt q p l e R s m args below meth c H locs D tc ad A lr Q hC hR hE hL hret) (fun q => kf q p l e R s m args below meth c H locs D tc ad A lr Q hC hR hE hL hret)
theorem J_icmp_lt {x y : Int32} {tgt : Nat} (h : Br mi pc (.if_icmp .lt) tgt nx) (kt : x < y → J mi d lim sc K cs tgt ls st w) (kf : ¬ x < y → J mi d lim sc K cs nx ls st w) : J mi d lim sc K cs pc ls (.int y :: .int x :: st) w := by
  obtain ⟨off, hd, ht, rfl⟩ := h
  intro p l e R s m args below meth c H locs D tc ad A lr Q hC hR hE hL hret
  exact lv_icmp_lt hC.1 hC.2.1 hd ht (fun q => kt q p l e R s m args below meth c H locs D tc ad A lr Q hC hR hE hL hret) (fun q => kf q p l e R s m args below meth c H locs D tc ad A lr Q hC hR hE hL hret)
theorem J_if_lt {x : Int32} {tgt : Nat} (h : Br mi pc (.ifCond .lt) tgt nx) (kt : x < 0 → J mi d lim sc K cs tgt ls st w) (kf : ¬ x < 0 → J mi d lim sc K cs nx ls st w) : J mi d lim sc K cs pc ls (.int x :: st) w := by
  obtain ⟨off, hd, ht, rfl⟩ := h
  intro p l e R s m args below meth c H locs D tc ad A lr Q hC hR hE hL hret
  exact lv_if_lt hC.1 hC.2.1 hd ht (fun q => kt q p l e R s m args below meth c H locs D tc ad A lr Q hC hR hE hL hret) (fun q => kf q p l e R s m args below meth c H locs D tc ad A lr Q hC hR hE hL hret)
theorem J_icmp_ge {x y : Int32} {tgt : Nat} (h : Br mi pc (.if_icmp .ge) tgt nx) (kt : y ≤ x → J mi d lim sc K cs tgt ls st w) (kf : ¬ y ≤ x → J mi d lim sc K cs nx ls st w) : J mi d lim sc K cs pc ls (.int y :: .int x :: st) w := by
  obtain ⟨off, hd, ht, rfl⟩ := h
  intro p l e R s m args below meth c H locs D tc ad A lr Q hC hR hE hL hret
  exact lv_icmp_ge hC.1 hC.2.1 hd ht (fun q => kt q p l e R s m args below meth c H locs D tc ad A lr Q hC hR hE hL hret) (fun q => kf q p l e R s m args below meth c H locs D tc ad A lr Q hC hR hE hL hret)
theorem J_if_ge {x : Int32} {tgt : Nat} (h : Br mi pc (.ifCond .ge) tgt nx) (kt : 0 ≤ x → J mi d lim sc K cs tgt ls st w) (kf : ¬ 0 ≤ x → J mi d lim sc K cs nx ls st w) : J mi d lim sc K cs pc ls (.int x :: st) w := by
  obtain ⟨off, hd, ht, rfl⟩ := h
  intro p l e R s m args below meth c H locs D tc ad A lr Q hC hR hE hL hret
  exact lv_if_ge hC.1 hC.2.1 hd ht (fun q => kt q p l e R s m args below meth c H locs D tc ad A lr Q hC hR hE hL hret) (fun q => kf q p l e R s m args below meth c H locs D tc ad A lr Q hC hR hE hL hret)
theorem J_icmp_gt {x y : Int32} {tgt : Nat} (h : Br mi pc (.if_icmp .gt) tgt nx) (kt : y < x → J mi d lim sc K cs tgt ls st w) (kf : ¬ y < x → J mi d lim sc K cs nx ls st w) : J mi d lim sc K cs pc ls (.int y :: .int x :: st) w := by
  obtain ⟨off, hd, ht, rfl⟩ := h
  intro p l e R s m args below meth c H locs D tc ad A lr Q hC hR hE hL hret
  exact lv_icmp_gt hC.1 hC.2.1 hd ht (fun q => kt q p l e R s m args below meth c H locs D tc ad A lr Q hC hR hE hL hret) (fun q => kf q p l e R s m args below meth c H locs D tc ad A lr Q hC hR hE hL hret)
theorem J_if_gt {x : Int32} {tgt : Nat} (h : Br mi pc (.ifCond .gt) tgt nx) (kt : 0 < x → J mi d lim sc K cs tgt ls st w) (kf : ¬ 0 < x → J mi d lim sc K cs nx ls st w) : J mi d lim sc K cs pc ls (.int x :: st) w := by
  obtain ⟨off, hd, ht, rfl⟩ := h
  intro p l e R s m args below meth c H locs D tc ad A lr Q hC hR hE hL hret
  exact lv_if_gt hC.1 hC.2.1 hd ht (fun q => kt q p l e R s m args below meth c H locs D tc ad A lr Q hC hR hE hL hret) (fun q => kf q p l e R s m args below meth c H locs D tc ad A lr Q hC hR hE hL hret)
theorem J_icmp_le {x y : Int32} {tgt : Nat} (h : Br mi pc (.if_icmp .le) tgt nx) (kt : x ≤ y → J mi d lim sc K cs tgt ls st w) (kf : ¬ x ≤ y → J mi d lim sc K cs nx ls st w) : J mi d lim sc K cs pc ls (.int y :: .int x :: st) w := by
  obtain ⟨off, hd, ht, rfl⟩ := h
  intro p l e R s m args below meth c H locs D tc ad A lr Q hC hR hE hL hret
  exact lv_icmp_le hC.1 hC.2.1 hd ht (fun q => kt q p l e R s m args below meth c H locs D tc ad A lr Q hC hR hE hL hret) (fun q => kf q p l e R s m args below meth c H locs D tc ad A lr Q hC hR hE hL hret)
theorem J_if_le {x : Int32} {tgt : Nat} (h : Br mi pc (.ifCond .le) tgt nx) (kt : x ≤ 0 → J mi d lim sc K cs tgt ls st w) (kf : ¬ x ≤ 0 → J mi d lim sc K cs nx ls st w) : J mi d lim sc K cs pc ls (.int x :: st) w := by
  obtain ⟨off, hd, ht, rfl⟩ := h
  intro p l e R s m args below meth c H locs D tc ad A lr Q hC hR hE hL hret
  exact lv_if_le hC.1 hC.2.1 hd ht (fun q => kt q p l e R s m args below meth c H locs D tc ad A lr Q hC hR hE hL hret) (fun q => kf q p l e R s m args below meth c H locs D tc ad A lr Q hC hR hE hL hret)
def Go (mi : MI) (pc tgt : Nat) : Prop := ∃ off : Int, decode mi.2.1 pc = .ok (.goto off, 3) ∧ (pc : Int) + off = (tgt : Int)
theorem J_goto {tgt : Nat} (h : Go mi pc tgt) (k : J mi d lim sc K cs tgt ls st w) : J mi d lim sc K cs pc ls st w := by
  obtain ⟨off, hd, ht⟩ := h
  intro p l e R s m args below meth c H locs D tc ad A lr Q hC hR hE hL hret
  exact lv_goto hC.1 hC.2.1 hd ht (k p l e R s m args below meth c H locs D tc ad A lr Q hC hR hE hL hret)
theorem Lr.get {nL : Nat} {ad : Nat → Nat} {ls : List Value} {lr : Array Slot} (h : Lr nL ad ls lr) {i : Nat} {v : Value} (hi : ls[i]? = some v) (hv : v ≠ .null) : lr[i]? = some (.val (trV ad v)) := h.2.2 i v hi hv
theorem J_iload_n {k : Fin 4} {i : Nat} {x : Int32} (h : Dc mi pc (.iload_n k) 1 nx) (hi : (k : Nat) = i) (hl : ls[i]? = some (.int x)) (k : J mi d lim sc K cs nx ls (.int x :: st) w) : J mi d lim sc K cs pc ls st w := by
  obtain ⟨hd, rfl⟩ := h
  intro p l e R s m args below meth c H locs D tc ad A lr Q hC hR hE hL hret
  exact lv_iload_n hC.1 hC.2.1 hd hi (hL.get hl (fun q => by cases q)) (k p l e R s m args below meth c H locs D tc ad A lr Q hC hR hE hL hret)
theorem J_iload {i : Nat} {x : Int32} (h : Dc mi pc (.iload i) 2 nx) (hl : ls[i]? = some (.int x)) (k : J mi d lim sc K cs nx ls (.int x :: st) w) : J mi d lim sc K cs pc ls st w := by
  obtain ⟨hd, rfl⟩ := h
  intro p l e R s m args below meth c H locs D tc ad A lr Q hC hR hE hL hret
  exact lv_iload hC.1 hC.2.1 hd (hL.get hl (fun q => by cases q)) (k p l e R s m args below meth c H locs D tc ad A lr Q hC hR hE hL hret)
theorem J_lload_n {k : Fin 4} {i : Nat} {x : Int64} (h : Dc mi pc (.lload_n k) 1 nx) (hi : (k : Nat) = i) (hl : ls[i]? = some (.long x)) (k : J mi d lim sc K cs nx ls (.long x :: st) w) : J mi d lim sc K cs pc ls st w := by
  obtain ⟨hd, rfl⟩ := h
  intro p l e R s m args below meth c H locs D tc ad A lr Q hC hR hE hL hret
  exact lv_lload_n hC.1 hC.2.1 hd hi (hL.get hl (fun q => by cases q)) (k p l e R s m args below meth c H locs D tc ad A lr Q hC hR hE hL hret)
theorem J_lload {i : Nat} {x : Int64} (h : Dc mi pc (.lload i) 2 nx) (hl : ls[i]? = some (.long x)) (k : J mi d lim sc K cs nx ls (.long x :: st) w) : J mi d lim sc K cs pc ls st w := by
  obtain ⟨hd, rfl⟩ := h
  intro p l e R s m args below meth c H locs D tc ad A lr Q hC hR hE hL hret
  exact lv_lload hC.1 hC.2.1 hd (hL.get hl (fun q => by cases q)) (k p l e R s m args below meth c H locs D tc ad A lr Q hC hR hE hL hret)
theorem J_aload_n {k : Fin 4} {i : Nat} {x : Nat} (h : Dc mi pc (.aload_n k) 1 nx) (hi : (k : Nat) = i) (hl : ls[i]? = some (.ref x)) (k : J mi d lim sc K cs nx ls (.ref x :: st) w) : J mi d lim sc K cs pc ls st w := by
  obtain ⟨hd, rfl⟩ := h
  intro p l e R s m args below meth c H locs D tc ad A lr Q hC hR hE hL hret
  exact lv_aload_n hC.1 hC.2.1 hd hi (hL.get hl (fun q => by cases q)) (k p l e R s m args below meth c H locs D tc ad A lr Q hC hR hE hL hret)
theorem J_aload {i : Nat} {x : Nat} (h : Dc mi pc (.aload i) 2 nx) (hl : ls[i]? = some (.ref x)) (k : J mi d lim sc K cs nx ls (.ref x :: st) w) : J mi d lim sc K cs pc ls st w := by
  obtain ⟨hd, rfl⟩ := h
  intro p l e R s m args below meth c H locs D tc ad A lr Q hC hR hE hL hret
  exact lv_aload hC.1 hC.2.1 hd (hL.get hl (fun q => by cases q)) (k p l e R s m args below meth c H locs D tc ad A lr Q hC hR hE hL hret)
def lvQ (ad : Nat → Nat) (i : Nat) : Value → Option (Nat × Value)
  | .null => none
  | v => some (i, trV ad v)
def lvO (ad : Nat → Nat) (ls : List Value) : List (Nat × Value) := (List.range ls.length).filterMap (fun i => ls[i]?.bind (lvQ ad i))
theorem lvO_mem {ad : Nat → Nat} {ls : List Value} {q : Nat × Value} : q ∈ lvO ad ls ↔ ∃ v, ls[q.1]? = some v ∧ v ≠ .null ∧ q.2 = trV ad v := by
  unfold lvO
  rw [List.mem_filterMap]
  constructor
  · rintro ⟨i, hi, h⟩
    cases hv : ls[i]? with
    | none => rw [hv] at h; cases h
    | some v =>
      rw [hv] at h
      have h' : lvQ ad i v = some q := h
      cases v <;> first | (cases h'; done) | (cases h'; exact ⟨_, hv, (fun z => Value.noConfusion z), rfl⟩)
  · rintro ⟨v, h1, h2, h3⟩
    refine ⟨q.1, List.mem_range.mpr (List.getElem?_eq_some_iff.mp h1).1, ?_⟩
    rw [h1]
    obtain ⟨q1, q2⟩ := q
    cases h3
    show lvQ ad q1 v = some (q1, trV ad v)
    cases v <;> first | rfl | exact absurd rfl h2
theorem Lr.has {nL : Nat} {ad : Nat → Nat} {ls : List Value} {lr : Array Slot} (h : Lr nL ad ls lr) : lv_has lr nL (lvO ad ls) := ⟨h.1, h.2.1, fun q hq => by
  obtain ⟨v, h1, h2, h3⟩ := lvO_mem.mp hq
  rw [h3]
  exact h.2.2 q.1 v h1 h2⟩
theorem Lr.st1 {nL : Nat} {ad : Nat → Nat} {ls : List Value} {lr : Array Slot} {i : Nat} {v : Value} (hc : ∀ u, ls[i - 1]? = some u → i = 0 ∨ u.category = 1) (h : lv_has lr nL ((i, trV ad v) :: (lvO ad ls).filter (fun q => !(q.1 == i) && !(q.1 + 1 == i && q.2.category == 2)))) : Lr nL ad (ls.set i v) lr := by
  refine ⟨h.1, h.2.1, fun j u hj hu => ?_⟩
  rw [List.getElem?_set] at hj
  by_cases e : i = j
  · subst e
    by_cases hl : i < ls.length
    · simp [hl] at hj
      subst hj
      exact h.2.2 (i, trV ad v) List.mem_cons_self
    · simp [hl] at hj
  · rw [if_neg e] at hj
    refine h.2.2 (j, trV ad u) (List.mem_cons_of_mem _ (List.mem_filter.mpr ⟨lvO_mem.mpr ⟨u, hj, hu, rfl⟩, ?_⟩))
    have e2 : ¬ j = i := fun q => e q.symm
    by_cases e3 : j + 1 = i
    · have hq := hc u (by rw [← e3]; exact hj)
      have : u.category = 1 := by
        rcases hq with hq | hq
        · omega
        · exact hq
      simp [e2, tr_cat, this]
    · simp [e2, e3]
theorem Lr.st2 {nL : Nat} {ad : Nat → Nat} {ls : List Value} {lr : Array Slot} {i : Nat} {v : Value} (hc : ∀ u, ls[i - 1]? = some u → i = 0 ∨ u.category = 1) (h : lv_has lr nL ((i, trV ad v) :: (lvO ad ls).filter (fun q => !(q.1 == i) && (!(q.1 == i + 1) && !(q.1 + 1 == i && q.2.category == 2))))) : Lr nL ad ((ls.set i v).set (i + 1) .null) lr := by
  refine ⟨h.1, h.2.1, fun j u hj hu => ?_⟩
  rw [List.getElem?_set] at hj
  by_cases e0 : i + 1 = j
  · subst e0
    by_cases hl : i + 1 < (ls.set i v).length
    · simp at hl
      simp [hl] at hj
      exact absurd hj.symm hu
    · simp at hl
      simp [hl] at hj
      exact absurd hj.2.symm hu
  rw [if_neg e0, List.getElem?_set] at hj
  by_cases e : i = j
  · subst e
    by_cases hl : i < ls.length
    · simp [hl] at hj
      subst hj
      exact h.2.2 (i, trV ad v) List.mem_cons_self
    · simp [hl] at hj
  · rw [if_neg e] at hj
    refine h.2.2 (j, trV ad u) (List.mem_cons_of_mem _ (List.mem_filter.mpr ⟨lvO_mem.mpr ⟨u, hj, hu, rfl⟩, ?_⟩))
    have e2 : ¬ j = i := fun q => e q.symm
    have e4 : ¬ j = i + 1 := fun q => e0 q.symm
    by_cases e3 : j + 1 = i
    · have hq := hc u (by rw [← e3]; exact hj)
      have : u.category = 1 := by
        rcases hq with hq | hq
        · omega
        · exact hq
      simp [e2, e4, tr_cat, this]
    · simp [e2, e3, e4]
theorem J_istore_n {k : Fin 4} {i : Nat} {x : Int32} (h : Dc mi pc (.istore_n k) 1 nx) (hn : i < mi.2.2.1) (hi : (k : Nat) = i) (hc : ∀ u, ls[i - 1]? = some u → i = 0 ∨ u.category = 1) (k : J mi d lim sc K cs nx (ls.set i (.int x)) st w) : J mi d lim sc K cs pc ls (.int x :: st) w := by
  obtain ⟨hd, rfl⟩ := h
  intro p l e R s m args below meth c H locs D tc ad A lr Q hC hR hE hL hret
  exact lv_istore_n hC.1 hC.2.1 hd hi hL.has hn rfl (fun lr hl => k p l e R s m args below meth c H locs D tc ad A lr Q hC hR hE (Lr.st1 (v := .int x) hc hl) hret)
theorem J_istore {i : Nat} {x : Int32} (h : Dc mi pc (.istore i) 2 nx) (hn : i < mi.2.2.1) (hc : ∀ u, ls[i - 1]? = some u → i = 0 ∨ u.category = 1) (k : J mi d lim sc K cs nx (ls.set i (.int x)) st w) : J mi d lim sc K cs pc ls (.int x :: st) w := by
  obtain ⟨hd, rfl⟩ := h
  intro p l e R s m args below meth c H locs D tc ad A lr Q hC hR hE hL hret
  exact lv_istore hC.1 hC.2.1 hd hL.has hn rfl (fun lr hl => k p l e R s m args below meth c H locs D tc ad A lr Q hC hR hE (Lr.st1 (v := .int x) hc hl) hret)
theorem J_lstore_n {k : Fin 4} {i : Nat} {x : Int64} (h : Dc mi pc (.lstore_n k) 1 nx) (hn : i + 1 < mi.2.2.1) (hi : (k : Nat) = i) (hc : ∀ u, ls[i - 1]? = some u → i = 0 ∨ u.category = 1) (k : J mi d lim sc K cs nx ((ls.set i (.long x)).set (i + 1) .null) st w) : J mi d lim sc K cs pc ls (.long x :: st) w := by
  obtain ⟨hd, rfl⟩ := h
  intro p l e R s m args below meth c H locs D tc ad A lr Q hC hR hE hL hret
  exact lv_lstore_n hC.1 hC.2.1 hd hi hL.has hn rfl (fun lr hl => k p l e R s m args below meth c H locs D tc ad A lr Q hC hR hE (Lr.st2 (v := .long x) hc hl) hret)
theorem J_lstore {i : Nat} {x : Int64} (h : Dc mi pc (.lstore i) 2 nx) (hn : i + 1 < mi.2.2.1) (hc : ∀ u, ls[i - 1]? = some u → i = 0 ∨ u.category = 1) (k : J mi d lim sc K cs nx ((ls.set i (.long x)).set (i + 1) .null) st w) : J mi d lim sc K cs pc ls (.long x :: st) w := by
  obtain ⟨hd, rfl⟩ := h
  intro p l e R s m args below meth c H locs D tc ad A lr Q hC hR hE hL hret
  exact lv_lstore hC.1 hC.2.1 hd hL.has hn rfl (fun lr hl => k p l e R s m args below meth c H locs D tc ad A lr Q hC hR hE (Lr.st2 (v := .long x) hc hl) hret)
theorem J_astore_n {k : Fin 4} {i : Nat} {x : Nat} (h : Dc mi pc (.astore_n k) 1 nx) (hn : i < mi.2.2.1) (hi : (k : Nat) = i) (hc : ∀ u, ls[i - 1]? = some u → i = 0 ∨ u.category = 1) (k : J mi d lim sc K cs nx (ls.set i (.ref x)) st w) : J mi d lim sc K cs pc ls (.ref x :: st) w := by
  obtain ⟨hd, rfl⟩ := h
  intro p l e R s m args below meth c H locs D tc ad A lr Q hC hR hE hL hret
  exact lv_astore_n hC.1 hC.2.1 hd hi hL.has hn rfl (fun lr hl => k p l e R s m args below meth c H locs D tc ad A lr Q hC hR hE (Lr.st1 (v := .ref x) hc hl) hret)
theorem J_astore {i : Nat} {x : Nat} (h : Dc mi pc (.astore i) 2 nx) (hn : i < mi.2.2.1) (hc : ∀ u, ls[i - 1]? = some u → i = 0 ∨ u.category = 1) (k : J mi d lim sc K cs nx (ls.set i (.ref x)) st w) : J mi d lim sc K cs pc ls (.ref x :: st) w := by
  obtain ⟨hd, rfl⟩ := h
  intro p l e R s m args below meth c H locs D tc ad A lr Q hC hR hE hL hret
  exact lv_astore hC.1 hC.2.1 hd hL.has hn rfl (fun lr hl => k p l e R s m args below meth c H locs D tc ad A lr Q hC hR hE (Lr.st1 (v := .ref x) hc hl) hret)
theorem J_iinc {i : Nat} {n : Int} {x v : Int32} (h : Dc mi pc (.iinc i n) 3 nx) (hn : i < mi.2.2.1) (hl : ls[i]? = some (.int x)) (hv : x + Int32.ofInt n = v) (hc : ∀ u, ls[i - 1]? = some u → i = 0 ∨ u.category = 1) (k : J mi d lim sc K cs nx (ls.set i (.int v)) st w) : J mi d lim sc K cs pc ls st w := by
  obtain ⟨hd, rfl⟩ := h
  intro p l e R s m args below meth c H locs D tc ad A lr Q hC hR hE hL hret
  have hm : (i, Value.int x) ∈ lvO ad ls := lvO_mem.mpr ⟨.int x, hl, (fun q => by cases q), rfl⟩
  obtain ⟨k0, hk0⟩ := List.getElem?_of_mem hm
  exact lv_iinc hC.1 hC.2.1 hd hL.has hk0 hv hn rfl (fun lr hl => k p l e R s m args below meth c H locs D tc ad A lr Q hC hR hE (Lr.st1 (v := .int v) hc hl) hret)
theorem J_iret {x : Int32} {t : FieldType} (h : decode mi.2.1 pc = .ok (.ireturn, 1)) (ht : mi.2.2.2 = some t) (hn : narrow t (.int x) = .int x) (h1 : cs.1 ≤ lim.1) (h2 : cs.2 ≤ lim.2) (k : K (some (.int x)) w) : J mi d lim sc K cs pc ls [.int x] w := by
  intro p l e R s m args below meth c H locs D tc ad A lr Q hC hR hE hL hret
  exact hret (some (.int x)) w H locs ad lr pc cs k (fun _ _ => rfl) (Nat.le_refl _) hE h1 h2 ⟨h, t, ht, hn⟩
theorem J_lret {x : Int64} (h : decode mi.2.1 pc = .ok (.lreturn, 1)) (ht : mi.2.2.2 = some .long) (h1 : cs.1 ≤ lim.1) (h2 : cs.2 ≤ lim.2) (k : K (some (.long x)) w) : J mi d lim sc K cs pc ls [.long x] w := by
  intro p l e R s m args below meth c H locs D tc ad A lr Q hC hR hE hL hret
  exact hret (some (.long x)) w H locs ad lr pc cs k (fun _ _ => rfl) (Nat.le_refl _) hE h1 h2 ⟨h, ht⟩
theorem J_vret (h : decode mi.2.1 pc = .ok (.return_, 1)) (ht : mi.2.2.2 = none) (h1 : cs.1 ≤ lim.1) (h2 : cs.2 ≤ lim.2) (k : K none w) : J mi d lim sc K cs pc ls [] w := by
  intro p l e R s m args below meth c H locs D tc ad A lr Q hC hR hE hL hret
  exact hret none w H locs ad lr pc cs k (fun _ _ => rfl) (Nat.le_refl _) hE h1 h2 ⟨h, ht⟩
theorem J_tabOut {dflt lo hi : Int} {offs : Array Int} {len tgt : Nat} {x : Int32} (h : decode mi.2.1 pc = .ok (.tableswitch dflt lo hi offs, len)) (hx : x.toInt < lo ∨ hi < x.toInt) (ht : (pc : Int) + dflt = (tgt : Int)) (k : J mi d lim sc K cs tgt ls st w) : J mi d lim sc K cs pc ls (.int x :: st) w := by
  intro p l e R s m args below meth c H locs D tc ad A lr Q hC hR hE hL hret
  exact lv_tableOut hC.1 hC.2.1 h hx ht (k p l e R s m args below meth c H locs D tc ad A lr Q hC hR hE hL hret)
theorem J_tabIn {dflt lo hi : Int} {offs : Array Int} {len tgt : Nat} {x : Int32} {off : Int} (h : decode mi.2.1 pc = .ok (.tableswitch dflt lo hi offs, len)) (h1 : ¬ x.toInt < lo) (h2 : ¬ hi < x.toInt) (ho : offs[(x.toInt - lo).toNat]? = some off) (ht : (pc : Int) + off = (tgt : Int)) (k : J mi d lim sc K cs tgt ls st w) : J mi d lim sc K cs pc ls (.int x :: st) w := by
  intro p l e R s m args below meth c H locs D tc ad A lr Q hC hR hE hL hret
  exact lv_tableIn hC.1 hC.2.1 h h1 h2 ho ht (k p l e R s m args below meth c H locs D tc ad A lr Q hC hR hE hL hret)
theorem J_look {dflt : Int} {ps : Array (Int × Int)} {len tgt : Nat} {x : Int32} {off : Int} (h : decode mi.2.1 pc = .ok (.lookupswitch dflt ps, len)) (hp : (ps.toList.zip (ps.toList.drop 1)).all (fun (a, next) => a.1 < next.1) = true) (ho : Op.lookupswitch.offset ps.toList dflt x.toInt = off) (ht : (pc : Int) + off = (tgt : Int)) (k : J mi d lim sc K cs tgt ls st w) : J mi d lim sc K cs pc ls (.int x :: st) w := by
  intro p l e R s m args below meth c H locs D tc ad A lr Q hC hR hE hL hret
  exact lv_lookup hC.1 hC.2.1 h hp ho ht (k p l e R s m args below meth c H locs D tc ad A lr Q hC hR hE hL hret)
/-- weaker ends -/
theorem J.mono {K' : Option Value → Wd → Prop} (k : J mi d lim sc K cs pc ls st w) (hK : ∀ v w', K v w' → K' v w') : J mi d lim sc K' cs pc ls st w := by
  intro p l e R s m args below meth c H locs D tc ad A lr Q hC hR hE hL hret
  exact k p l e R s m args below meth c H locs D tc ad A lr Q hC hR hE hL (fun v w' H' locs' ad' lr' pc' cs' h => hret v w' H' locs' ad' lr' pc' cs' (hK v w' h))
end JR
