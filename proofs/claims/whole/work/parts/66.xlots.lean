/-! COMPONENT: lots, what is told -/
def lotLo (x : Nat) : Int32 := nI (x / 4 % 48) - nI 24
def lotHi (x : Nat) : Int32 := lotLo x + nI (x / 256 % 3)
def lotC (cs : List Cs) (x : Nat) : List Cs :=
  if x % 4 = 0 then (if cs.length = 0 then cs else cs.eraseIdx (x / 4 % cs.length))
  else if cs.length < 12 ∧ freeB cs (lotLo x) (lotHi x) = true then insF cs (lotLo x, lotHi x, x / 16 % 8, x / 128 % 10) else cs
def lotF (g : Pg) (x : Nat) : Pg := (lotC g.1 x, g.2 ++ [g.1])
def nxL (x : Nat) : Nat := 48271 * x % 2147483647
def lotN (g : Pg) (x : Nat) : Nat → Pg × Nat
  | 0 => (g, x)
  | k + 1 => (lotF (lotN g x k).1 (nxL (lotN g x k).2), nxL (lotN g x k).2)
theorem lotN_succ (g : Pg) (x k : Nat) : lotN g x (k + 1) = (lotF (lotN g x k).1 (nxL (lotN g x k).2), nxL (lotN g x k).2) := rfl
def lotsS (s : St) (n sd : Int32) : Int32 × St :=
  if n < nI 1 ∨ nI 20 < n ∨ sd < nI 1 ∨ nI 2147483647 ≤ sd then (-1, s) else if 40 < (sP s).2.length + ix n then (-2, s) else (nI (lotN (sP s) (ix sd) (ix n)).1.1.length, uPrg s (lotN (sP s) (ix sd) (ix n)).1)
theorem lotLo_i (x : Nat) : (lotLo x).toInt = (x / 4 % 48 : Nat) - 24 := by
  unfold lotLo
  have h1 : (nI (x / 4 % 48)).toInt = ((x / 4 % 48 : Nat) : Int) := nI_toInt (by omega)
  have h2 : (nI 24).toInt = 24 := rfl
  rw [subI (by omega) (by omega), h1, h2]
theorem addI {x y : Int32} (h1 : -2147483648 ≤ x.toInt + y.toInt) (h2 : x.toInt + y.toInt < 2147483648) : (x + y).toInt = x.toInt + y.toInt := by
  rw [Int32.toInt_add]
  exact Int.bmod_eq_of_le (by omega) (by omega)
theorem lotHi_i (x : Nat) : (lotHi x).toInt = (x / 4 % 48 : Nat) - 24 + (x / 256 % 3 : Nat) := by
  unfold lotHi
  have h1 := lotLo_i x
  have h2 : (nI (x / 256 % 3)).toInt = ((x / 256 % 3 : Nat) : Int) := nI_toInt (by omega)
  rw [addI (by omega) (by omega), h1, h2]
theorem lot_le (x : Nat) : lotLo x ≤ lotHi x := by
  rw [Int32.le_iff_toInt_le, lotLo_i, lotHi_i]
  omega
theorem lot_ok {g : Pg} (h : OkP g) (h40 : g.2.length < 40) (x : Nat) : OkP (lotF g x) := by
  have h1 : OkC (lotC g.1 x) ∧ (lotC g.1 x).length ≤ 12 := by
    unfold lotC
    split
    · split
      · exact ⟨h.1, h.2.1⟩
      · have hi : x / 4 % g.1.length < g.1.length := Nat.mod_lt _ (by omega)
        have := h.2.1
        exact ⟨ok_era h.1 hi, by rw [List.length_eraseIdx_of_lt hi]; omega⟩
    · split
      · rename_i c
        exact ⟨ok_ins h.1 (lot_le x) c.2 (by omega) (by omega), by rw [insF_len]; omega⟩
      · exact ⟨h.1, h.2.1⟩
  exact OkP.push (cs := g.1) (hs := g.2) h h40 h1.1 h1.2
theorem nxL_lt (x : Nat) : nxL x < 2147483647 := Nat.mod_lt _ (by omega)
theorem lotN_at {g : Pg} (h : OkP g) {x : Nat} (hx : x < 2147483647) : ∀ k, g.2.length + k ≤ 40 → OkP (lotN g x k).1 ∧ (lotN g x k).1.2.length = g.2.length + k ∧ (lotN g x k).2 < 2147483647
  | 0, _ => ⟨h, rfl, hx⟩
  | k + 1, hk => by
    obtain ⟨h1, h2, h3⟩ := lotN_at h hx k (by omega)
    rw [lotN_succ]
    refine ⟨lot_ok h1 (by omega) _, ?_, nxL_lt _⟩
    show ((lotN g x k).1.2 ++ [(lotN g x k).1.1]).length = _
    rw [List.length_append, h2]
    rfl
def thrF (f : Nat → Rw) : Nat → Nat
  | 0 => 0
  | k + 1 => thrF f k + (if (f k).isNone then 0 else 1)
theorem thrF_succ (f : Nat → Rw) (k : Nat) : thrF f (k + 1) = thrF f k + (if (f k).isNone then 0 else 1) := rfl
def kptF (f : Nat → Option Pg) : Nat → Nat
  | 0 => 0
  | k + 1 => kptF f k + (if (f k).isNone then 0 else 1)
theorem kptF_succ (f : Nat → Option Pg) (k : Nat) : kptF f (k + 1) = kptF f k + (if (f k).isNone then 0 else 1) := rfl
theorem thrF_le (f : Nat → Rw) : ∀ k, thrF f k ≤ k
  | 0 => Nat.le_refl 0
  | k + 1 => by
    have := thrF_le f k
    rw [thrF_succ]
    split <;> omega
theorem kptF_le (f : Nat → Option Pg) : ∀ k, kptF f k ≤ k
  | 0 => Nat.le_refl 0
  | k + 1 => by
    have := kptF_le f k
    rw [kptF_succ]
    split <;> omega
def cntV (s : St) (w : Nat) : Int32 := match w with
  | 0 => nI (sP s).1.length
  | 1 => nI (PL s).length
  | 2 => nI ((PL s).length - 1)
  | 3 => nI (wgF (sP s).1 0 (sP s).1.length + sR s)
  | 4 => nI (cntF (sP s).1 true true 1 (PL s).length + cntF (sP s).1 true true 4 (PL s).length)
  | 5 => nI (cntF (sP s).1 true true 2 (PL s).length)
  | 6 => nI (cntF (sP s).1 true true 3 (PL s).length)
  | 7 => nI (sR s)
  | 8 => nI (sP s).2.length
  | 9 => nI (thrF (sRw s) 6)
  | 10 => nI (thrF (sTx s) 4)
  | _ => nI (kptF (sKp s) 3)
def countS (s : St) (w : Int32) : Int32 × St := if hasB 12 w = false then (-1, s) else (cntV s (ix w), s)
def findingsS (s : St) (f : Int32) : Int32 × St := if f < nI 1 ∨ nI 5 < f then (-1, s) else (sTm s (ix f), s)
/-- h = 31 h + v, for m numbers -/
def fdN (f : Nat → Int32) (h : Int64) : Nat → Int64
  | 0 => h
  | k + 1 => lN 31 * fdN f h k + (f k).toInt64
theorem fdN_succ (f : Nat → Int32) (h : Int64) (k : Nat) : fdN f h (k + 1) = lN 31 * fdN f h k + (f k).toInt64 := rfl
def fdL (g : Nat → Int64 → Int64) (h : Int64) : Nat → Int64
  | 0 => h
  | k + 1 => g k (fdL g h k)
theorem fdL_succ (g : Nat → Int64 → Int64) (h : Int64) (k : Nat) : fdL g h (k + 1) = g k (fdL g h k) := rfl
theorem fdN_0 (f : Nat → Int32) (h : Int64) : fdN f h 0 = h := rfl
theorem fdL_0 (g : Nat → Int64 → Int64) (h : Int64) : fdL g h 0 = h := rfl
def stV (o : Rw) (h : Int64) : Int64 := match o with
  | none => lN 31 * h + (-1 : Int32).toInt64
  | some l => fdN (fun i => l.getD i 0) (lN 31 * h + (nI l.length).toInt64) l.length
def strF (f : Nat → Rw) (h : Int64) (n : Nat) : Int64 := fdL (fun r z => stV (f r) z) h n
def kdV (s : St) (k : Nat) : Int32 := match sKp s k with
  | none => -1
  | some g => nI g.2.length
def dgA (s : St) : Int64 := fdN (cntV s) (lN 17) 12
def dgB (s : St) : Int64 := fdL (fun i z => fdN (valF (sP s).1 i) z 4) (dgA s) (sP s).1.length
def dgC (s : St) : Int64 := fdL (fun k z => fdN (vpF (sP s).1 true true k) z 5) (dgB s) (PL s).length
def dgD (s : St) : Int64 := fdN (kdV s) (dgC s) 3
def digestS (s : St) : Int64 × St := (strF (sTx s) (strF (sRw s) (dgD s) 6) 4, s)
section XX
variable {G : Gm} {μ : Mm} {d : Nat} {s : St} {g : Pg}
theorem x_doByLot (hL : LayX G) (x1 : AbC μ 3 g.1) (x2 : AbH μ 3 g.1 g.2) (x3 : OkP g) (h40 : g.2.length < 40) {x : Nat} (hx : x < 2147483647) : Sv mX5_doByLot (d+3) [.ref 0, .int (nI x)] G μ (fun μ' => AbC μ' 3 (lotF g x).1 ∧ AbH μ' 3 (lotF g x).1 (lotF g x).2 ∧ Fr μ μ' (Ppg 3)) := by
  obtain ⟨hO, ⟨q0, q1, q2, q3, q4, q5, q6, q7, q8, q9, q10⟩, -, -, -, -, hp3, -⟩ := hL
  have hpo := hp3.1
  have e0 := x1.1
  have k2 := x3.2.1
  refine Sv_of (ls := [.ref 0, .int (nI x), .null, .null]) (by decide +kernel) (Nat.le_of_ble_eq_true rfl) rfl ?_
  refine J_iload_n (i := 1) qX5_doByLot_0 rfl rfl ?_
  refine J_pushI qX5_doByLot_1 ?_
  refine J_irem qX5_doByLot_2 (by first | assumption | decide) ?_
  rw [pk_rem (by omega) (by omega) (by omega)]
  refine J_if_ne_n qX5_doByLot_3 (by omega) (fun c1 => ?_) (fun c1 => ?_)
  · have eL : lotC g.1 x = if g.1.length < 12 ∧ freeB g.1 (lotLo x) (lotHi x) = true then insF g.1 (lotLo x, lotHi x, x / 16 % 8, x / 128 % 10) else g.1 := if_neg c1
    have none : ¬ (g.1.length < 12 ∧ freeB g.1 (lotLo x) (lotHi x) = true) → J mX5_doByLot (d+3) (0, 0) s0 (Kv G (fun μ' => AbC μ' 3 (lotF g x).1 ∧ AbH μ' 3 (lotF g x).1 (lotF g x).2 ∧ Fr μ μ' (Ppg 3))) (0, 0) 117 [.ref 0, .int (nI x), .int (lotLo x), .int (lotHi x)] [] (G, μ) := fun hz => by
      refine J_aload_n (i := 0) qX5_doByLot_117 rfl rfl ?_
      refine J_getR qX5_doByLot_118 fX5_21 (by assumption) (by assumption) ?_
      refine J_vv0 qX5_doByLot_121 kX5_272 (by assumption) (p_doNothing (d := d + 2) hp3 x2 h40) (Nat.le_of_ble_eq_true rfl) (fun ν hr => ?_)
      obtain ⟨g1, g2⟩ := hr
      refine Jv_ret qX5_doByLot_124 ?_
      show AbC ν 3 (lotC g.1 x) ∧ AbH ν 3 (lotC g.1 x) (g.2 ++ [g.1]) ∧ Fr μ ν (Ppg 3)
      rw [eL, if_neg hz]
      exact ⟨x1.fr g2 (fun c k => pdd_pcs), g1, g2.mono (fun c k z => Or.inr z)⟩
    refine J_iload_n (i := 1) qX5_doByLot_45 rfl rfl ?_
    refine J_pushI qX5_doByLot_46 ?_
    refine J_idiv qX5_doByLot_47 (by first | assumption | decide) ?_
    rw [pk_div (by omega) (by omega) (by omega)]
    refine J_pushI qX5_doByLot_48 ?_
    refine J_irem qX5_doByLot_50 (by first | assumption | decide) ?_
    rw [pk_rem (by omega) (by omega) (by omega)]
    refine J_pushI qX5_doByLot_51 ?_
    first | with_reducible refine J_isub_n qX5_doByLot_53 (by omega) ?_ | refine J_isub qX5_doByLot_53 ?_
    refine J_ist2 qX5_doByLot_54 (Nat.le_of_ble_eq_true rfl) rfl ?_
    refine J_iload_n (i := 2) qX5_doByLot_55 rfl rfl ?_
    refine J_iload_n (i := 1) qX5_doByLot_56 rfl rfl ?_
    refine J_pushI qX5_doByLot_57 ?_
    refine J_idiv qX5_doByLot_60 (by first | assumption | decide) ?_
    rw [pk_div (by omega) (by omega) (by omega)]
    refine J_pushI qX5_doByLot_61 ?_
    refine J_irem qX5_doByLot_62 (by first | assumption | decide) ?_
    rw [pk_rem (by omega) (by omega) (by omega)]
    first | with_reducible refine J_iadd_n qX5_doByLot_63 ?_ | refine J_iadd qX5_doByLot_63 ?_
    refine J_ist3 qX5_doByLot_64 (Nat.le_of_ble_eq_true rfl) rfl ?_
    refine J_aload_n (i := 0) qX5_doByLot_65 rfl rfl ?_
    refine J_getR qX5_doByLot_66 fX5_21 (by assumption) (by assumption) ?_
    refine J_getIe qX5_doByLot_69 fX5_135 (by assumption) (by (repeat first | with_reducible exact wI_e _ _ _ _ | (with_reducible apply rd_s; focus omega) | (with_reducible apply rd_c; focus omega) | (with_reducible apply rd_k; focus omega) | with_reducible exact rd_e (by omega)); first | done | assumption | rfl) ?_
    refine J_pushI qX5_doByLot_72 ?_
    first | with_reducible refine J_icmp_ge_n qX5_doByLot_74 (by omega) (by omega) (fun c2 => ?_) (fun c2 => ?_) | refine J_icmp_ge qX5_doByLot_74 (fun c2 => ?_) (fun c2 => ?_)
    · exact none (fun z => absurd z.1 (by omega))
    · refine J_aload_n (i := 0) qX5_doByLot_77 rfl rfl ?_
      refine J_getR qX5_doByLot_78 fX5_21 (by assumption) (by assumption) ?_
      refine J_iload_n (i := 2) qX5_doByLot_81 rfl rfl ?_
      refine J_iload_n (i := 3) qX5_doByLot_82 rfl rfl ?_
      refine J_vi2 qX5_doByLot_83 kX5_157 (by assumption) (p_isFree (d := d + 2) hp3 x1 (lotLo x) (lotHi x)) (Nat.le_of_ble_eq_true rfl) (fun v1 μ' hr => ?_)
      obtain ⟨rfl, rfl⟩ := hr
      cases hf : freeB g.1 (lotLo x) (lotHi x) with
      | false =>
        refine J_if_eq qX5_doByLot_86 (fun _ => ?_) (fun c => absurd b2i_f0 c)
        exact none (fun z => by rw [hf] at z; cases z.2)
      | true =>
        refine J_if_eq qX5_doByLot_86 (fun c => absurd c b2i_t0) (fun _ => ?_)
        refine J_aload_n (i := 0) qX5_doByLot_89 rfl rfl ?_
        refine J_getR qX5_doByLot_90 fX5_21 (by assumption) (by assumption) ?_
        refine J_iload_n (i := 2) qX5_doByLot_93 rfl rfl ?_
        refine J_iload_n (i := 3) qX5_doByLot_94 rfl rfl ?_
        refine J_iload_n (i := 1) qX5_doByLot_95 rfl rfl ?_
        refine J_pushI qX5_doByLot_96 ?_
        refine J_idiv qX5_doByLot_98 (by first | assumption | decide) ?_
        rw [pk_div (by omega) (by omega) (by omega)]
        refine J_pushI qX5_doByLot_99 ?_
        refine J_irem qX5_doByLot_101 (by first | assumption | decide) ?_
        rw [pk_rem (by omega) (by omega) (by omega)]
        refine J_iload_n (i := 1) qX5_doByLot_102 rfl rfl ?_
        refine J_pushI qX5_doByLot_103 ?_
        refine J_idiv qX5_doByLot_106 (by first | assumption | decide) ?_
        rw [pk_div (by omega) (by omega) (by omega)]
        refine J_pushI qX5_doByLot_107 ?_
        refine J_irem qX5_doByLot_109 (by first | assumption | decide) ?_
        rw [pk_rem (by omega) (by omega) (by omega)]
        refine J_vi4 qX5_doByLot_110 kX5_163 (by assumption) (p_addCase (d := d) hp3 x1 x2 (lotLo x) (lotHi x) (x / 16 % 8) (x / 128 % 10) c2 h40) (Nat.le_of_ble_eq_true rfl) (fun v1 ν hr => ?_)
        obtain ⟨-, g1, g2, g3⟩ := hr
        refine J_pop qX5_doByLot_113 rfl ?_
        refine J_goto qX5_doByLot_114 ?_
        refine Jv_ret qX5_doByLot_124 ?_
        show AbC ν 3 (lotC g.1 x) ∧ AbH ν 3 (lotC g.1 x) (g.2 ++ [g.1]) ∧ Fr μ ν (Ppg 3)
        rw [eL, if_pos ⟨c2, hf⟩]
        exact ⟨g1, g2, g3⟩
  · have eL : lotC g.1 x = if g.1.length = 0 then g.1 else g.1.eraseIdx (x / 4 % g.1.length) := if_pos c1
    refine J_aload_n (i := 0) qX5_doByLot_6 rfl rfl ?_
    refine J_getR qX5_doByLot_7 fX5_21 (by assumption) (by assumption) ?_
    refine J_getIe qX5_doByLot_10 fX5_135 (by assumption) (by (repeat first | with_reducible exact wI_e _ _ _ _ | (with_reducible apply rd_s; focus omega) | (with_reducible apply rd_c; focus omega) | (with_reducible apply rd_k; focus omega) | with_reducible exact rd_e (by omega)); first | done | assumption | rfl) ?_
    refine J_if_ne_n qX5_doByLot_13 (by omega) (fun c2 => ?_) (fun c2 => ?_)
    · have hne : ¬ nI g.1.length = 0 := nI_ne0 (by omega) (by omega)
      refine J_aload_n (i := 0) qX5_doByLot_26 rfl rfl ?_
      refine J_getR qX5_doByLot_27 fX5_21 (by assumption) (by assumption) ?_
      refine J_iload_n (i := 1) qX5_doByLot_30 rfl rfl ?_
      refine J_pushI qX5_doByLot_31 ?_
      refine J_idiv qX5_doByLot_32 (by first | assumption | decide) ?_
      rw [pk_div (by omega) (by omega) (by omega)]
      refine J_aload_n (i := 0) qX5_doByLot_33 rfl rfl ?_
      refine J_getR qX5_doByLot_34 fX5_21 (by assumption) (by assumption) ?_
      refine J_getIe qX5_doByLot_37 fX5_135 (by assumption) (by (repeat first | with_reducible exact wI_e _ _ _ _ | (with_reducible apply rd_s; focus omega) | (with_reducible apply rd_c; focus omega) | (with_reducible apply rd_k; focus omega) | with_reducible exact rd_e (by omega)); first | done | assumption | rfl) ?_
      refine J_irem qX5_doByLot_40 (by first | assumption | decide) ?_
      rw [pk_rem (by omega) (by omega) (by omega)]
      have hi : x / 4 % g.1.length < g.1.length := Nat.mod_lt _ (by omega)
      refine J_vv1 qX5_doByLot_41 kX5_167 (by assumption) (p_cutCase (d := d) hp3 x1 x3.1 x2 h40 hi) (Nat.le_of_ble_eq_true rfl) (fun ν hr => ?_)
      obtain ⟨g1, g2, g3⟩ := hr
      refine Jv_ret qX5_doByLot_44 ?_
      show AbC ν 3 (lotC g.1 x) ∧ AbH ν 3 (lotC g.1 x) (g.2 ++ [g.1]) ∧ Fr μ ν (Ppg 3)
      rw [eL, if_neg c2]
      exact ⟨g1, g2, g3⟩
    · refine J_aload_n (i := 0) qX5_doByLot_16 rfl rfl ?_
      refine J_getR qX5_doByLot_17 fX5_21 (by assumption) (by assumption) ?_
      refine J_vv0 qX5_doByLot_20 kX5_272 (by assumption) (p_doNothing (d := d + 2) hp3 x2 h40) (Nat.le_of_ble_eq_true rfl) (fun ν hr => ?_)
      obtain ⟨g1, g2⟩ := hr
      refine J_goto qX5_doByLot_23 ?_
      refine Jv_ret qX5_doByLot_44 ?_
      show AbC ν 3 (lotC g.1 x) ∧ AbH ν 3 (lotC g.1 x) (g.2 ++ [g.1]) ∧ Fr μ ν (Ppg 3)
      rw [eL, if_pos c2]
      exact ⟨x1.fr g2 (fun c k => pdd_pcs), g1, g2.mono (fun c k z => Or.inr z)⟩
theorem x_lots (hL : LayX G) (h : RelX μ s) (n sd : Int32) : Si mX5_lots (d+4) [.ref 0, .int n, .int sd] G μ (fun q μ' => q = (lotsS s n sd).1 ∧ RelX μ' (lotsS s n sd).2 ∧ FrX μ μ') := by
  have hL0 := hL
  obtain ⟨hO, ⟨q0, q1, q2, q3, q4, q5, q6, q7, q8, q9, q10⟩, -, -, -, -, hp3, -⟩ := hL
  have hpo := hp3.1
  obtain ⟨x1, x2, x3, x4⟩ := h.2.2.1
  have m2 := x2.1
  have k3 := x3.2.2.1
  have bad : (n < nI 1 ∨ nI 20 < n ∨ sd < nI 1 ∨ nI 2147483647 ≤ sd) → J mX5_lots (d+4) (0, 0) s0 (Ki G (fun q μ' => q = (lotsS s n sd).1 ∧ RelX μ' (lotsS s n sd).2 ∧ FrX μ μ')) (0, 0) 23 [.ref 0, .int n, .int sd, .null, .null] [] (G, μ) := fun hz => by
    rw [show lotsS s n sd = (-1, s) from if_pos hz]
    refine J_pushI qX5_lots_23 ?_
    refine Ji_ret qX5_lots_24 ?_
    exact ⟨rfl, h, FrX.rf⟩
  refine Si_of (ls := [.ref 0, .int n, .int sd, .null, .null]) (by decide +kernel) (Nat.le_of_ble_eq_true rfl) rfl ?_
  refine J_iload_n (i := 1) qX5_lots_0 rfl rfl ?_
  refine J_pushI qX5_lots_1 ?_
  refine J_icmp_lt qX5_lots_2 (fun c1 => bad (Or.inl c1)) (fun c1 => ?_)
  refine J_iload_n (i := 1) qX5_lots_5 rfl rfl ?_
  refine J_pushI qX5_lots_6 ?_
  refine J_icmp_gt qX5_lots_8 (fun c2 => bad (Or.inr (Or.inl c2))) (fun c2 => ?_)
  refine J_iload_n (i := 2) qX5_lots_11 rfl rfl ?_
  refine J_pushI qX5_lots_12 ?_
  refine J_icmp_lt qX5_lots_13 (fun c3 => bad (Or.inr (Or.inr (Or.inl c3)))) (fun c3 => ?_)
  refine J_iload_n (i := 2) qX5_lots_16 rfl rfl ?_
  refine J_ldcw (i := 264) (v := nI 2147483647) ⟨by decide +kernel, rfl⟩ (lw_at 789 (by decide +kernel) rfl) ?_
  refine J_icmp_lt qX5_lots_20 (fun c4 => ?_) (fun c4 => bad (Or.inr (Or.inr (Or.inr (i32_nlt c4)))))
  clear bad
  have eL : lotsS s n sd = if 40 < (sP s).2.length + ix n then (-2, s) else (nI (lotN (sP s) (ix sd) (ix n)).1.1.length, uPrg s (lotN (sP s) (ix sd) (ix n)).1) := if_neg (fun z => by
    rcases z with z | z | z | z
    · exact c1 z
    · exact c2 z
    · exact c3 z
    · exact absurd c4 (Int32.not_lt.mpr z))
  obtain ⟨m, hm1, hm20, rfl⟩ : ∃ m, 1 ≤ m ∧ m ≤ 20 ∧ n = nI m := by
    rw [Int32.lt_iff_toInt_lt, nI_toInt (by omega)] at c1 c2
    exact ⟨n.toInt.toNat, by omega, by omega, i32_inj (by rw [nI_toInt (by omega)]; omega)⟩
  obtain ⟨x, hx1, hx2, rfl⟩ : ∃ x, 1 ≤ x ∧ x < 2147483647 ∧ sd = nI x := by
    rw [Int32.lt_iff_toInt_lt, nI_toInt (by omega)] at c3 c4
    exact ⟨sd.toInt.toNat, by omega, by omega, i32_inj (by rw [nI_toInt (by omega)]; omega)⟩
  rw [ix_n (by omega), ix_n (by omega)] at eL
  refine J_aload_n (i := 0) qX5_lots_25 rfl rfl ?_
  refine J_getR qX5_lots_26 fX5_21 (by assumption) (by assumption) ?_
  refine J_getIe qX5_lots_29 fX5_160 (by assumption) (by (repeat first | with_reducible exact wI_e _ _ _ _ | (with_reducible apply rd_s; focus omega) | (with_reducible apply rd_c; focus omega) | (with_reducible apply rd_k; focus omega) | with_reducible exact rd_e (by omega)); first | done | assumption | rfl) ?_
  refine J_iload_n (i := 1) qX5_lots_32 rfl rfl ?_
  first | with_reducible refine J_iadd_n qX5_lots_33 ?_ | refine J_iadd qX5_lots_33 ?_
  refine J_pushI qX5_lots_34 ?_
  first | with_reducible refine J_icmp_le_n qX5_lots_36 (by omega) (by omega) (fun c5 => ?_) (fun c5 => ?_) | refine J_icmp_le qX5_lots_36 (fun c5 => ?_) (fun c5 => ?_)
  · rw [if_neg (by omega)] at eL
    refine J_iload_n (i := 2) qX5_lots_42 rfl rfl ?_
    refine J_ist3 qX5_lots_43 (Nat.le_of_ble_eq_true rfl) rfl ?_
    refine J_pushI qX5_lots_44 ?_
    refine J_ist4 qX5_lots_45 (Nat.le_of_ble_eq_true rfl) rfl ?_
    have H : ∀ k, k ≤ m → ∀ ν : Mm, Fr μ ν (Ppg 3) → AbC ν 3 (lotN (sP s) x k).1.1 → AbH ν 3 (lotN (sP s) x k).1.1 (lotN (sP s) x k).1.2 → J mX5_lots (d+4) (0, 0) s0 (Ki G (fun q μ' => q = (lotsS s (nI m) (nI x)).1 ∧ RelX μ' (lotsS s (nI m) (nI x)).2 ∧ FrX μ μ')) (0, 0) 47 [.ref 0, .int (nI m), .int (nI x), .int (nI (lotN (sP s) x k).2), .int (nI k)] [] (G, ν) := by
      refine ind_up (fun k hk ih ν hF hC hH => ?_)
      obtain ⟨o1, o2, o3⟩ := lotN_at x3 hx2 k (by omega)
      refine J_iload (i := 4) qX5_lots_47 rfl ?_
      refine J_iload_n (i := 1) qX5_lots_49 rfl rfl ?_
      first | with_reducible refine J_icmp_ge_n qX5_lots_50 (by omega) (by omega) (fun c6 => ?_) (fun c6 => ?_) | refine J_icmp_ge qX5_lots_50 (fun c6 => ?_) (fun c6 => ?_)
      · have ek : k = m := by omega
        subst ek
        have e4 := hC.1
        refine J_aload_n (i := 0) qX5_lots_76 rfl rfl ?_
        refine J_pushI qX5_lots_77 ?_
        refine J_putI qX5_lots_78 fX5_64p (by assumption) rfl rfl ?_
        refine J_aload_n (i := 0) qX5_lots_81 rfl rfl ?_
        refine J_getR qX5_lots_82 fX5_21 (by assumption) (by assumption) ?_
        refine J_getIe qX5_lots_85 fX5_135 (by assumption) (by (repeat first | with_reducible exact wI_e _ _ _ _ | (with_reducible apply rd_s; focus omega) | (with_reducible apply rd_c; focus omega) | (with_reducible apply rd_k; focus omega) | with_reducible exact rd_e (by omega)); first | done | assumption | rfl) ?_
        refine Ji_ret qX5_lots_88 ?_
        rw [eL]
        exact ⟨rfl, h.prog1 hF hC hH o1⟩
      · refine J_pushL qX5_lots_53 ?_
        refine J_iload_n (i := 3) qX5_lots_56 rfl rfl ?_
        refine J_i2l qX5_lots_57 ?_
        rw [nI_l (by omega)]
        refine J_lmul qX5_lots_58 ?_
        rw [lN_mul]
        refine J_pushL qX5_lots_59 ?_
        refine J_lrem qX5_lots_62 (by first | assumption | decide) ?_
        rw [pk_lRem (by omega) (by omega) (by omega)]
        refine J_l2i qX5_lots_63 ?_
        rw [lN_i]
        refine J_ist3 qX5_lots_64 (Nat.le_of_ble_eq_true rfl) rfl ?_
        refine J_aload_n (i := 0) qX5_lots_65 rfl rfl ?_
        refine J_iload_n (i := 3) qX5_lots_66 rfl rfl ?_
        refine J_vv1 qX5_lots_67 kX5_269 (by assumption) (x_doByLot (d := d) hL0 hC hH o1 (by omega) (nxL_lt (lotN (sP s) x k).2)) (Nat.le_of_ble_eq_true rfl) (fun ν1 hr => ?_)
        obtain ⟨g1, g2, g3⟩ := hr
        refine J_inc4 qX5_lots_70 (Nat.le_of_ble_eq_true rfl) (by first | with_reducible exact nI_inc _ | rfl) rfl ?_
        refine J_goto qX5_lots_73 ?_
        exact ih c6 ν1 (hF.tr g3) g1 g2
    exact H 0 (Nat.zero_le _) μ Fr.rf x1 x2
  · rw [eL, if_pos (by omega)]
    refine J_pushI qX5_lots_39 ?_
    refine Ji_ret qX5_lots_41 ?_
    exact ⟨rfl, h, FrX.rf⟩
theorem x_asked (hL : LayX G) (h : RelX μ s) : Si mX5_asked (d) [.ref 0] G μ (fun q μ' => q = sAk s ∧ RelX μ' s ∧ FrX μ μ') := by
  have hO := hL.1
  have e := h.2.2.2.2.1.1
  refine Si_of (ls := [.ref 0]) (by decide +kernel) (Nat.le_of_ble_eq_true rfl) rfl ?_
  refine J_aload_n (i := 0) qX5_asked_0 rfl rfl ?_
  refine J_getIe qX5_asked_1 fX5_68 (by assumption) (by (repeat first | with_reducible exact wI_e _ _ _ _ | (with_reducible apply rd_s; focus omega) | (with_reducible apply rd_c; focus omega) | (with_reducible apply rd_k; focus omega) | with_reducible exact rd_e (by omega)); first | done | assumption | rfl) ?_
  refine Ji_ret qX5_asked_4 ?_
  exact ⟨rfl, h, FrX.rf⟩
theorem x_mask0 (hL : LayX G) (h : RelX μ s) : Sl mX5_mask0 (d) [.ref 0] G μ (fun q μ' => q = sMk s ∧ RelX μ' s ∧ FrX μ μ') := by
  have hO := hL.1
  have e := h.2.2.2.2.1.2.1
  refine Sl_of (ls := [.ref 0]) (by decide +kernel) (Nat.le_of_ble_eq_true rfl) rfl ?_
  refine J_aload_n (i := 0) qX5_mask0_0 rfl rfl ?_
  refine J_getLe qX5_mask0_1 fX5_72 (by assumption) (by (repeat first | with_reducible exact wL_e _ _ _ _ | with_reducible apply rdl_i | (with_reducible apply rdl_s; focus omega) | (with_reducible apply rdl_k; focus omega)); first | done | assumption | rfl) ?_
  refine Jl_ret qX5_mask0_4 ?_
  exact ⟨rfl, h, FrX.rf⟩
theorem x_finding (hL : LayX G) (h : RelX μ s) : Si mX5_finding (d) [.ref 0] G μ (fun q μ' => q = sLt s ∧ RelX μ' s ∧ FrX μ μ') := by
  have hO := hL.1
  have e := h.2.2.2.2.1.2.2.1
  refine Si_of (ls := [.ref 0]) (by decide +kernel) (Nat.le_of_ble_eq_true rfl) rfl ?_
  refine J_aload_n (i := 0) qX5_finding_0 rfl rfl ?_
  refine J_getIe qX5_finding_1 fX5_76 (by assumption) (by (repeat first | with_reducible exact wI_e _ _ _ _ | (with_reducible apply rd_s; focus omega) | (with_reducible apply rd_c; focus omega) | (with_reducible apply rd_k; focus omega) | with_reducible exact rd_e (by omega)); first | done | assumption | rfl) ?_
  refine Ji_ret qX5_finding_4 ?_
  exact ⟨rfl, h, FrX.rf⟩
theorem x_findings (hL : LayX G) (h : RelX μ s) (f : Int32) : Si mX5_findings (d) [.ref 0, .int f] G μ (fun q μ' => q = (findingsS s f).1 ∧ RelX μ' (findingsS s f).2 ∧ FrX μ μ') := by
  obtain ⟨hO, ⟨q0, q1, q2, q3, q4, q5, q6, q7, q8, q9, q10⟩, ⟨a1, a2, a3, a4, a5⟩, -⟩ := hL
  have bad : (f < nI 1 ∨ nI 5 < f) → J mX5_findings (d) (0, 0) s0 (Ki G (fun q μ' => q = (findingsS s f).1 ∧ RelX μ' (findingsS s f).2 ∧ FrX μ μ')) (0, 0) 10 [.ref 0, .int f] [] (G, μ) := fun hz => by
    rw [show findingsS s f = (-1, s) from if_pos hz]
    refine J_pushI qX5_findings_10 ?_
    refine Ji_ret qX5_findings_11 ?_
    exact ⟨rfl, h, FrX.rf⟩
  refine Si_of (ls := [.ref 0, .int f]) (by decide +kernel) (Nat.le_of_ble_eq_true rfl) rfl ?_
  refine J_iload_n (i := 1) qX5_findings_0 rfl rfl ?_
  refine J_pushI qX5_findings_1 ?_
  refine J_icmp_lt qX5_findings_2 (fun c1 => bad (Or.inl c1)) (fun c1 => ?_)
  refine J_iload_n (i := 1) qX5_findings_5 rfl rfl ?_
  refine J_pushI qX5_findings_6 ?_
  refine J_icmp_le qX5_findings_7 (fun c2 => ?_) (fun c2 => bad (Or.inr (i32_nle c2)))
  clear bad
  have eL : findingsS s f = (sTm s (ix f), s) := if_neg (fun z => z.elim c1 (fun y => absurd c2 (Int32.not_le.mpr y)))
  rw [eL]
  obtain ⟨m, hm1, hm20, rfl⟩ : ∃ m, 1 ≤ m ∧ m ≤ 5 ∧ f = nI m := by
    rw [Int32.lt_iff_toInt_lt, nI_toInt (by omega)] at c1
    rw [Int32.le_iff_toInt_le, nI_toInt (by omega)] at c2
    exact ⟨f.toInt.toNat, by omega, by omega, i32_inj (by rw [nI_toInt (by omega)]; omega)⟩
  have e := h.2.2.2.2.1.2.2.2 m (by omega)
  rw [ix_n (by omega)]
  refine J_aload_n (i := 0) qX5_findings_12 rfl rfl ?_
  refine J_getR qX5_findings_13 fX5_60 (by assumption) (by assumption) ?_
  refine J_iload_n (i := 1) qX5_findings_16 rfl rfl ?_
  refine J_ialde qX5_findings_17 (by assumption) rfl (by omega) (by (repeat first | with_reducible exact wI_e _ _ _ _ | (with_reducible apply rd_s; focus omega) | (with_reducible apply rd_c; focus omega) | (with_reducible apply rd_k; focus omega) | with_reducible exact rd_e (by omega)); first | done | assumption | rfl) ?_
  refine Ji_ret qX5_findings_18 ?_
  exact ⟨rfl, h, FrX.rf⟩
theorem x_there {a c0 n N : Nat} {f : Nat → Rw} (hA : IsA G a 13 n) (hr : ∀ r, r < n → RF G a r (c0 + 2 * r) ∧ IsS G (c0 + 2 * r) N) (hN : N ≤ 120) (hn : n ≤ 6) (hs : ∀ r, r < n → AbS μ (c0 + 2 * r) N (f r)) : Si mX5_howManyAreThere (d+1) [.ref a] G μ (fun q μ' => μ = μ' ∧ q = nI (thrF f n)) := by
  refine Si_of (ls := [.ref a, .null, .null]) (by decide +kernel) (Nat.le_of_ble_eq_true rfl) rfl ?_
  refine J_pushI qX5_howManyAreThere_0 ?_
  refine J_ist1 qX5_howManyAreThere_1 (Nat.le_of_ble_eq_true rfl) rfl ?_
  refine J_pushI qX5_howManyAreThere_2 ?_
  refine J_ist2 qX5_howManyAreThere_3 (Nat.le_of_ble_eq_true rfl) rfl ?_
  have H : ∀ k, k ≤ n → J mX5_howManyAreThere (d+1) (0, 0) s0 (Ki G (fun q μ' => μ = μ' ∧ q = nI (thrF f n))) (0, 0) 4 [.ref a, .int (nI (thrF f k)), .int (nI k)] [] (G, μ) := by
    refine ind_up (fun k hk ih => ?_)
    refine J_iload_n (i := 2) qX5_howManyAreThere_4 rfl rfl ?_
    refine J_aload_n (i := 0) qX5_howManyAreThere_5 rfl rfl ?_
    refine J_alen qX5_howManyAreThere_6 (by assumption) (by decide) (by decide) ?_
    first | with_reducible refine J_icmp_ge_n qX5_howManyAreThere_7 (by omega) (by omega) (fun c1 => ?_) (fun c1 => ?_) | refine J_icmp_ge qX5_howManyAreThere_7 (fun c1 => ?_) (fun c1 => ?_)
    · refine J_iload_n (i := 1) qX5_howManyAreThere_28 rfl rfl ?_
      refine Ji_ret qX5_howManyAreThere_29 ?_
      exact ⟨rfl, by rw [show n = k by omega]⟩
    · obtain ⟨w1, w2⟩ := hr k c1
      have w3 := w2.1
      have h3 := ih c1
      rw [thrF_succ] at h3
      refine J_aload_n (i := 0) qX5_howManyAreThere_10 rfl rfl ?_
      refine J_iload_n (i := 2) qX5_howManyAreThere_11 rfl rfl ?_
      refine J_aald qX5_howManyAreThere_12 (by assumption) (by decide) (by decide) rfl (by omega) (by first | assumption | exact (by assumption : ∀ _, _) _ (by omega)) ?_
      refine J_vi0 qX5_howManyAreThere_13 kX5_94 (by assumption) (s_isMissing (d := d) w2 (by omega) (hs k c1)) (Nat.le_of_ble_eq_true rfl) (fun v1 μ' hr => ?_)
      obtain ⟨rfl, rfl⟩ := hr
      cases hm : (f k).isNone with
      | true =>
        first | refine J_if_ne qX5_howManyAreThere_16 (fun c => absurd b2i_f0 c) (fun _ => ?_) | refine J_if_ne qX5_howManyAreThere_16 (fun _ => ?_) (fun c => absurd c b2i_t0)
        rw [hm, if_pos rfl] at h3
        refine J_inc2 qX5_howManyAreThere_22 (Nat.le_of_ble_eq_true rfl) (by first | with_reducible exact nI_inc _ | rfl) rfl ?_
        refine J_goto qX5_howManyAreThere_25 ?_
        exact h3
      | false =>
        first | refine J_if_ne qX5_howManyAreThere_16 (fun c => absurd b2i_f0 c) (fun _ => ?_) | refine J_if_ne qX5_howManyAreThere_16 (fun _ => ?_) (fun c => absurd c b2i_t0)
        rw [hm, if_neg (by decide)] at h3
        refine J_inc1 qX5_howManyAreThere_19 (Nat.le_of_ble_eq_true rfl) (by first | with_reducible exact nI_inc _ | rfl) rfl ?_
        refine J_inc2 qX5_howManyAreThere_22 (Nat.le_of_ble_eq_true rfl) (by first | with_reducible exact nI_inc _ | rfl) rfl ?_
        refine J_goto qX5_howManyAreThere_25 ?_
        exact h3
  exact H 0 (Nat.zero_le _)
theorem x_kept (hL : LayX G) (h : RelX μ s) : Si mX5_howManyAreKept (d) [.ref 0] G μ (fun q μ' => μ = μ' ∧ q = nI (kptF (sKp s) 3)) := by
  obtain ⟨hO, ⟨q0, q1, q2, q3, q4, q5, q6, q7, q8, q9, q10⟩, ⟨a1, a2, a3, a4, a5⟩, -⟩ := hL
  refine Si_of (ls := [.ref 0, .null, .null]) (by decide +kernel) (Nat.le_of_ble_eq_true rfl) rfl ?_
  refine J_pushI qX5_howManyAreKept_0 ?_
  refine J_ist1 qX5_howManyAreKept_1 (Nat.le_of_ble_eq_true rfl) rfl ?_
  refine J_pushI qX5_howManyAreKept_2 ?_
  refine J_ist2 qX5_howManyAreKept_3 (Nat.le_of_ble_eq_true rfl) rfl ?_
  have H : ∀ k, k ≤ 3 → J mX5_howManyAreKept (d) (0, 0) s0 (Ki G (fun q μ' => μ = μ' ∧ q = nI (kptF (sKp s) 3))) (0, 0) 4 [.ref 0, .int (nI (kptF (sKp s) k)), .int (nI k)] [] (G, μ) := by
    refine ind_up (fun k hk ih => ?_)
    refine J_iload_n (i := 2) qX5_howManyAreKept_4 rfl rfl ?_
    refine J_pushI qX5_howManyAreKept_5 ?_
    first | with_reducible refine J_icmp_ge_n qX5_howManyAreKept_6 (by omega) (by omega) (fun c1 => ?_) (fun c1 => ?_) | refine J_icmp_ge qX5_howManyAreKept_6 (fun c1 => ?_) (fun c1 => ?_)
    · refine J_iload_n (i := 1) qX5_howManyAreKept_27 rfl rfl ?_
      refine Ji_ret qX5_howManyAreKept_28 ?_
      exact ⟨rfl, by rw [show 3 = k by omega]⟩
    · have hK := h.2.2.2.1 k c1
      have h3 := ih c1
      rw [kptF_succ (sKp s) k] at h3
      refine J_aload_n (i := 0) qX5_howManyAreKept_9 rfl rfl ?_
      refine J_getR qX5_howManyAreKept_10 fX5_29 (by assumption) (by assumption) ?_
      refine J_iload_n (i := 2) qX5_howManyAreKept_13 rfl rfl ?_
      refine J_zald qX5_howManyAreKept_14 (by assumption) rfl (by omega) ?_
      cases hm : sKp s k with
      | none =>
        rw [hm] at hK h3
        rw [show μ.1 15 k = nI 0 from hK]
        refine J_if_eq qX5_howManyAreKept_15 (fun _ => ?_) (fun c => absurd rfl c)
        rw [if_pos (show (none : Option Pg).isNone = true from rfl)] at h3
        refine J_inc2 qX5_howManyAreKept_21 (Nat.le_of_ble_eq_true rfl) (by first | with_reducible exact nI_inc _ | rfl) rfl ?_
        refine J_goto qX5_howManyAreKept_24 ?_
        exact h3
      | some g =>
        rw [hm] at hK h3
        rw [show μ.1 15 k = nI 1 from hK.1]
        refine J_if_eq qX5_howManyAreKept_15 (fun c => absurd c (by decide)) (fun _ => ?_)
        rw [if_neg (show ¬ (some g).isNone = true from Bool.false_ne_true)] at h3
        refine J_inc1 qX5_howManyAreKept_18 (Nat.le_of_ble_eq_true rfl) (by first | with_reducible exact nI_inc _ | rfl) rfl ?_
        refine J_inc2 qX5_howManyAreKept_21 (Nat.le_of_ble_eq_true rfl) (by first | with_reducible exact nI_inc _ | rfl) rfl ?_
        refine J_goto qX5_howManyAreKept_24 ?_
        exact h3
  exact H 0 (Nat.zero_le _)
theorem x_count (hL : LayX G) (h : RelX μ s) (w : Int32) : Si mX5_count (d+15) [.ref 0, .int w] G μ (fun q μ' => q = (countS s w).1 ∧ RelX μ' (countS s w).2 ∧ FrX μ μ' ∧ (hasB 12 w = true → AbPl μ' 32 (sP s).1 true true)) := by
  have hL0 := hL
  obtain ⟨hO, ⟨q0, q1, q2, q3, q4, q5, q6, q7, q8, q9, q10⟩, ⟨a1, a2, a3, a4, a5⟩, hrw, htx, hkp, hp3, -, -, -, hpl, -⟩ := hL
  have hpo := hp3.1
  have hplO := hpl.1
  have bad : hasB 12 w = false → J mX5_count (d+15) (0, 0) s0 (Ki G (fun q μ' => q = (countS s w).1 ∧ RelX μ' (countS s w).2 ∧ FrX μ μ' ∧ (hasB 12 w = true → AbPl μ' 32 (sP s).1 true true))) (0, 0) 10 [.ref 0, .int w] [] (G, μ) := fun hz => by
    rw [show countS s w = (-1, s) from if_pos hz]
    refine J_pushI qX5_count_10 ?_
    refine Ji_ret qX5_count_11 ?_
    exact ⟨rfl, h, FrX.rf, fun y => by rw [hz] at y; cases y⟩
  refine Si_of (ls := [.ref 0, .int w]) (by decide +kernel) (Nat.le_of_ble_eq_true rfl) rfl ?_
  refine J_iload_n (i := 1) qX5_count_0 rfl rfl ?_
  refine J_if_lt qX5_count_1 (fun c1 => bad (decide_eq_false (fun q => absurd q.1 (Int32.not_le.mpr c1)))) (fun c1 => ?_)
  refine J_iload_n (i := 1) qX5_count_4 rfl rfl ?_
  refine J_pushI qX5_count_5 ?_
  refine J_icmp_lt qX5_count_7 (fun c2 => ?_) (fun c2 => bad (decide_eq_false (fun q => absurd q.2 c2)))
  clear bad
  have hb : hasB 12 w = true := decide_eq_true ⟨i32_nlt c1, c2⟩
  rw [show countS s w = (cntV s (ix w), s) from if_neg (by rw [hb]; decide)]
  obtain ⟨e, he, rfl⟩ := hasB_of (by omega) hb
  rw [ix_n (by omega)]
  refine J_aload_n (i := 0) qX5_count_12 rfl rfl ?_
  refine J_vv0 qX5_count_13 kX5_191 (by assumption) (x_renew (d := d) hL0 h) (Nat.le_of_ble_eq_true rfl) (fun ν hr => ?_)
  obtain ⟨h', hF, hA⟩ := hr
  obtain ⟨x1, x2, x3, x4⟩ := h'.2.2.1
  have k2 := x3.2.1
  have pl12 := prt_len (cs := (sP s).1) true true k2
  have y1 := x1.1
  have y2 := x2.1
  have y3 := hA.2.1
  refine J_iload_n (i := 1) qX5_count_16 rfl rfl ?_
  match e, he with
  | 0, _ =>
    refine J_tabIn (tgt := 76) qX5_count_17 (by decide) (by decide) rfl (by decide) ?_
    refine J_aload_n (i := 0) qX5_count_76 rfl rfl ?_
    refine J_getR qX5_count_77 fX5_21 (by assumption) (by assumption) ?_
    refine J_getIe qX5_count_80 fX5_135 (by assumption) (by (repeat first | with_reducible exact wI_e _ _ _ _ | (with_reducible apply rd_s; focus omega) | (with_reducible apply rd_c; focus omega) | (with_reducible apply rd_k; focus omega) | with_reducible exact rd_e (by omega)); first | done | assumption | rfl) ?_
    refine Ji_ret qX5_count_83 ?_
    exact ⟨rfl, h', hF, fun _ => hA⟩
  | 1, _ =>
    refine J_tabIn (tgt := 84) qX5_count_17 (by decide) (by decide) rfl (by decide) ?_
    refine J_aload_n (i := 0) qX5_count_84 rfl rfl ?_
    refine J_getR qX5_count_85 fX5_53 (by assumption) (by assumption) ?_
    refine J_getIe qX5_count_88 fX5_244 (by assumption) (by (repeat first | with_reducible exact wI_e _ _ _ _ | (with_reducible apply rd_s; focus omega) | (with_reducible apply rd_c; focus omega) | (with_reducible apply rd_k; focus omega) | with_reducible exact rd_e (by omega)); first | done | assumption | rfl) ?_
    refine Ji_ret qX5_count_91 ?_
    exact ⟨rfl, h', hF, fun _ => hA⟩
  | 2, _ =>
    refine J_tabIn (tgt := 92) qX5_count_17 (by decide) (by decide) rfl (by decide) ?_
    refine J_aload_n (i := 0) qX5_count_92 rfl rfl ?_
    refine J_getR qX5_count_93 fX5_53 (by assumption) (by assumption) ?_
    refine J_getIe qX5_count_96 fX5_244 (by assumption) (by (repeat first | with_reducible exact wI_e _ _ _ _ | (with_reducible apply rd_s; focus omega) | (with_reducible apply rd_c; focus omega) | (with_reducible apply rd_k; focus omega) | with_reducible exact rd_e (by omega)); first | done | assumption | rfl) ?_
    refine J_pushI qX5_count_99 ?_
    refine J_isub qX5_count_100 ?_
    refine J_pushI qX5_count_101 ?_
    refine J_mmax qX5_count_102 kX5_253 (Nat.le_of_ble_eq_true rfl) ?_
    refine Ji_ret qX5_count_105 ?_
    refine ⟨?_, h', hF, fun _ => hA⟩
    show (if nI (prtF (sP s).1 true true).length - nI 1 < nI 0 then nI 0 else nI (prtF (sP s).1 true true).length - nI 1) = nI ((prtF (sP s).1 true true).length - 1)
    by_cases c0 : (prtF (sP s).1 true true).length = 0
    · rw [c0]; decide
    · obtain ⟨m, hm⟩ : ∃ m, (prtF (sP s).1 true true).length = m + 1 := ⟨(prtF (sP s).1 true true).length - 1, by omega⟩
      rw [hm, subl, show lv (m + 1) = nI m from rfl, if_neg (show ¬ nI m < nI 0 from nI_pos (by omega))]
      rfl
  | 3, _ =>
    have hjz : ∀ k, k ≤ (sP s).1.length → (nI (sP s).1.length - nI 1 < nI k ↔ 0 + (sP s).1.length ≤ k) := fun k hk => by
      by_cases c0 : (sP s).1.length = 0
      · rw [c0]
        have : k = 0 := by omega
        rw [this]
        decide
      · obtain ⟨m, hm⟩ : ∃ m, (sP s).1.length = m + 1 := ⟨(sP s).1.length - 1, by omega⟩
        rw [hm, subl, show lv (m + 1) = nI m from rfl, nI_ltI (by omega) (by omega)]
        omega
    refine J_tabIn (tgt := 106) qX5_count_17 (by decide) (by decide) rfl (by decide) ?_
    refine J_aload_n (i := 0) qX5_count_106 rfl rfl ?_
    refine J_getR qX5_count_107 fX5_21 (by assumption) (by assumption) ?_
    refine J_pushI qX5_count_110 ?_
    refine J_aload_n (i := 0) qX5_count_111 rfl rfl ?_
    refine J_getR qX5_count_112 fX5_21 (by assumption) (by assumption) ?_
    refine J_getIe qX5_count_115 fX5_135 (by assumption) (by (repeat first | with_reducible exact wI_e _ _ _ _ | (with_reducible apply rd_s; focus omega) | (with_reducible apply rd_c; focus omega) | (with_reducible apply rd_k; focus omega) | with_reducible exact rd_e (by omega)); first | done | assumption | rfl) ?_
    refine J_pushI qX5_count_118 ?_
    refine J_isub qX5_count_119 ?_
    refine J_vi2 qX5_count_120 kX5_275 (by assumption) (p_weightIn (d := d + 14) hp3 x1 (i := 0) (m := (sP s).1.length) (by omega) hjz) (Nat.le_of_ble_eq_true rfl) (fun v1 μ' hr => ?_)
    obtain ⟨rfl, rfl⟩ := hr
    refine J_aload_n (i := 0) qX5_count_123 rfl rfl ?_
    refine J_getR qX5_count_124 fX5_21 (by assumption) (by assumption) ?_
    refine J_getIe qX5_count_127 fX5_238 (by assumption) (by (repeat first | with_reducible exact wI_e _ _ _ _ | (with_reducible apply rd_s; focus omega) | (with_reducible apply rd_c; focus omega) | (with_reducible apply rd_k; focus omega) | with_reducible exact rd_e (by omega)); first | done | assumption | rfl) ?_
    first | with_reducible refine J_iadd_n qX5_count_130 ?_ | refine J_iadd qX5_count_130 ?_
    refine Ji_ret qX5_count_131 ?_
    exact ⟨rfl, h', hF, fun _ => hA⟩
  | 4, _ =>
    refine J_tabIn (tgt := 132) qX5_count_17 (by decide) (by decide) rfl (by decide) ?_
    refine J_aload_n (i := 0) qX5_count_132 rfl rfl ?_
    refine J_getR qX5_count_133 fX5_53 (by assumption) (by assumption) ?_
    refine J_pushI qX5_count_136 ?_
    refine J_vi1 qX5_count_137 kX5_278 (by assumption) (l_partsOf (d := d + 13) hpl hA k2 1 (by omega)) (Nat.le_of_ble_eq_true rfl) (fun v1 μ' hr => ?_)
    obtain ⟨rfl, rfl⟩ := hr
    refine J_aload_n (i := 0) qX5_count_140 rfl rfl ?_
    refine J_getR qX5_count_141 fX5_53 (by assumption) (by assumption) ?_
    refine J_pushI qX5_count_144 ?_
    refine J_vi1 qX5_count_145 kX5_278 (by assumption) (l_partsOf (d := d + 13) hpl hA k2 4 (by omega)) (Nat.le_of_ble_eq_true rfl) (fun v1 μ' hr => ?_)
    obtain ⟨rfl, rfl⟩ := hr
    first | with_reducible refine J_iadd_n qX5_count_148 ?_ | refine J_iadd qX5_count_148 ?_
    refine Ji_ret qX5_count_149 ?_
    exact ⟨rfl, h', hF, fun _ => hA⟩
  | 5, _ =>
    refine J_tabIn (tgt := 150) qX5_count_17 (by decide) (by decide) rfl (by decide) ?_
    refine J_aload_n (i := 0) qX5_count_150 rfl rfl ?_
    refine J_getR qX5_count_151 fX5_53 (by assumption) (by assumption) ?_
    refine J_pushI qX5_count_154 ?_
    refine J_vi1 qX5_count_155 kX5_278 (by assumption) (l_partsOf (d := d + 13) hpl hA k2 2 (by omega)) (Nat.le_of_ble_eq_true rfl) (fun v1 μ' hr => ?_)
    obtain ⟨rfl, rfl⟩ := hr
    refine Ji_ret qX5_count_158 ?_
    exact ⟨rfl, h', hF, fun _ => hA⟩
  | 6, _ =>
    refine J_tabIn (tgt := 159) qX5_count_17 (by decide) (by decide) rfl (by decide) ?_
    refine J_aload_n (i := 0) qX5_count_159 rfl rfl ?_
    refine J_getR qX5_count_160 fX5_53 (by assumption) (by assumption) ?_
    refine J_pushI qX5_count_163 ?_
    refine J_vi1 qX5_count_164 kX5_278 (by assumption) (l_partsOf (d := d + 13) hpl hA k2 3 (by omega)) (Nat.le_of_ble_eq_true rfl) (fun v1 μ' hr => ?_)
    obtain ⟨rfl, rfl⟩ := hr
    refine Ji_ret qX5_count_167 ?_
    exact ⟨rfl, h', hF, fun _ => hA⟩
  | 7, _ =>
    refine J_tabIn (tgt := 168) qX5_count_17 (by decide) (by decide) rfl (by decide) ?_
    refine J_aload_n (i := 0) qX5_count_168 rfl rfl ?_
    refine J_getR qX5_count_169 fX5_21 (by assumption) (by assumption) ?_
    refine J_getIe qX5_count_172 fX5_238 (by assumption) (by (repeat first | with_reducible exact wI_e _ _ _ _ | (with_reducible apply rd_s; focus omega) | (with_reducible apply rd_c; focus omega) | (with_reducible apply rd_k; focus omega) | with_reducible exact rd_e (by omega)); first | done | assumption | rfl) ?_
    refine Ji_ret qX5_count_175 ?_
    exact ⟨rfl, h', hF, fun _ => hA⟩
  | 8, _ =>
    refine J_tabIn (tgt := 176) qX5_count_17 (by decide) (by decide) rfl (by decide) ?_
    refine J_aload_n (i := 0) qX5_count_176 rfl rfl ?_
    refine J_getR qX5_count_177 fX5_21 (by assumption) (by assumption) ?_
    refine J_getIe qX5_count_180 fX5_160 (by assumption) (by (repeat first | with_reducible exact wI_e _ _ _ _ | (with_reducible apply rd_s; focus omega) | (with_reducible apply rd_c; focus omega) | (with_reducible apply rd_k; focus omega) | with_reducible exact rd_e (by omega)); first | done | assumption | rfl) ?_
    refine Ji_ret qX5_count_183 ?_
    exact ⟨rfl, h', hF, fun _ => hA⟩
  | 9, _ =>
    refine J_tabIn (tgt := 184) qX5_count_17 (by decide) (by decide) rfl (by decide) ?_
    refine J_aload_n (i := 0) qX5_count_184 rfl rfl ?_
    refine J_getR qX5_count_185 fX5_11 (by assumption) (by assumption) ?_
    refine J_si1 qX5_count_188 kX5_281 (x_there (d := d + 13) a1 hrw (by omega) (by omega) h'.1) (Nat.le_of_ble_eq_true rfl) (fun v1 μ' hr => ?_)
    obtain ⟨rfl, rfl⟩ := hr
    refine Ji_ret qX5_count_191 ?_
    exact ⟨rfl, h', hF, fun _ => hA⟩
  | 10, _ =>
    refine J_tabIn (tgt := 192) qX5_count_17 (by decide) (by decide) rfl (by decide) ?_
    refine J_aload_n (i := 0) qX5_count_192 rfl rfl ?_
    refine J_getR qX5_count_193 fX5_15 (by assumption) (by assumption) ?_
    refine J_si1 qX5_count_196 kX5_281 (x_there (d := d + 13) a2 htx (by omega) (by omega) h'.2.1) (Nat.le_of_ble_eq_true rfl) (fun v1 μ' hr => ?_)
    obtain ⟨rfl, rfl⟩ := hr
    refine Ji_ret qX5_count_199 ?_
    exact ⟨rfl, h', hF, fun _ => hA⟩
  | 11, _ =>
    refine J_tabOut (tgt := 200) qX5_count_17 (by decide) (by decide) ?_
    refine J_aload_n (i := 0) qX5_count_200 rfl rfl ?_
    refine J_vi0 qX5_count_201 kX5_285 (by assumption) (x_kept (d := d + 14) hL0 h') (Nat.le_of_ble_eq_true rfl) (fun v1 μ' hr => ?_)
    obtain ⟨rfl, rfl⟩ := hr
    refine Ji_ret qX5_count_204 ?_
    exact ⟨rfl, h', hF, fun _ => hA⟩
theorem x_digestOf {a c0 n N : Nat} {f : Nat → Rw} (hA : IsA G a 13 n) (hr : ∀ r, r < n → RF G a r (c0 + 2 * r) ∧ IsS G (c0 + 2 * r) N) (hN : N ≤ 120) (hn : n ≤ 6) (hs : ∀ r, r < n → AbS μ (c0 + 2 * r) N (f r)) (h0 : Int64) : Sl mX5_digestOf (d) [.ref a, .long h0] G μ (fun q μ' => μ = μ' ∧ q = strF f h0 n) := by
  refine Sl_of (ls := [.ref a, .long h0, .null, .null, .null, .null, .null]) (by decide +kernel) (Nat.le_of_ble_eq_true rfl) rfl ?_
  refine J_lload_n (i := 1) qX5_digestOf_0 rfl rfl ?_
  refine J_lst3 qX5_digestOf_1 (Nat.le_of_ble_eq_true rfl) rfl ?_
  refine J_pushI qX5_digestOf_2 ?_
  refine J_ist5 qX5_digestOf_3 (Nat.le_of_ble_eq_true rfl) rfl ?_
  have H : ∀ k, k ≤ n → ∀ v6 : Value, J mX5_digestOf (d) (0, 0) s0 (Kl G (fun q μ' => μ = μ' ∧ q = strF f h0 n)) (0, 0) 5 [.ref a, .long h0, .null, .long (strF f h0 k), .null, .int (nI k), v6] [] (G, μ) := by
    refine ind_up (fun k hk ih v6 => ?_)
    refine J_iload (i := 5) qX5_digestOf_5 rfl ?_
    refine J_aload_n (i := 0) qX5_digestOf_7 rfl rfl ?_
    refine J_alen qX5_digestOf_8 (by assumption) (by decide) (by decide) ?_
    first | with_reducible refine J_icmp_ge_n qX5_digestOf_9 (by omega) (by omega) (fun c1 => ?_) (fun c1 => ?_) | refine J_icmp_ge qX5_digestOf_9 (fun c1 => ?_) (fun c1 => ?_)
    · refine J_lload_n (i := 3) qX5_digestOf_72 rfl rfl ?_
      refine Jl_ret qX5_digestOf_73 ?_
      exact ⟨rfl, by rw [show n = k by omega]⟩
    · obtain ⟨w1, w2⟩ := hr k c1
      have w3 := w2.1
      have w4 := w2.2.1
      have w5 := w2.2.2
      have hS := hs k c1
      have h3 : ∀ v6 : Value, J mX5_digestOf (d) (0, 0) s0 (Kl G (fun q μ' => μ = μ' ∧ q = strF f h0 n)) (0, 0) 5 [.ref a, .long h0, .null, .long (stV (f k) (strF f h0 k)), .null, .int (nI (k + 1)), v6] [] (G, μ) := ih c1
      cases hm : f k with
      | none =>
        rw [hm] at hS h3
        have e : μ.1 (c0 + 2 * k) 1 = -1 := hS
        refine J_pushL qX5_digestOf_12 ?_
        refine J_lload_n (i := 3) qX5_digestOf_15 rfl rfl ?_
        refine J_lmul qX5_digestOf_16 ?_
        refine J_aload_n (i := 0) qX5_digestOf_17 rfl rfl ?_
        refine J_iload (i := 5) qX5_digestOf_18 rfl ?_
        refine J_aald qX5_digestOf_20 (by assumption) (by decide) (by decide) rfl (by omega) (by first | assumption | exact (by assumption : ∀ _, _) _ (by omega)) ?_
        refine J_getIe qX5_digestOf_21 fX5_117 (by assumption) (by (repeat first | with_reducible exact wI_e _ _ _ _ | (with_reducible apply rd_s; focus omega) | (with_reducible apply rd_c; focus omega) | (with_reducible apply rd_k; focus omega) | with_reducible exact rd_e (by omega)); first | done | assumption | rfl) ?_
        refine J_i2l qX5_digestOf_24 ?_
        refine J_ladd qX5_digestOf_25 ?_
        refine J_lst3 qX5_digestOf_26 (Nat.le_of_ble_eq_true rfl) rfl ?_
        refine J_pushI qX5_digestOf_27 ?_
        refine J_ist6 qX5_digestOf_28 (Nat.le_of_ble_eq_true rfl) rfl ?_
        refine J_iload (i := 6) qX5_digestOf_30 rfl ?_
        refine J_aload_n (i := 0) qX5_digestOf_32 rfl rfl ?_
        refine J_iload (i := 5) qX5_digestOf_33 rfl ?_
        refine J_aald qX5_digestOf_35 (by assumption) (by decide) (by decide) rfl (by omega) (by first | assumption | exact (by assumption : ∀ _, _) _ (by omega)) ?_
        refine J_getIe qX5_digestOf_36 fX5_117 (by assumption) (by (repeat first | with_reducible exact wI_e _ _ _ _ | (with_reducible apply rd_s; focus omega) | (with_reducible apply rd_c; focus omega) | (with_reducible apply rd_k; focus omega) | with_reducible exact rd_e (by omega)); first | done | assumption | rfl) ?_
        refine J_icmp_ge qX5_digestOf_39 (fun _ => ?_) (fun c => absurd (by decide) c)
        refine J_inc5 qX5_digestOf_66 (Nat.le_of_ble_eq_true rfl) (by first | with_reducible exact nI_inc _ | rfl) rfl ?_
        refine J_goto qX5_digestOf_69 ?_
        exact h3 _
      | some l =>
        rw [hm] at hS h3
        obtain ⟨e, l2, l3⟩ := hS
        refine J_pushL qX5_digestOf_12 ?_
        refine J_lload_n (i := 3) qX5_digestOf_15 rfl rfl ?_
        refine J_lmul qX5_digestOf_16 ?_
        refine J_aload_n (i := 0) qX5_digestOf_17 rfl rfl ?_
        refine J_iload (i := 5) qX5_digestOf_18 rfl ?_
        refine J_aald qX5_digestOf_20 (by assumption) (by decide) (by decide) rfl (by omega) (by first | assumption | exact (by assumption : ∀ _, _) _ (by omega)) ?_
        refine J_getIe qX5_digestOf_21 fX5_117 (by assumption) (by (repeat first | with_reducible exact wI_e _ _ _ _ | (with_reducible apply rd_s; focus omega) | (with_reducible apply rd_c; focus omega) | (with_reducible apply rd_k; focus omega) | with_reducible exact rd_e (by omega)); first | done | assumption | rfl) ?_
        refine J_i2l qX5_digestOf_24 ?_
        refine J_ladd qX5_digestOf_25 ?_
        refine J_lst3 qX5_digestOf_26 (Nat.le_of_ble_eq_true rfl) rfl ?_
        refine J_pushI qX5_digestOf_27 ?_
        refine J_ist6 qX5_digestOf_28 (Nat.le_of_ble_eq_true rfl) rfl ?_
        have H2 : ∀ i, i ≤ l.length → J mX5_digestOf (d) (0, 0) s0 (Kl G (fun q μ' => μ = μ' ∧ q = strF f h0 n)) (0, 0) 30 [.ref a, .long h0, .null, .long (fdN (fun i => l.getD i 0) (lN 31 * strF f h0 k + (nI l.length).toInt64) i), .null, .int (nI k), .int (nI i)] [] (G, μ) := by
          refine ind_up (fun i hi ih2 => ?_)
          refine J_iload (i := 6) qX5_digestOf_30 rfl ?_
          refine J_aload_n (i := 0) qX5_digestOf_32 rfl rfl ?_
          refine J_iload (i := 5) qX5_digestOf_33 rfl ?_
          refine J_aald qX5_digestOf_35 (by assumption) (by decide) (by decide) rfl (by omega) (by first | assumption | exact (by assumption : ∀ _, _) _ (by omega)) ?_
          refine J_getIe qX5_digestOf_36 fX5_117 (by assumption) (by (repeat first | with_reducible exact wI_e _ _ _ _ | (with_reducible apply rd_s; focus omega) | (with_reducible apply rd_c; focus omega) | (with_reducible apply rd_k; focus omega) | with_reducible exact rd_e (by omega)); first | done | assumption | rfl) ?_
          first | with_reducible refine J_icmp_ge_n qX5_digestOf_39 (by omega) (by omega) (fun c2 => ?_) (fun c2 => ?_) | refine J_icmp_ge qX5_digestOf_39 (fun c2 => ?_) (fun c2 => ?_)
          · refine J_inc5 qX5_digestOf_66 (Nat.le_of_ble_eq_true rfl) (by first | with_reducible exact nI_inc _ | rfl) rfl ?_
            refine J_goto qX5_digestOf_69 ?_
            have h4 := h3 (.int (nI i))
            rw [show stV (some l) (strF f h0 k) = fdN (fun i => l.getD i 0) (lN 31 * strF f h0 k + (nI l.length).toInt64) l.length from rfl, show l.length = i by omega] at h4
            rw [show l.length = i by omega]
            exact h4
          · have e3 := l3 i c2
            refine J_pushL qX5_digestOf_42 ?_
            refine J_lload_n (i := 3) qX5_digestOf_45 rfl rfl ?_
            refine J_lmul qX5_digestOf_46 ?_
            refine J_aload_n (i := 0) qX5_digestOf_47 rfl rfl ?_
            refine J_iload (i := 5) qX5_digestOf_48 rfl ?_
            refine J_aald qX5_digestOf_50 (by assumption) (by decide) (by decide) rfl (by omega) (by first | assumption | exact (by assumption : ∀ _, _) _ (by omega)) ?_
            refine J_getR qX5_digestOf_51 fX5_101 (by assumption) (by assumption) ?_
            refine J_iload (i := 6) qX5_digestOf_54 rfl ?_
            refine J_ialde qX5_digestOf_56 (by assumption) rfl (by omega) (by (repeat first | with_reducible exact wI_e _ _ _ _ | (with_reducible apply rd_s; focus omega) | (with_reducible apply rd_c; focus omega) | (with_reducible apply rd_k; focus omega) | with_reducible exact rd_e (by omega)); first | done | assumption | rfl) ?_
            refine J_i2l qX5_digestOf_57 ?_
            refine J_ladd qX5_digestOf_58 ?_
            refine J_lst3 qX5_digestOf_59 (Nat.le_of_ble_eq_true rfl) rfl ?_
            refine J_inc6 qX5_digestOf_60 (Nat.le_of_ble_eq_true rfl) (by first | with_reducible exact nI_inc _ | rfl) rfl ?_
            refine J_goto qX5_digestOf_63 ?_
            exact ih2 c2
        exact H2 0 (Nat.zero_le _)
  exact H 0 (Nat.zero_le _) .null
theorem x_digest (hL : LayX G) (h : RelX μ s) : Sl mX5_digest (d+16) [.ref 0] G μ (fun q μ' => q = (digestS s).1 ∧ RelX μ' (digestS s).2 ∧ FrX μ μ') := by
  have hL0 := hL
  obtain ⟨hO, ⟨q0, q1, q2, q3, q4, q5, q6, q7, q8, q9, q10⟩, ⟨a1, a2, a3, a4, a5⟩, hrw, htx, hkp, hp3, -, -, -, hpl, -⟩ := hL
  have hpo := hp3.1
  have hplO := hpl.1
  refine Sl_of (ls := [.ref 0, .null, .null, .null, .null]) (by decide +kernel) (Nat.le_of_ble_eq_true rfl) rfl ?_
  refine J_pushL qX5_digest_0 ?_
  refine J_lst1 qX5_digest_3 (Nat.le_of_ble_eq_true rfl) rfl ?_
  refine J_pushI qX5_digest_4 ?_
  refine J_ist3 qX5_digest_5 (Nat.le_of_ble_eq_true rfl) rfl ?_
  have tl : ∀ ν : Mm, RelX ν s → FrX μ ν → AbPl ν 32 (sP s).1 true true → J mX5_digest (d+16) (0, 0) s0 (Kl G (fun q μ' => q = (digestS s).1 ∧ RelX μ' (digestS s).2 ∧ FrX μ μ')) (0, 0) 31 [.ref 0, .long (dgA s), .null, .int (nI 12), .null] [] (G, ν) := fun ν h' hF hA => by
    obtain ⟨x1, x2, x3, x4⟩ := h'.2.2.1
    have k2 := x3.2.1
    have pl12 := prt_len (cs := (sP s).1) true true k2
    have y1 := x1.1
    have y3 := hA.2.1
    refine J_pushI qX5_digest_31 ?_
    refine J_ist3 qX5_digest_32 (Nat.le_of_ble_eq_true rfl) rfl ?_
    have H : ∀ i, i ≤ (sP s).1.length → ∀ v4 : Value, J mX5_digest (d+16) (0, 0) s0 (Kl G (fun q μ' => q = (digestS s).1 ∧ RelX μ' (digestS s).2 ∧ FrX μ μ')) (0, 0) 33 [.ref 0, .long (fdL (fun i z => fdN (valF (sP s).1 i) z 4) (dgA s) i), .null, .int (nI i), v4] [] (G, ν) := by
      refine ind_up (fun i hi ih v4 => ?_)
      refine J_iload_n (i := 3) qX5_digest_33 rfl rfl ?_
      refine J_aload_n (i := 0) qX5_digest_34 rfl rfl ?_
      refine J_getR qX5_digest_35 fX5_21 (by assumption) (by assumption) ?_
      refine J_getIe qX5_digest_38 fX5_135 (by assumption) (by (repeat first | with_reducible exact wI_e _ _ _ _ | (with_reducible apply rd_s; focus omega) | (with_reducible apply rd_c; focus omega) | (with_reducible apply rd_k; focus omega) | with_reducible exact rd_e (by omega)); first | done | assumption | rfl) ?_
      first | with_reducible refine J_icmp_ge_n qX5_digest_41 (by omega) (by omega) (fun c1 => ?_) (fun c1 => ?_) | refine J_icmp_ge qX5_digest_41 (fun c1 => ?_) (fun c1 => ?_)
      · have ei : i = (sP s).1.length := by omega
        subst ei
        rw [show fdL (fun i z => fdN (valF (sP s).1 i) z 4) (dgA s) (sP s).1.length = dgB s from rfl]
        refine J_pushI qX5_digest_83 ?_
        refine J_ist3 qX5_digest_84 (Nat.le_of_ble_eq_true rfl) rfl ?_
        have H3 : ∀ k, k ≤ (prtF (sP s).1 true true).length → ∀ v4 : Value, J mX5_digest (d+16) (0, 0) s0 (Kl G (fun q μ' => q = (digestS s).1 ∧ RelX μ' (digestS s).2 ∧ FrX μ μ')) (0, 0) 85 [.ref 0, .long (fdL (fun k z => fdN (vpF (sP s).1 true true k) z 5) (dgB s) k), .null, .int (nI k), v4] [] (G, ν) := by
          refine ind_up (fun k hk ih3 v4 => ?_)
          refine J_iload_n (i := 3) qX5_digest_85 rfl rfl ?_
          refine J_aload_n (i := 0) qX5_digest_86 rfl rfl ?_
          refine J_getR qX5_digest_87 fX5_53 (by assumption) (by assumption) ?_
          refine J_getIe qX5_digest_90 fX5_244 (by assumption) (by (repeat first | with_reducible exact wI_e _ _ _ _ | (with_reducible apply rd_s; focus omega) | (with_reducible apply rd_c; focus omega) | (with_reducible apply rd_k; focus omega) | with_reducible exact rd_e (by omega)); first | done | assumption | rfl) ?_
          first | with_reducible refine J_icmp_ge_n qX5_digest_93 (by omega) (by omega) (fun c2 => ?_) (fun c2 => ?_) | refine J_icmp_ge qX5_digest_93 (fun c2 => ?_) (fun c2 => ?_)
          · have ek : k = (prtF (sP s).1 true true).length := by omega
            subst ek
            rw [show fdL (fun k z => fdN (vpF (sP s).1 true true k) z 5) (dgB s) (prtF (sP s).1 true true).length = dgC s from rfl]
            refine J_pushI qX5_digest_139 ?_
            refine J_ist3 qX5_digest_140 (Nat.le_of_ble_eq_true rfl) rfl ?_
            have H4 : ∀ e, e ≤ 3 → J mX5_digest (d+16) (0, 0) s0 (Kl G (fun q μ' => q = (digestS s).1 ∧ RelX μ' (digestS s).2 ∧ FrX μ μ')) (0, 0) 141 [.ref 0, .long (fdN (kdV s) (dgC s) e), .null, .int (nI e), v4] [] (G, ν) := by
              refine ind_up (fun e he ih4 => ?_)
              refine J_iload_n (i := 3) qX5_digest_141 rfl rfl ?_
              refine J_pushI qX5_digest_142 ?_
              first | with_reducible refine J_icmp_ge_n qX5_digest_143 (by omega) (by omega) (fun c3 => ?_) (fun c3 => ?_) | refine J_icmp_ge qX5_digest_143 (fun c3 => ?_) (fun c3 => ?_)
              · refine J_aload_n (i := 0) qX5_digest_182 rfl rfl ?_
                refine J_getR qX5_digest_183 fX5_15 (by assumption) (by assumption) ?_
                refine J_aload_n (i := 0) qX5_digest_186 rfl rfl ?_
                refine J_getR qX5_digest_187 fX5_11 (by assumption) (by assumption) ?_
                refine J_lload_n (i := 1) qX5_digest_190 rfl rfl ?_
                refine J_sl2 qX5_digest_191 kX5_296 (x_digestOf (d := d + 15) a1 hrw (by omega) (by omega) h'.1 _) (Nat.le_of_ble_eq_true rfl) (fun v1 μ' hr => ?_)
                obtain ⟨rfl, rfl⟩ := hr
                refine J_sl2 qX5_digest_194 kX5_296 (x_digestOf (d := d + 15) a2 htx (by omega) (by omega) h'.2.1 _) (Nat.le_of_ble_eq_true rfl) (fun v1 μ' hr => ?_)
                obtain ⟨rfl, rfl⟩ := hr
                refine Jl_ret qX5_digest_197 ?_
                rw [show e = 3 by omega]
                refine ⟨?_, h', hF⟩
                show _ = strF (sTx s) (strF (sRw s) (dgD s) 6) 4
                unfold dgD
                rfl
              · have hK := h'.2.2.2.1 e c3
                obtain ⟨u1, u2⟩ := hkp e c3
                have u3 := u2.1
                have h5 := ih4 c3
                rw [fdN_succ] at h5
                refine J_pushL qX5_digest_146 ?_
                refine J_lload_n (i := 1) qX5_digest_149 rfl rfl ?_
                refine J_lmul qX5_digest_150 ?_
                refine J_aload_n (i := 0) qX5_digest_151 rfl rfl ?_
                refine J_getR qX5_digest_152 fX5_29 (by assumption) (by assumption) ?_
                refine J_iload_n (i := 3) qX5_digest_155 rfl rfl ?_
                refine J_zald qX5_digest_156 (by assumption) rfl (by omega) ?_
                cases hm : sKp s e with
                | none =>
                  rw [hm] at hK
                  rw [show ν.1 15 e = nI 0 from hK]
                  refine J_if_eq qX5_digest_157 (fun _ => ?_) (fun c => absurd rfl c)
                  rw [show kdV s e = -1 by unfold kdV; rw [hm]] at h5
                  refine J_pushI qX5_digest_172 ?_
                  refine J_i2l qX5_digest_173 ?_
                  refine J_ladd qX5_digest_174 ?_
                  refine J_lst1 qX5_digest_175 (Nat.le_of_ble_eq_true rfl) rfl ?_
                  refine J_inc3 qX5_digest_176 (Nat.le_of_ble_eq_true rfl) (by first | with_reducible exact nI_inc _ | rfl) rfl ?_
                  refine J_goto qX5_digest_179 ?_
                  exact h5
                | some g =>
                  rw [hm] at hK
                  rw [show ν.1 15 e = nI 1 from hK.1]
                  refine J_if_eq qX5_digest_157 (fun c => absurd c (by decide)) (fun _ => ?_)
                  have e12 := hK.2.2.1.1
                  rw [show kdV s e = nI g.2.length by unfold kdV; rw [hm]] at h5
                  refine J_aload_n (i := 0) qX5_digest_160 rfl rfl ?_
                  refine J_getR qX5_digest_161 fX5_25 (by assumption) (by assumption) ?_
                  refine J_iload_n (i := 3) qX5_digest_164 rfl rfl ?_
                  refine J_aald qX5_digest_165 (by assumption) (by decide) (by decide) rfl (by omega) (by first | assumption | exact (by assumption : ∀ _, _) _ (by omega)) ?_
                  refine J_getIe qX5_digest_166 fX5_160 (by assumption) (by (repeat first | with_reducible exact wI_e _ _ _ _ | (with_reducible apply rd_s; focus omega) | (with_reducible apply rd_c; focus omega) | (with_reducible apply rd_k; focus omega) | with_reducible exact rd_e (by omega)); first | done | assumption | rfl) ?_
                  refine J_goto qX5_digest_169 ?_
                  refine J_i2l qX5_digest_173 ?_
                  refine J_ladd qX5_digest_174 ?_
                  refine J_lst1 qX5_digest_175 (Nat.le_of_ble_eq_true rfl) rfl ?_
                  refine J_inc3 qX5_digest_176 (Nat.le_of_ble_eq_true rfl) (by first | with_reducible exact nI_inc _ | rfl) rfl ?_
                  refine J_goto qX5_digest_179 ?_
                  exact h5
            have h6 := H4 0 (Nat.zero_le _)
            rw [fdN_0] at h6
            exact h6
          · refine J_pushI qX5_digest_96 ?_
            refine J_ist4 qX5_digest_97 (Nat.le_of_ble_eq_true rfl) rfl ?_
            have H5 : ∀ w, w ≤ 5 → J mX5_digest (d+16) (0, 0) s0 (Kl G (fun q μ' => q = (digestS s).1 ∧ RelX μ' (digestS s).2 ∧ FrX μ μ')) (0, 0) 99 [.ref 0, .long (fdN (vpF (sP s).1 true true k) (fdL (fun k z => fdN (vpF (sP s).1 true true k) z 5) (dgB s) k) w), .null, .int (nI k), .int (nI w)] [] (G, ν) := by
              refine ind_up (fun w hw ih5 => ?_)
              refine J_iload (i := 4) qX5_digest_99 rfl ?_
              refine J_pushI qX5_digest_101 ?_
              first | with_reducible refine J_icmp_ge_n qX5_digest_102 (by omega) (by omega) (fun c4 => ?_) (fun c4 => ?_) | refine J_icmp_ge qX5_digest_102 (fun c4 => ?_) (fun c4 => ?_)
              · refine J_inc3 qX5_digest_133 (Nat.le_of_ble_eq_true rfl) (by first | with_reducible exact nI_inc _ | rfl) rfl ?_
                refine J_goto qX5_digest_136 ?_
                rw [show w = 5 by omega]
                have h6 := ih3 c2 (.int (nI w))
                rw [fdL_succ] at h6
                rw [show w = 5 by omega] at h6
                exact h6
              · refine J_pushL qX5_digest_105 ?_
                refine J_lload_n (i := 1) qX5_digest_108 rfl rfl ?_
                refine J_lmul qX5_digest_109 ?_
                refine J_aload_n (i := 0) qX5_digest_110 rfl rfl ?_
                refine J_getR qX5_digest_111 fX5_53 (by assumption) (by assumption) ?_
                refine J_aload_n (i := 0) qX5_digest_114 rfl rfl ?_
                refine J_getR qX5_digest_115 fX5_21 (by assumption) (by assumption) ?_
                refine J_iload_n (i := 3) qX5_digest_118 rfl rfl ?_
                refine J_iload (i := 4) qX5_digest_119 rfl ?_
                refine J_vi3 qX5_digest_121 kX5_205 (by assumption) (l_valueOf (d := d + 14) hpl hp3 hA x1 c2 (w := w) (by omega)) (Nat.le_of_ble_eq_true rfl) (fun v1 μ' hr => ?_)
                obtain ⟨rfl, rfl⟩ := hr
                refine J_i2l qX5_digest_124 ?_
                refine J_ladd qX5_digest_125 ?_
                refine J_lst1 qX5_digest_126 (Nat.le_of_ble_eq_true rfl) rfl ?_
                refine J_inc4 qX5_digest_127 (Nat.le_of_ble_eq_true rfl) (by first | with_reducible exact nI_inc _ | rfl) rfl ?_
                refine J_goto qX5_digest_130 ?_
                have h6 := ih5 c4
                rw [fdN_succ] at h6
                exact h6
            have h6 := H5 0 (Nat.zero_le _)
            rw [fdN_0] at h6
            exact h6
        have h6 := H3 0 (Nat.zero_le _) v4
        rw [fdL_0] at h6
        exact h6
      · refine J_pushI qX5_digest_44 ?_
        refine J_ist4 qX5_digest_45 (Nat.le_of_ble_eq_true rfl) rfl ?_
        have H2 : ∀ w, w ≤ 4 → J mX5_digest (d+16) (0, 0) s0 (Kl G (fun q μ' => q = (digestS s).1 ∧ RelX μ' (digestS s).2 ∧ FrX μ μ')) (0, 0) 47 [.ref 0, .long (fdN (valF (sP s).1 i) (fdL (fun i z => fdN (valF (sP s).1 i) z 4) (dgA s) i) w), .null, .int (nI i), .int (nI w)] [] (G, ν) := by
          refine ind_up (fun w hw ih2 => ?_)
          refine J_iload (i := 4) qX5_digest_47 rfl ?_
          refine J_pushI qX5_digest_49 ?_
          first | with_reducible refine J_icmp_ge_n qX5_digest_50 (by omega) (by omega) (fun c4 => ?_) (fun c4 => ?_) | refine J_icmp_ge qX5_digest_50 (fun c4 => ?_) (fun c4 => ?_)
          · refine J_inc3 qX5_digest_77 (Nat.le_of_ble_eq_true rfl) (by first | with_reducible exact nI_inc _ | rfl) rfl ?_
            refine J_goto qX5_digest_80 ?_
            rw [show w = 4 by omega]
            have h6 := ih c1 (.int (nI w))
            rw [fdL_succ] at h6
            rw [show w = 4 by omega] at h6
            exact h6
          · refine J_pushL qX5_digest_53 ?_
            refine J_lload_n (i := 1) qX5_digest_56 rfl rfl ?_
            refine J_lmul qX5_digest_57 ?_
            refine J_aload_n (i := 0) qX5_digest_58 rfl rfl ?_
            refine J_getR qX5_digest_59 fX5_21 (by assumption) (by assumption) ?_
            refine J_iload_n (i := 3) qX5_digest_62 rfl rfl ?_
            refine J_iload (i := 4) qX5_digest_63 rfl ?_
            refine J_vi2 qX5_digest_65 kX5_148 (by assumption) (p_valueOf (d := d + 15) hp3 x1 c1 c4) (Nat.le_of_ble_eq_true rfl) (fun v1 μ' hr => ?_)
            obtain ⟨rfl, rfl⟩ := hr
            refine J_i2l qX5_digest_68 ?_
            refine J_ladd qX5_digest_69 ?_
            refine J_lst1 qX5_digest_70 (Nat.le_of_ble_eq_true rfl) rfl ?_
            refine J_inc4 qX5_digest_71 (Nat.le_of_ble_eq_true rfl) (by first | with_reducible exact nI_inc _ | rfl) rfl ?_
            refine J_goto qX5_digest_74 ?_
            have h6 := ih2 c4
            rw [fdN_succ] at h6
            exact h6
        have h6 := H2 0 (Nat.zero_le _)
        rw [fdN_0] at h6
        exact h6
    have h6 := H 0 (Nat.zero_le _) .null
    rw [fdL_0] at h6
    exact h6
  have H1 : ∀ k, k ≤ 12 → ∀ ν : Mm, RelX ν s → FrX μ ν → (0 < k → AbPl ν 32 (sP s).1 true true) → J mX5_digest (d+16) (0, 0) s0 (Kl G (fun q μ' => q = (digestS s).1 ∧ RelX μ' (digestS s).2 ∧ FrX μ μ')) (0, 0) 6 [.ref 0, .long (fdN (cntV s) (lN 17) k), .null, .int (nI k), .null] [] (G, ν) := by
    refine ind_up (fun k hk ih ν h' hF hA => ?_)
    refine J_iload_n (i := 3) qX5_digest_6 rfl rfl ?_
    refine J_pushI qX5_digest_7 ?_
    first | with_reducible refine J_icmp_ge_n qX5_digest_9 (by omega) (by omega) (fun c1 => ?_) (fun c1 => ?_) | refine J_icmp_ge qX5_digest_9 (fun c1 => ?_) (fun c1 => ?_)
    · have ek : k = 12 := by omega
      subst ek
      rw [show fdN (cntV s) (lN 17) 12 = dgA s from rfl]
      exact tl ν h' hF (hA (by omega))
    · refine J_pushL qX5_digest_12 ?_
      refine J_lload_n (i := 1) qX5_digest_15 rfl rfl ?_
      refine J_lmul qX5_digest_16 ?_
      refine J_aload_n (i := 0) qX5_digest_17 rfl rfl ?_
      refine J_iload_n (i := 3) qX5_digest_18 rfl rfl ?_
      refine J_vi1 qX5_digest_19 kX5_293 (by assumption) (x_count (d := d) hL0 h' (nI k)) (Nat.le_of_ble_eq_true rfl) (fun v1 ν1 hr => ?_)
      have hb : hasB 12 (nI k) = true := decide_eq_true ⟨nI_pos' (by omega), (nI_ltI (by omega) (by omega)).mpr c1⟩
      rw [show countS s (nI k) = (cntV s k, s) by unfold countS; rw [if_neg (by rw [hb]; decide), ix_n (by omega)]] at hr
      obtain ⟨rfl, g1, g2, g3⟩ := hr
      refine J_i2l qX5_digest_22 ?_
      refine J_ladd qX5_digest_23 ?_
      refine J_lst1 qX5_digest_24 (Nat.le_of_ble_eq_true rfl) rfl ?_
      refine J_inc3 qX5_digest_25 (Nat.le_of_ble_eq_true rfl) (by first | with_reducible exact nI_inc _ | rfl) rfl ?_
      refine J_goto qX5_digest_28 ?_
      have h6 := ih c1 ν1 g1 (hF.tr g2) (fun _ => g3 hb)
      rw [fdN_succ] at h6
      exact h6
  have h6 := H1 0 (Nat.zero_le _) μ h FrX.rf (fun z => absurd z (Nat.lt_irrefl 0))
  rw [fdN_0] at h6
  exact h6
end XX
