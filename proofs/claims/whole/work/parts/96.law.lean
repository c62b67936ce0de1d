/-! THE LAW'S LOOP -/
def mLn (nm : String) : MI := (⟨RL, nm, "([I)Z"⟩, cL_law, 4, some .boolean)
def Kt : Option Value → Wd → Prop := fun v _ => v = some (.int 1)
section LW
variable {mi mj : MI} {d : Nat} {lim : Nat × Nat} {K : Option Value → Wd → Prop} {cs : Nat × Nat} {pc nx idx : Nat} {ls st : List Value} {w : Wd} {L : Nat} {xs : Nat → Int32} {sc : Nat × (Nat → Int32)} {G : Gm} {μ : Mm}
theorem J_sld {k : Nat} (h : Dc mi pc .iaload 1 nx) (h31 : L < 2147483648) (hk : k < L) (kk : J mi d lim (L + 1, xs) K cs nx ls (.int (xs k) :: st) w) : J mi d lim (L + 1, xs) K cs pc ls (.int (nI k) :: .ref 3000000 :: st) w := by
  obtain ⟨hd, rfl⟩ := h
  intro p l e R s m args below meth c H locs D tc ad A lr Q hC hR hE hL hret
  obtain ⟨h1, h2⟩ := vp_inN (n := L) rfl hk h31
  rcases hE.2.2.2.2.2.2.2 with hz | ⟨hX, hbl, hbA⟩
  · exact absurd hz (Nat.succ_ne_zero _)
  · refine va_sld hC.1 hC.2.1 hX hbl hbA hE.2.2.2.1 h1 hd ?_
    rw [h2]
    exact kk p l e R s m args below meth c H locs D tc ad A lr Q hC hR hE hL hret
theorem J_scn (h : Dc mi pc .arraylength 1 nx) (kk : J mi d lim (L + 1, xs) K cs nx ls (.int (nI L) :: st) w) : J mi d lim (L + 1, xs) K cs pc ls (.ref 3000000 :: st) w := by
  obtain ⟨hd, rfl⟩ := h
  intro p l e R s m args below meth c H locs D tc ad A lr Q hC hR hE hL hret
  rcases hE.2.2.2.2.2.2.2 with hz | ⟨hX, hbl, hbA⟩
  · exact absurd hz (Nat.succ_ne_zero _)
  · exact va_slen hC.1 hC.2.1 hX hbl hbA hE.2.2.2.1 hd (kk p l e R s m args below meth c H locs D tc ad A lr Q hC hR hE hL hret)
theorem J_lvI {n a ci : Nat} {As : List Value} {K1 : Int32 → Mm → Prop} (h : Dc mi pc (.invokevirtual idx) 3 nx) (hl : CV mi.1.cls idx mj n ci) (ho : IsO G a ci) (hn : As.length = n) (hM : Si mj d (.ref a :: As) G μ K1) (g1 : cs.1 ≤ lim.1) (g2 : cs.2 ≤ lim.2) (hst : (st.map fun v => v.category).sum ≤ 8) (kk : ∀ r μ', K1 r μ' → J mi (d + 1) lim sc K cs nx ls (.int r :: st) (G, μ')) : J mi (d + 1) lim sc K cs pc ls (As.reverse ++ .ref a :: st) (G, μ) :=
  J_callV (As := As) (w := (G, μ)) (lim' := (0, 0)) h hl ho hn hM g1 g2 hst Ki.kp (fun v w' hq => by obtain ⟨r, μ', rfl, rfl, hr⟩ := hq; exact kk r μ' hr)
theorem J_lvL {n a ci : Nat} {As : List Value} {K1 : Int64 → Mm → Prop} (h : Dc mi pc (.invokevirtual idx) 3 nx) (hl : CV mi.1.cls idx mj n ci) (ho : IsO G a ci) (hn : As.length = n) (hM : Sl mj d (.ref a :: As) G μ K1) (g1 : cs.1 ≤ lim.1) (g2 : cs.2 ≤ lim.2) (hst : (st.map fun v => v.category).sum ≤ 8) (kk : ∀ r μ', K1 r μ' → J mi (d + 1) lim sc K cs nx ls (.long r :: st) (G, μ')) : J mi (d + 1) lim sc K cs pc ls (As.reverse ++ .ref a :: st) (G, μ) :=
  J_callV (As := As) (w := (G, μ)) (lim' := (0, 0)) h hl ho hn hM g1 g2 hst Kl.kp (fun v w' hq => by obtain ⟨r, μ', rfl, rfl, hr⟩ := hq; exact kk r μ' hr)
theorem J_lvI0 {a ci : Nat} {K1 : Int32 → Mm → Prop} (h : Dc mi pc (.invokevirtual idx) 3 nx) (hl : CV mi.1.cls idx mj 0 ci) (ho : IsO G a ci) (hM : Si mj d [.ref a] G μ K1) (g1 : cs.1 ≤ lim.1) (g2 : cs.2 ≤ lim.2) (hst : (st.map fun v => v.category).sum ≤ 8) (kk : ∀ r μ', K1 r μ' → J mi (d + 1) lim sc K cs nx ls (.int r :: st) (G, μ')) : J mi (d + 1) lim sc K cs pc ls (.ref a :: st) (G, μ) := J_lvI (As := []) h hl ho rfl hM g1 g2 hst kk
theorem J_lvL0 {a ci : Nat} {K1 : Int64 → Mm → Prop} (h : Dc mi pc (.invokevirtual idx) 3 nx) (hl : CV mi.1.cls idx mj 0 ci) (ho : IsO G a ci) (hM : Sl mj d [.ref a] G μ K1) (g1 : cs.1 ≤ lim.1) (g2 : cs.2 ≤ lim.2) (hst : (st.map fun v => v.category).sum ≤ 8) (kk : ∀ r μ', K1 r μ' → J mi (d + 1) lim sc K cs nx ls (.long r :: st) (G, μ')) : J mi (d + 1) lim sc K cs pc ls (.ref a :: st) (G, μ) := J_lvL (As := []) h hl ho rfl hM g1 g2 hst kk
theorem J_lvI1 {a ci : Nat} {x1 : Value} {K1 : Int32 → Mm → Prop} (h : Dc mi pc (.invokevirtual idx) 3 nx) (hl : CV mi.1.cls idx mj 1 ci) (ho : IsO G a ci) (hM : Si mj d [.ref a, x1] G μ K1) (g1 : cs.1 ≤ lim.1) (g2 : cs.2 ≤ lim.2) (hst : (st.map fun v => v.category).sum ≤ 8) (kk : ∀ r μ', K1 r μ' → J mi (d + 1) lim sc K cs nx ls (.int r :: st) (G, μ')) : J mi (d + 1) lim sc K cs pc ls (x1 :: .ref a :: st) (G, μ) := J_lvI (As := [x1]) h hl ho rfl hM g1 g2 hst kk
theorem J_lvL1 {a ci : Nat} {x1 : Value} {K1 : Int64 → Mm → Prop} (h : Dc mi pc (.invokevirtual idx) 3 nx) (hl : CV mi.1.cls idx mj 1 ci) (ho : IsO G a ci) (hM : Sl mj d [.ref a, x1] G μ K1) (g1 : cs.1 ≤ lim.1) (g2 : cs.2 ≤ lim.2) (hst : (st.map fun v => v.category).sum ≤ 8) (kk : ∀ r μ', K1 r μ' → J mi (d + 1) lim sc K cs nx ls (.long r :: st) (G, μ')) : J mi (d + 1) lim sc K cs pc ls (x1 :: .ref a :: st) (G, μ) := J_lvL (As := [x1]) h hl ho rfl hM g1 g2 hst kk
theorem J_lvI2 {a ci : Nat} {x1 x2 : Value} {K1 : Int32 → Mm → Prop} (h : Dc mi pc (.invokevirtual idx) 3 nx) (hl : CV mi.1.cls idx mj 2 ci) (ho : IsO G a ci) (hM : Si mj d [.ref a, x1, x2] G μ K1) (g1 : cs.1 ≤ lim.1) (g2 : cs.2 ≤ lim.2) (hst : (st.map fun v => v.category).sum ≤ 8) (kk : ∀ r μ', K1 r μ' → J mi (d + 1) lim sc K cs nx ls (.int r :: st) (G, μ')) : J mi (d + 1) lim sc K cs pc ls (x2 :: x1 :: .ref a :: st) (G, μ) := J_lvI (As := [x1, x2]) h hl ho rfl hM g1 g2 hst kk
theorem J_lvL2 {a ci : Nat} {x1 x2 : Value} {K1 : Int64 → Mm → Prop} (h : Dc mi pc (.invokevirtual idx) 3 nx) (hl : CV mi.1.cls idx mj 2 ci) (ho : IsO G a ci) (hM : Sl mj d [.ref a, x1, x2] G μ K1) (g1 : cs.1 ≤ lim.1) (g2 : cs.2 ≤ lim.2) (hst : (st.map fun v => v.category).sum ≤ 8) (kk : ∀ r μ', K1 r μ' → J mi (d + 1) lim sc K cs nx ls (.long r :: st) (G, μ')) : J mi (d + 1) lim sc K cs pc ls (x2 :: x1 :: .ref a :: st) (G, μ) := J_lvL (As := [x1, x2]) h hl ho rfl hM g1 g2 hst kk
theorem J_lvI3 {a ci : Nat} {x1 x2 x3 : Value} {K1 : Int32 → Mm → Prop} (h : Dc mi pc (.invokevirtual idx) 3 nx) (hl : CV mi.1.cls idx mj 3 ci) (ho : IsO G a ci) (hM : Si mj d [.ref a, x1, x2, x3] G μ K1) (g1 : cs.1 ≤ lim.1) (g2 : cs.2 ≤ lim.2) (hst : (st.map fun v => v.category).sum ≤ 8) (kk : ∀ r μ', K1 r μ' → J mi (d + 1) lim sc K cs nx ls (.int r :: st) (G, μ')) : J mi (d + 1) lim sc K cs pc ls (x3 :: x2 :: x1 :: .ref a :: st) (G, μ) := J_lvI (As := [x1, x2, x3]) h hl ho rfl hM g1 g2 hst kk
theorem J_lvL3 {a ci : Nat} {x1 x2 x3 : Value} {K1 : Int64 → Mm → Prop} (h : Dc mi pc (.invokevirtual idx) 3 nx) (hl : CV mi.1.cls idx mj 3 ci) (ho : IsO G a ci) (hM : Sl mj d [.ref a, x1, x2, x3] G μ K1) (g1 : cs.1 ≤ lim.1) (g2 : cs.2 ≤ lim.2) (hst : (st.map fun v => v.category).sum ≤ 8) (kk : ∀ r μ', K1 r μ' → J mi (d + 1) lim sc K cs nx ls (.long r :: st) (G, μ')) : J mi (d + 1) lim sc K cs pc ls (x3 :: x2 :: x1 :: .ref a :: st) (G, μ) := J_lvL (As := [x1, x2, x3]) h hl ho rfl hM g1 g2 hst kk
theorem J_lvI4 {a ci : Nat} {x1 x2 x3 x4 : Value} {K1 : Int32 → Mm → Prop} (h : Dc mi pc (.invokevirtual idx) 3 nx) (hl : CV mi.1.cls idx mj 4 ci) (ho : IsO G a ci) (hM : Si mj d [.ref a, x1, x2, x3, x4] G μ K1) (g1 : cs.1 ≤ lim.1) (g2 : cs.2 ≤ lim.2) (hst : (st.map fun v => v.category).sum ≤ 8) (kk : ∀ r μ', K1 r μ' → J mi (d + 1) lim sc K cs nx ls (.int r :: st) (G, μ')) : J mi (d + 1) lim sc K cs pc ls (x4 :: x3 :: x2 :: x1 :: .ref a :: st) (G, μ) := J_lvI (As := [x1, x2, x3, x4]) h hl ho rfl hM g1 g2 hst kk
theorem J_lvL4 {a ci : Nat} {x1 x2 x3 x4 : Value} {K1 : Int64 → Mm → Prop} (h : Dc mi pc (.invokevirtual idx) 3 nx) (hl : CV mi.1.cls idx mj 4 ci) (ho : IsO G a ci) (hM : Sl mj d [.ref a, x1, x2, x3, x4] G μ K1) (g1 : cs.1 ≤ lim.1) (g2 : cs.2 ≤ lim.2) (hst : (st.map fun v => v.category).sum ≤ 8) (kk : ∀ r μ', K1 r μ' → J mi (d + 1) lim sc K cs nx ls (.long r :: st) (G, μ')) : J mi (d + 1) lim sc K cs pc ls (x4 :: x3 :: x2 :: x1 :: .ref a :: st) (G, μ) := J_lvL (As := [x1, x2, x3, x4]) h hl ho rfl hM g1 g2 hst kk
theorem J_lvI5 {a ci : Nat} {x1 x2 x3 x4 x5 : Value} {K1 : Int32 → Mm → Prop} (h : Dc mi pc (.invokevirtual idx) 3 nx) (hl : CV mi.1.cls idx mj 5 ci) (ho : IsO G a ci) (hM : Si mj d [.ref a, x1, x2, x3, x4, x5] G μ K1) (g1 : cs.1 ≤ lim.1) (g2 : cs.2 ≤ lim.2) (hst : (st.map fun v => v.category).sum ≤ 8) (kk : ∀ r μ', K1 r μ' → J mi (d + 1) lim sc K cs nx ls (.int r :: st) (G, μ')) : J mi (d + 1) lim sc K cs pc ls (x5 :: x4 :: x3 :: x2 :: x1 :: .ref a :: st) (G, μ) := J_lvI (As := [x1, x2, x3, x4, x5]) h hl ho rfl hM g1 g2 hst kk
theorem J_lvL5 {a ci : Nat} {x1 x2 x3 x4 x5 : Value} {K1 : Int64 → Mm → Prop} (h : Dc mi pc (.invokevirtual idx) 3 nx) (hl : CV mi.1.cls idx mj 5 ci) (ho : IsO G a ci) (hM : Sl mj d [.ref a, x1, x2, x3, x4, x5] G μ K1) (g1 : cs.1 ≤ lim.1) (g2 : cs.2 ≤ lim.2) (hst : (st.map fun v => v.category).sum ≤ 8) (kk : ∀ r μ', K1 r μ' → J mi (d + 1) lim sc K cs nx ls (.long r :: st) (G, μ')) : J mi (d + 1) lim sc K cs pc ls (x5 :: x4 :: x3 :: x2 :: x1 :: .ref a :: st) (G, μ) := J_lvL (As := [x1, x2, x3, x4, x5]) h hl ho rfl hM g1 g2 hst kk
end LW
def LJ (nm : String) (G : Gm) (L : Nat) (xs : Nat → Int32) (lim cs : Nat × Nat) (pc i : Nat) (μ : Mm) : Prop := J (mLn nm) 40 lim (L + 1, xs) Kt cs pc [.ref 3000000, .ref 0, .ref 198, .int (nI i)] [] (G, μ)
section LC
variable {nm : String} {G : Gm} {L i : Nat} {xs : Nat → Int32} {lim cs : Nat × Nat} {μ : Mm} {s : St}
theorem lc_0 (hLX : LayX G) (hLM : LayM G) (g1 : cs.1 ≤ lim.1) (g2 : cs.2 ≤ lim.2) (h31 : L < 2147483648) (hi : i + 6 ≤ L) (hX : RelX μ s) (hM : RelM μ s) (nx : ∀ μ s, RelX μ s → RelM μ s → LJ nm G L xs lim cs 1264 i μ) : LJ nm G L xs lim cs 204 i μ := by
  have hO1 := hLX.1
  have hO2 := hLM.1
  unfold LJ
  refine J_aload_n (i := 1) qL_law_204 rfl rfl ?_
  refine J_aload_n (i := 0) qL_law_205 rfl rfl ?_
  refine J_iload_n (i := 3) qL_law_206 rfl rfl ?_
  refine J_pushI qL_law_207 ?_
  refine J_iadd_n qL_law_208 ?_
  refine J_sld qL_law_209 h31 (by omega) ?_
  refine J_aload_n (i := 0) qL_law_210 rfl rfl ?_
  refine J_iload_n (i := 3) qL_law_211 rfl rfl ?_
  refine J_pushI qL_law_212 ?_
  refine J_iadd_n qL_law_213 ?_
  refine J_sld qL_law_214 h31 (by omega) ?_
  refine J_lvI2 qL_law_215 kL_13 hO1 (x_row hLX hX _ _) g1 g2 (Nat.le_of_ble_eq_true rfl) (fun r μ1 hr => ?_)
  obtain ⟨rfl, hx, fx⟩ := hr
  refine J_aload_n (i := 2) qL_law_218 rfl rfl ?_
  refine J_aload_n (i := 0) qL_law_219 rfl rfl ?_
  refine J_iload_n (i := 3) qL_law_220 rfl rfl ?_
  refine J_pushI qL_law_221 ?_
  refine J_iadd_n qL_law_222 ?_
  refine J_sld qL_law_223 h31 (by omega) ?_
  refine J_aload_n (i := 0) qL_law_224 rfl rfl ?_
  refine J_iload_n (i := 3) qL_law_225 rfl rfl ?_
  refine J_pushI qL_law_226 ?_
  refine J_iadd_n qL_law_227 ?_
  refine J_sld qL_law_228 h31 (by omega) ?_
  refine J_lvI2 qL_law_229 kL_17 hO2 (m_row hLM (hM.x fx) _ _) g1 g2 (Nat.le_of_ble_eq_true rfl) (fun r μ2 hr => ?_)
  obtain ⟨rfl, hm, fm⟩ := hr
  refine J_icmp_eq qL_law_232 (fun _ => ?_) (fun c => absurd rfl c)
  exact nx _ _ (hx.m fm) hm
theorem lc_1 (hLX : LayX G) (hLM : LayM G) (g1 : cs.1 ≤ lim.1) (g2 : cs.2 ≤ lim.2) (h31 : L < 2147483648) (hi : i + 6 ≤ L) (hX : RelX μ s) (hM : RelM μ s) (nx : ∀ μ s, RelX μ s → RelM μ s → LJ nm G L xs lim cs 1264 i μ) : LJ nm G L xs lim cs 237 i μ := by
  have hO1 := hLX.1
  have hO2 := hLM.1
  unfold LJ
  refine J_aload_n (i := 1) qL_law_237 rfl rfl ?_
  refine J_aload_n (i := 0) qL_law_238 rfl rfl ?_
  refine J_iload_n (i := 3) qL_law_239 rfl rfl ?_
  refine J_pushI qL_law_240 ?_
  refine J_iadd_n qL_law_241 ?_
  refine J_sld qL_law_242 h31 (by omega) ?_
  refine J_aload_n (i := 0) qL_law_243 rfl rfl ?_
  refine J_iload_n (i := 3) qL_law_244 rfl rfl ?_
  refine J_pushI qL_law_245 ?_
  refine J_iadd_n qL_law_246 ?_
  refine J_sld qL_law_247 h31 (by omega) ?_
  refine J_aload_n (i := 0) qL_law_248 rfl rfl ?_
  refine J_iload_n (i := 3) qL_law_249 rfl rfl ?_
  refine J_pushI qL_law_250 ?_
  refine J_iadd_n qL_law_251 ?_
  refine J_sld qL_law_252 h31 (by omega) ?_
  refine J_lvI3 qL_law_253 kL_18 hO1 (x_lay hLX hX _ _ _) g1 g2 (Nat.le_of_ble_eq_true rfl) (fun r μ1 hr => ?_)
  obtain ⟨rfl, hx, fx⟩ := hr
  refine J_aload_n (i := 2) qL_law_256 rfl rfl ?_
  refine J_aload_n (i := 0) qL_law_257 rfl rfl ?_
  refine J_iload_n (i := 3) qL_law_258 rfl rfl ?_
  refine J_pushI qL_law_259 ?_
  refine J_iadd_n qL_law_260 ?_
  refine J_sld qL_law_261 h31 (by omega) ?_
  refine J_aload_n (i := 0) qL_law_262 rfl rfl ?_
  refine J_iload_n (i := 3) qL_law_263 rfl rfl ?_
  refine J_pushI qL_law_264 ?_
  refine J_iadd_n qL_law_265 ?_
  refine J_sld qL_law_266 h31 (by omega) ?_
  refine J_aload_n (i := 0) qL_law_267 rfl rfl ?_
  refine J_iload_n (i := 3) qL_law_268 rfl rfl ?_
  refine J_pushI qL_law_269 ?_
  refine J_iadd_n qL_law_270 ?_
  refine J_sld qL_law_271 h31 (by omega) ?_
  refine J_lvI3 qL_law_272 kL_22 hO2 (m_lay hLM (hM.x fx) _ _ _) g1 g2 (Nat.le_of_ble_eq_true rfl) (fun r μ2 hr => ?_)
  obtain ⟨rfl, hm, fm⟩ := hr
  refine J_icmp_eq qL_law_275 (fun _ => ?_) (fun c => absurd rfl c)
  exact nx _ _ (hx.m fm) hm
theorem lc_2 (hLX : LayX G) (hLM : LayM G) (g1 : cs.1 ≤ lim.1) (g2 : cs.2 ≤ lim.2) (h31 : L < 2147483648) (hi : i + 6 ≤ L) (hX : RelX μ s) (hM : RelM μ s) (nx : ∀ μ s, RelX μ s → RelM μ s → LJ nm G L xs lim cs 1264 i μ) : LJ nm G L xs lim cs 280 i μ := by
  have hO1 := hLX.1
  have hO2 := hLM.1
  unfold LJ
  refine J_aload_n (i := 1) qL_law_280 rfl rfl ?_
  refine J_aload_n (i := 0) qL_law_281 rfl rfl ?_
  refine J_iload_n (i := 3) qL_law_282 rfl rfl ?_
  refine J_pushI qL_law_283 ?_
  refine J_iadd_n qL_law_284 ?_
  refine J_sld qL_law_285 h31 (by omega) ?_
  refine J_aload_n (i := 0) qL_law_286 rfl rfl ?_
  refine J_iload_n (i := 3) qL_law_287 rfl rfl ?_
  refine J_pushI qL_law_288 ?_
  refine J_iadd_n qL_law_289 ?_
  refine J_sld qL_law_290 h31 (by omega) ?_
  refine J_lvI2 qL_law_291 kL_23 hO1 (x_at hLX hX _ _) g1 g2 (Nat.le_of_ble_eq_true rfl) (fun r μ1 hr => ?_)
  obtain ⟨rfl, hx, fx⟩ := hr
  refine J_aload_n (i := 2) qL_law_294 rfl rfl ?_
  refine J_aload_n (i := 0) qL_law_295 rfl rfl ?_
  refine J_iload_n (i := 3) qL_law_296 rfl rfl ?_
  refine J_pushI qL_law_297 ?_
  refine J_iadd_n qL_law_298 ?_
  refine J_sld qL_law_299 h31 (by omega) ?_
  refine J_aload_n (i := 0) qL_law_300 rfl rfl ?_
  refine J_iload_n (i := 3) qL_law_301 rfl rfl ?_
  refine J_pushI qL_law_302 ?_
  refine J_iadd_n qL_law_303 ?_
  refine J_sld qL_law_304 h31 (by omega) ?_
  refine J_lvI2 qL_law_305 kL_26 hO2 (m_at hLM (hM.x fx) _ _) g1 g2 (Nat.le_of_ble_eq_true rfl) (fun r μ2 hr => ?_)
  obtain ⟨rfl, hm, fm⟩ := hr
  refine J_icmp_eq qL_law_308 (fun _ => ?_) (fun c => absurd rfl c)
  exact nx _ _ (hx.m fm) hm
theorem lc_3 (hLX : LayX G) (hLM : LayM G) (g1 : cs.1 ≤ lim.1) (g2 : cs.2 ≤ lim.2) (h31 : L < 2147483648) (hi : i + 6 ≤ L) (hX : RelX μ s) (hM : RelM μ s) (nx : ∀ μ s, RelX μ s → RelM μ s → LJ nm G L xs lim cs 1264 i μ) : LJ nm G L xs lim cs 313 i μ := by
  have hO1 := hLX.1
  have hO2 := hLM.1
  unfold LJ
  refine J_aload_n (i := 1) qL_law_313 rfl rfl ?_
  refine J_aload_n (i := 0) qL_law_314 rfl rfl ?_
  refine J_iload_n (i := 3) qL_law_315 rfl rfl ?_
  refine J_pushI qL_law_316 ?_
  refine J_iadd_n qL_law_317 ?_
  refine J_sld qL_law_318 h31 (by omega) ?_
  refine J_lvI1 qL_law_319 kL_27 hO1 (x_tear hLX hX _) g1 g2 (Nat.le_of_ble_eq_true rfl) (fun r μ1 hr => ?_)
  obtain ⟨rfl, hx, fx⟩ := hr
  refine J_aload_n (i := 2) qL_law_322 rfl rfl ?_
  refine J_aload_n (i := 0) qL_law_323 rfl rfl ?_
  refine J_iload_n (i := 3) qL_law_324 rfl rfl ?_
  refine J_pushI qL_law_325 ?_
  refine J_iadd_n qL_law_326 ?_
  refine J_sld qL_law_327 h31 (by omega) ?_
  refine J_lvI1 qL_law_328 kL_31 hO2 (m_tear hLM (hM.x fx) _) g1 g2 (Nat.le_of_ble_eq_true rfl) (fun r μ2 hr => ?_)
  obtain ⟨rfl, hm, fm⟩ := hr
  refine J_icmp_eq qL_law_331 (fun _ => ?_) (fun c => absurd rfl c)
  exact nx _ _ (hx.m fm) hm
theorem lc_4 (hLX : LayX G) (hLM : LayM G) (g1 : cs.1 ≤ lim.1) (g2 : cs.2 ≤ lim.2) (h31 : L < 2147483648) (hi : i + 6 ≤ L) (hX : RelX μ s) (hM : RelM μ s) (nx : ∀ μ s, RelX μ s → RelM μ s → LJ nm G L xs lim cs 1264 i μ) : LJ nm G L xs lim cs 336 i μ := by
  have hO1 := hLX.1
  have hO2 := hLM.1
  unfold LJ
  refine J_aload_n (i := 1) qL_law_336 rfl rfl ?_
  refine J_aload_n (i := 0) qL_law_337 rfl rfl ?_
  refine J_iload_n (i := 3) qL_law_338 rfl rfl ?_
  refine J_pushI qL_law_339 ?_
  refine J_iadd_n qL_law_340 ?_
  refine J_sld qL_law_341 h31 (by omega) ?_
  refine J_aload_n (i := 0) qL_law_342 rfl rfl ?_
  refine J_iload_n (i := 3) qL_law_343 rfl rfl ?_
  refine J_pushI qL_law_344 ?_
  refine J_iadd_n qL_law_345 ?_
  refine J_sld qL_law_346 h31 (by omega) ?_
  refine J_aload_n (i := 0) qL_law_347 rfl rfl ?_
  refine J_iload_n (i := 3) qL_law_348 rfl rfl ?_
  refine J_pushI qL_law_349 ?_
  refine J_iadd_n qL_law_350 ?_
  refine J_sld qL_law_351 h31 (by omega) ?_
  refine J_aload_n (i := 0) qL_law_352 rfl rfl ?_
  refine J_iload_n (i := 3) qL_law_353 rfl rfl ?_
  refine J_pushI qL_law_354 ?_
  refine J_iadd_n qL_law_355 ?_
  refine J_sld qL_law_356 h31 (by omega) ?_
  refine J_aload_n (i := 0) qL_law_357 rfl rfl ?_
  refine J_iload_n (i := 3) qL_law_358 rfl rfl ?_
  refine J_pushI qL_law_359 ?_
  refine J_iadd_n qL_law_360 ?_
  refine J_sld qL_law_361 h31 (by omega) ?_
  refine J_lvI5 qL_law_362 kL_32 hO1 (x_copy hLX hX _ _ _ _ _) g1 g2 (Nat.le_of_ble_eq_true rfl) (fun r μ1 hr => ?_)
  obtain ⟨rfl, hx, fx⟩ := hr
  refine J_aload_n (i := 2) qL_law_365 rfl rfl ?_
  refine J_aload_n (i := 0) qL_law_366 rfl rfl ?_
  refine J_iload_n (i := 3) qL_law_367 rfl rfl ?_
  refine J_pushI qL_law_368 ?_
  refine J_iadd_n qL_law_369 ?_
  refine J_sld qL_law_370 h31 (by omega) ?_
  refine J_aload_n (i := 0) qL_law_371 rfl rfl ?_
  refine J_iload_n (i := 3) qL_law_372 rfl rfl ?_
  refine J_pushI qL_law_373 ?_
  refine J_iadd_n qL_law_374 ?_
  refine J_sld qL_law_375 h31 (by omega) ?_
  refine J_aload_n (i := 0) qL_law_376 rfl rfl ?_
  refine J_iload_n (i := 3) qL_law_377 rfl rfl ?_
  refine J_pushI qL_law_378 ?_
  refine J_iadd_n qL_law_379 ?_
  refine J_sld qL_law_380 h31 (by omega) ?_
  refine J_aload_n (i := 0) qL_law_381 rfl rfl ?_
  refine J_iload_n (i := 3) qL_law_382 rfl rfl ?_
  refine J_pushI qL_law_383 ?_
  refine J_iadd_n qL_law_384 ?_
  refine J_sld qL_law_385 h31 (by omega) ?_
  refine J_aload_n (i := 0) qL_law_386 rfl rfl ?_
  refine J_iload_n (i := 3) qL_law_387 rfl rfl ?_
  refine J_pushI qL_law_388 ?_
  refine J_iadd_n qL_law_389 ?_
  refine J_sld qL_law_390 h31 (by omega) ?_
  refine J_lvI5 qL_law_391 kL_36 hO2 (m_copy hLM (hM.x fx) _ _ _ _ _) g1 g2 (Nat.le_of_ble_eq_true rfl) (fun r μ2 hr => ?_)
  obtain ⟨rfl, hm, fm⟩ := hr
  refine J_icmp_eq qL_law_394 (fun _ => ?_) (fun c => absurd rfl c)
  exact nx _ _ (hx.m fm) hm
theorem lc_5 (hLX : LayX G) (hLM : LayM G) (g1 : cs.1 ≤ lim.1) (g2 : cs.2 ≤ lim.2) (h31 : L < 2147483648) (hi : i + 6 ≤ L) (hX : RelX μ s) (hM : RelM μ s) (nx : ∀ μ s, RelX μ s → RelM μ s → LJ nm G L xs lim cs 1264 i μ) : LJ nm G L xs lim cs 399 i μ := by
  have hO1 := hLX.1
  have hO2 := hLM.1
  unfold LJ
  refine J_aload_n (i := 1) qL_law_399 rfl rfl ?_
  refine J_aload_n (i := 0) qL_law_400 rfl rfl ?_
  refine J_iload_n (i := 3) qL_law_401 rfl rfl ?_
  refine J_pushI qL_law_402 ?_
  refine J_iadd_n qL_law_403 ?_
  refine J_sld qL_law_404 h31 (by omega) ?_
  refine J_lvI1 qL_law_405 kL_37 hO1 (x_mean hLX hX _) g1 g2 (Nat.le_of_ble_eq_true rfl) (fun r μ1 hr => ?_)
  obtain ⟨rfl, hx, fx⟩ := hr
  refine J_aload_n (i := 2) qL_law_408 rfl rfl ?_
  refine J_aload_n (i := 0) qL_law_409 rfl rfl ?_
  refine J_iload_n (i := 3) qL_law_410 rfl rfl ?_
  refine J_pushI qL_law_411 ?_
  refine J_iadd_n qL_law_412 ?_
  refine J_sld qL_law_413 h31 (by omega) ?_
  refine J_lvI1 qL_law_414 kL_40 hO2 (m_mean hLM (hM.x fx) _) g1 g2 (Nat.le_of_ble_eq_true rfl) (fun r μ2 hr => ?_)
  obtain ⟨rfl, hm, fm⟩ := hr
  refine J_icmp_eq qL_law_417 (fun _ => ?_) (fun c => absurd rfl c)
  exact nx _ _ (hx.m fm) hm
theorem lc_6 (hLX : LayX G) (hLM : LayM G) (g1 : cs.1 ≤ lim.1) (g2 : cs.2 ≤ lim.2) (h31 : L < 2147483648) (hi : i + 6 ≤ L) (hX : RelX μ s) (hM : RelM μ s) (nx : ∀ μ s, RelX μ s → RelM μ s → LJ nm G L xs lim cs 1264 i μ) : LJ nm G L xs lim cs 422 i μ := by
  have hO1 := hLX.1
  have hO2 := hLM.1
  unfold LJ
  refine J_aload_n (i := 1) qL_law_422 rfl rfl ?_
  refine J_aload_n (i := 0) qL_law_423 rfl rfl ?_
  refine J_iload_n (i := 3) qL_law_424 rfl rfl ?_
  refine J_pushI qL_law_425 ?_
  refine J_iadd_n qL_law_426 ?_
  refine J_sld qL_law_427 h31 (by omega) ?_
  refine J_aload_n (i := 0) qL_law_428 rfl rfl ?_
  refine J_iload_n (i := 3) qL_law_429 rfl rfl ?_
  refine J_pushI qL_law_430 ?_
  refine J_iadd_n qL_law_431 ?_
  refine J_sld qL_law_432 h31 (by omega) ?_
  refine J_lvI2 qL_law_433 kL_41 hO1 (x_text hLX hX _ _) g1 g2 (Nat.le_of_ble_eq_true rfl) (fun r μ1 hr => ?_)
  obtain ⟨rfl, hx, fx⟩ := hr
  refine J_aload_n (i := 2) qL_law_436 rfl rfl ?_
  refine J_aload_n (i := 0) qL_law_437 rfl rfl ?_
  refine J_iload_n (i := 3) qL_law_438 rfl rfl ?_
  refine J_pushI qL_law_439 ?_
  refine J_iadd_n qL_law_440 ?_
  refine J_sld qL_law_441 h31 (by omega) ?_
  refine J_aload_n (i := 0) qL_law_442 rfl rfl ?_
  refine J_iload_n (i := 3) qL_law_443 rfl rfl ?_
  refine J_pushI qL_law_444 ?_
  refine J_iadd_n qL_law_445 ?_
  refine J_sld qL_law_446 h31 (by omega) ?_
  refine J_lvI2 qL_law_447 kL_44 hO2 (m_text hLM (hM.x fx) _ _) g1 g2 (Nat.le_of_ble_eq_true rfl) (fun r μ2 hr => ?_)
  obtain ⟨rfl, hm, fm⟩ := hr
  refine J_icmp_eq qL_law_450 (fun _ => ?_) (fun c => absurd rfl c)
  exact nx _ _ (hx.m fm) hm
theorem lc_7 (hLX : LayX G) (hLM : LayM G) (g1 : cs.1 ≤ lim.1) (g2 : cs.2 ≤ lim.2) (h31 : L < 2147483648) (hi : i + 6 ≤ L) (hX : RelX μ s) (hM : RelM μ s) (nx : ∀ μ s, RelX μ s → RelM μ s → LJ nm G L xs lim cs 1264 i μ) : LJ nm G L xs lim cs 455 i μ := by
  have hO1 := hLX.1
  have hO2 := hLM.1
  unfold LJ
  refine J_aload_n (i := 1) qL_law_455 rfl rfl ?_
  refine J_aload_n (i := 0) qL_law_456 rfl rfl ?_
  refine J_iload_n (i := 3) qL_law_457 rfl rfl ?_
  refine J_pushI qL_law_458 ?_
  refine J_iadd_n qL_law_459 ?_
  refine J_sld qL_law_460 h31 (by omega) ?_
  refine J_aload_n (i := 0) qL_law_461 rfl rfl ?_
  refine J_iload_n (i := 3) qL_law_462 rfl rfl ?_
  refine J_pushI qL_law_463 ?_
  refine J_iadd_n qL_law_464 ?_
  refine J_sld qL_law_465 h31 (by omega) ?_
  refine J_aload_n (i := 0) qL_law_466 rfl rfl ?_
  refine J_iload_n (i := 3) qL_law_467 rfl rfl ?_
  refine J_pushI qL_law_468 ?_
  refine J_iadd_n qL_law_469 ?_
  refine J_sld qL_law_470 h31 (by omega) ?_
  refine J_lvI3 qL_law_471 kL_45 hO1 (x_put hLX hX _ _ _) g1 g2 (Nat.le_of_ble_eq_true rfl) (fun r μ1 hr => ?_)
  obtain ⟨rfl, hx, fx⟩ := hr
  refine J_aload_n (i := 2) qL_law_474 rfl rfl ?_
  refine J_aload_n (i := 0) qL_law_475 rfl rfl ?_
  refine J_iload_n (i := 3) qL_law_476 rfl rfl ?_
  refine J_pushI qL_law_477 ?_
  refine J_iadd_n qL_law_478 ?_
  refine J_sld qL_law_479 h31 (by omega) ?_
  refine J_aload_n (i := 0) qL_law_480 rfl rfl ?_
  refine J_iload_n (i := 3) qL_law_481 rfl rfl ?_
  refine J_pushI qL_law_482 ?_
  refine J_iadd_n qL_law_483 ?_
  refine J_sld qL_law_484 h31 (by omega) ?_
  refine J_aload_n (i := 0) qL_law_485 rfl rfl ?_
  refine J_iload_n (i := 3) qL_law_486 rfl rfl ?_
  refine J_pushI qL_law_487 ?_
  refine J_iadd_n qL_law_488 ?_
  refine J_sld qL_law_489 h31 (by omega) ?_
  refine J_lvI3 qL_law_490 kL_48 hO2 (m_put hLM (hM.x fx) _ _ _) g1 g2 (Nat.le_of_ble_eq_true rfl) (fun r μ2 hr => ?_)
  obtain ⟨rfl, hm, fm⟩ := hr
  refine J_icmp_eq qL_law_493 (fun _ => ?_) (fun c => absurd rfl c)
  exact nx _ _ (hx.m fm) hm
theorem lc_8 (hLX : LayX G) (hLM : LayM G) (g1 : cs.1 ≤ lim.1) (g2 : cs.2 ≤ lim.2) (h31 : L < 2147483648) (hi : i + 6 ≤ L) (hX : RelX μ s) (hM : RelM μ s) (nx : ∀ μ s, RelX μ s → RelM μ s → LJ nm G L xs lim cs 1264 i μ) : LJ nm G L xs lim cs 498 i μ := by
  have hO1 := hLX.1
  have hO2 := hLM.1
  unfold LJ
  refine J_aload_n (i := 1) qL_law_498 rfl rfl ?_
  refine J_aload_n (i := 0) qL_law_499 rfl rfl ?_
  refine J_iload_n (i := 3) qL_law_500 rfl rfl ?_
  refine J_pushI qL_law_501 ?_
  refine J_iadd_n qL_law_502 ?_
  refine J_sld qL_law_503 h31 (by omega) ?_
  refine J_lvI1 qL_law_504 kL_49 hO1 (x_fault hLX hX _) g1 g2 (Nat.le_of_ble_eq_true rfl) (fun r μ1 hr => ?_)
  obtain ⟨rfl, hx, fx⟩ := hr
  refine J_aload_n (i := 2) qL_law_507 rfl rfl ?_
  refine J_aload_n (i := 0) qL_law_508 rfl rfl ?_
  refine J_iload_n (i := 3) qL_law_509 rfl rfl ?_
  refine J_pushI qL_law_510 ?_
  refine J_iadd_n qL_law_511 ?_
  refine J_sld qL_law_512 h31 (by omega) ?_
  refine J_lvI1 qL_law_513 kL_52 hO2 (m_fault hLM (hM.x fx) _) g1 g2 (Nat.le_of_ble_eq_true rfl) (fun r μ2 hr => ?_)
  obtain ⟨rfl, hm, fm⟩ := hr
  refine J_icmp_eq qL_law_516 (fun _ => ?_) (fun c => absurd rfl c)
  exact nx _ _ (hx.m fm) hm
theorem lc_9 (hLX : LayX G) (hLM : LayM G) (g1 : cs.1 ≤ lim.1) (g2 : cs.2 ≤ lim.2) (h31 : L < 2147483648) (hi : i + 6 ≤ L) (hX : RelX μ s) (hM : RelM μ s) (nx : ∀ μ s, RelX μ s → RelM μ s → LJ nm G L xs lim cs 1264 i μ) : LJ nm G L xs lim cs 521 i μ := by
  have hO1 := hLX.1
  have hO2 := hLM.1
  unfold LJ
  refine J_aload_n (i := 1) qL_law_521 rfl rfl ?_
  refine J_aload_n (i := 0) qL_law_522 rfl rfl ?_
  refine J_iload_n (i := 3) qL_law_523 rfl rfl ?_
  refine J_pushI qL_law_524 ?_
  refine J_iadd_n qL_law_525 ?_
  refine J_sld qL_law_526 h31 (by omega) ?_
  refine J_lvI1 qL_law_527 kL_53 hO1 (x_program hLX hX _) g1 g2 (Nat.le_of_ble_eq_true rfl) (fun r μ1 hr => ?_)
  obtain ⟨rfl, hx, fx⟩ := hr
  refine J_aload_n (i := 2) qL_law_530 rfl rfl ?_
  refine J_aload_n (i := 0) qL_law_531 rfl rfl ?_
  refine J_iload_n (i := 3) qL_law_532 rfl rfl ?_
  refine J_pushI qL_law_533 ?_
  refine J_iadd_n qL_law_534 ?_
  refine J_sld qL_law_535 h31 (by omega) ?_
  refine J_lvI1 qL_law_536 kL_56 hO2 (m_program hLM (hM.x fx) _) g1 g2 (Nat.le_of_ble_eq_true rfl) (fun r μ2 hr => ?_)
  obtain ⟨rfl, hm, fm⟩ := hr
  refine J_icmp_eq qL_law_539 (fun _ => ?_) (fun c => absurd rfl c)
  exact nx _ _ (hx.m fm) hm
theorem lc_10 (hLX : LayX G) (hLM : LayM G) (g1 : cs.1 ≤ lim.1) (g2 : cs.2 ≤ lim.2) (h31 : L < 2147483648) (hi : i + 6 ≤ L) (hX : RelX μ s) (hM : RelM μ s) (nx : ∀ μ s, RelX μ s → RelM μ s → LJ nm G L xs lim cs 1264 i μ) : LJ nm G L xs lim cs 544 i μ := by
  have hO1 := hLX.1
  have hO2 := hLM.1
  unfold LJ
  refine J_aload_n (i := 1) qL_law_544 rfl rfl ?_
  refine J_aload_n (i := 0) qL_law_545 rfl rfl ?_
  refine J_iload_n (i := 3) qL_law_546 rfl rfl ?_
  refine J_pushI qL_law_547 ?_
  refine J_iadd_n qL_law_548 ?_
  refine J_sld qL_law_549 h31 (by omega) ?_
  refine J_lvI1 qL_law_550 kL_57 hO1 (x_write hLX hX _) g1 g2 (Nat.le_of_ble_eq_true rfl) (fun r μ1 hr => ?_)
  obtain ⟨rfl, hx, fx⟩ := hr
  refine J_aload_n (i := 2) qL_law_553 rfl rfl ?_
  refine J_aload_n (i := 0) qL_law_554 rfl rfl ?_
  refine J_iload_n (i := 3) qL_law_555 rfl rfl ?_
  refine J_pushI qL_law_556 ?_
  refine J_iadd_n qL_law_557 ?_
  refine J_sld qL_law_558 h31 (by omega) ?_
  refine J_lvI1 qL_law_559 kL_60 hO2 (m_write hLM (hM.x fx) _) g1 g2 (Nat.le_of_ble_eq_true rfl) (fun r μ2 hr => ?_)
  obtain ⟨rfl, hm, fm⟩ := hr
  refine J_icmp_eq qL_law_562 (fun _ => ?_) (fun c => absurd rfl c)
  exact nx _ _ (hx.m fm) hm
theorem lc_11 (hLX : LayX G) (hLM : LayM G) (g1 : cs.1 ≤ lim.1) (g2 : cs.2 ≤ lim.2) (h31 : L < 2147483648) (hi : i + 6 ≤ L) (hX : RelX μ s) (hM : RelM μ s) (nx : ∀ μ s, RelX μ s → RelM μ s → LJ nm G L xs lim cs 1264 i μ) : LJ nm G L xs lim cs 567 i μ := by
  have hO1 := hLX.1
  have hO2 := hLM.1
  unfold LJ
  refine J_aload_n (i := 1) qL_law_567 rfl rfl ?_
  refine J_aload_n (i := 0) qL_law_568 rfl rfl ?_
  refine J_iload_n (i := 3) qL_law_569 rfl rfl ?_
  refine J_pushI qL_law_570 ?_
  refine J_iadd_n qL_law_571 ?_
  refine J_sld qL_law_572 h31 (by omega) ?_
  refine J_lvI1 qL_law_573 kL_61 hO1 (x_hash hLX hX _) g1 g2 (Nat.le_of_ble_eq_true rfl) (fun r μ1 hr => ?_)
  obtain ⟨rfl, hx, fx⟩ := hr
  refine J_aload_n (i := 2) qL_law_576 rfl rfl ?_
  refine J_aload_n (i := 0) qL_law_577 rfl rfl ?_
  refine J_iload_n (i := 3) qL_law_578 rfl rfl ?_
  refine J_pushI qL_law_579 ?_
  refine J_iadd_n qL_law_580 ?_
  refine J_sld qL_law_581 h31 (by omega) ?_
  refine J_lvI1 qL_law_582 kL_64 hO2 (m_hash hLM (hM.x fx) _) g1 g2 (Nat.le_of_ble_eq_true rfl) (fun r μ2 hr => ?_)
  obtain ⟨rfl, hm, fm⟩ := hr
  refine J_icmp_eq qL_law_585 (fun _ => ?_) (fun c => absurd rfl c)
  exact nx _ _ (hx.m fm) hm
theorem lc_12 (hLX : LayX G) (hLM : LayM G) (g1 : cs.1 ≤ lim.1) (g2 : cs.2 ≤ lim.2) (h31 : L < 2147483648) (hi : i + 6 ≤ L) (hX : RelX μ s) (hM : RelM μ s) (nx : ∀ μ s, RelX μ s → RelM μ s → LJ nm G L xs lim cs 1264 i μ) : LJ nm G L xs lim cs 590 i μ := by
  have hO1 := hLX.1
  have hO2 := hLM.1
  unfold LJ
  refine J_aload_n (i := 1) qL_law_590 rfl rfl ?_
  refine J_aload_n (i := 0) qL_law_591 rfl rfl ?_
  refine J_iload_n (i := 3) qL_law_592 rfl rfl ?_
  refine J_pushI qL_law_593 ?_
  refine J_iadd_n qL_law_594 ?_
  refine J_sld qL_law_595 h31 (by omega) ?_
  refine J_aload_n (i := 0) qL_law_596 rfl rfl ?_
  refine J_iload_n (i := 3) qL_law_597 rfl rfl ?_
  refine J_pushI qL_law_598 ?_
  refine J_iadd_n qL_law_599 ?_
  refine J_sld qL_law_600 h31 (by omega) ?_
  refine J_lvI2 qL_law_601 kL_65 hO1 (x_told hLX hX _ _) g1 g2 (Nat.le_of_ble_eq_true rfl) (fun r μ1 hr => ?_)
  obtain ⟨rfl, hx, fx⟩ := hr
  refine J_aload_n (i := 2) qL_law_604 rfl rfl ?_
  refine J_aload_n (i := 0) qL_law_605 rfl rfl ?_
  refine J_iload_n (i := 3) qL_law_606 rfl rfl ?_
  refine J_pushI qL_law_607 ?_
  refine J_iadd_n qL_law_608 ?_
  refine J_sld qL_law_609 h31 (by omega) ?_
  refine J_aload_n (i := 0) qL_law_610 rfl rfl ?_
  refine J_iload_n (i := 3) qL_law_611 rfl rfl ?_
  refine J_pushI qL_law_612 ?_
  refine J_iadd_n qL_law_613 ?_
  refine J_sld qL_law_614 h31 (by omega) ?_
  refine J_lvI2 qL_law_615 kL_68 hO2 (m_told hLM (hM.x fx) _ _) g1 g2 (Nat.le_of_ble_eq_true rfl) (fun r μ2 hr => ?_)
  obtain ⟨rfl, hm, fm⟩ := hr
  refine J_icmp_eq qL_law_618 (fun _ => ?_) (fun c => absurd rfl c)
  exact nx _ _ (hx.m fm) hm
theorem lc_13 (hLX : LayX G) (hLM : LayM G) (g1 : cs.1 ≤ lim.1) (g2 : cs.2 ≤ lim.2) (h31 : L < 2147483648) (hi : i + 6 ≤ L) (hX : RelX μ s) (hM : RelM μ s) (nx : ∀ μ s, RelX μ s → RelM μ s → LJ nm G L xs lim cs 1264 i μ) : LJ nm G L xs lim cs 623 i μ := by
  have hO1 := hLX.1
  have hO2 := hLM.1
  unfold LJ
  refine J_aload_n (i := 1) qL_law_623 rfl rfl ?_
  refine J_aload_n (i := 0) qL_law_624 rfl rfl ?_
  refine J_iload_n (i := 3) qL_law_625 rfl rfl ?_
  refine J_pushI qL_law_626 ?_
  refine J_iadd_n qL_law_627 ?_
  refine J_sld qL_law_628 h31 (by omega) ?_
  refine J_aload_n (i := 0) qL_law_629 rfl rfl ?_
  refine J_iload_n (i := 3) qL_law_630 rfl rfl ?_
  refine J_pushI qL_law_631 ?_
  refine J_iadd_n qL_law_632 ?_
  refine J_sld qL_law_633 h31 (by omega) ?_
  refine J_aload_n (i := 0) qL_law_634 rfl rfl ?_
  refine J_iload_n (i := 3) qL_law_635 rfl rfl ?_
  refine J_pushI qL_law_636 ?_
  refine J_iadd_n qL_law_637 ?_
  refine J_sld qL_law_638 h31 (by omega) ?_
  refine J_aload_n (i := 0) qL_law_639 rfl rfl ?_
  refine J_iload_n (i := 3) qL_law_640 rfl rfl ?_
  refine J_pushI qL_law_641 ?_
  refine J_iadd_n qL_law_642 ?_
  refine J_sld qL_law_643 h31 (by omega) ?_
  refine J_lvI4 qL_law_644 kL_69 hO1 (x_add hLX hX _ _ _ _) g1 g2 (Nat.le_of_ble_eq_true rfl) (fun r μ1 hr => ?_)
  obtain ⟨rfl, hx, fx⟩ := hr
  refine J_aload_n (i := 2) qL_law_647 rfl rfl ?_
  refine J_aload_n (i := 0) qL_law_648 rfl rfl ?_
  refine J_iload_n (i := 3) qL_law_649 rfl rfl ?_
  refine J_pushI qL_law_650 ?_
  refine J_iadd_n qL_law_651 ?_
  refine J_sld qL_law_652 h31 (by omega) ?_
  refine J_aload_n (i := 0) qL_law_653 rfl rfl ?_
  refine J_iload_n (i := 3) qL_law_654 rfl rfl ?_
  refine J_pushI qL_law_655 ?_
  refine J_iadd_n qL_law_656 ?_
  refine J_sld qL_law_657 h31 (by omega) ?_
  refine J_aload_n (i := 0) qL_law_658 rfl rfl ?_
  refine J_iload_n (i := 3) qL_law_659 rfl rfl ?_
  refine J_pushI qL_law_660 ?_
  refine J_iadd_n qL_law_661 ?_
  refine J_sld qL_law_662 h31 (by omega) ?_
  refine J_aload_n (i := 0) qL_law_663 rfl rfl ?_
  refine J_iload_n (i := 3) qL_law_664 rfl rfl ?_
  refine J_pushI qL_law_665 ?_
  refine J_iadd_n qL_law_666 ?_
  refine J_sld qL_law_667 h31 (by omega) ?_
  refine J_lvI4 qL_law_668 kL_73 hO2 (m_add hLM (hM.x fx) _ _ _ _) g1 g2 (Nat.le_of_ble_eq_true rfl) (fun r μ2 hr => ?_)
  obtain ⟨rfl, hm, fm⟩ := hr
  refine J_icmp_eq qL_law_671 (fun _ => ?_) (fun c => absurd rfl c)
  exact nx _ _ (hx.m fm) hm
theorem lc_14 (hLX : LayX G) (hLM : LayM G) (g1 : cs.1 ≤ lim.1) (g2 : cs.2 ≤ lim.2) (h31 : L < 2147483648) (hi : i + 6 ≤ L) (hX : RelX μ s) (hM : RelM μ s) (nx : ∀ μ s, RelX μ s → RelM μ s → LJ nm G L xs lim cs 1264 i μ) : LJ nm G L xs lim cs 676 i μ := by
  have hO1 := hLX.1
  have hO2 := hLM.1
  unfold LJ
  refine J_aload_n (i := 1) qL_law_676 rfl rfl ?_
  refine J_aload_n (i := 0) qL_law_677 rfl rfl ?_
  refine J_iload_n (i := 3) qL_law_678 rfl rfl ?_
  refine J_pushI qL_law_679 ?_
  refine J_iadd_n qL_law_680 ?_
  refine J_sld qL_law_681 h31 (by omega) ?_
  refine J_lvI1 qL_law_682 kL_74 hO1 (x_cut hLX hX _) g1 g2 (Nat.le_of_ble_eq_true rfl) (fun r μ1 hr => ?_)
  obtain ⟨rfl, hx, fx⟩ := hr
  refine J_aload_n (i := 2) qL_law_685 rfl rfl ?_
  refine J_aload_n (i := 0) qL_law_686 rfl rfl ?_
  refine J_iload_n (i := 3) qL_law_687 rfl rfl ?_
  refine J_pushI qL_law_688 ?_
  refine J_iadd_n qL_law_689 ?_
  refine J_sld qL_law_690 h31 (by omega) ?_
  refine J_lvI1 qL_law_691 kL_77 hO2 (m_cut hLM (hM.x fx) _) g1 g2 (Nat.le_of_ble_eq_true rfl) (fun r μ2 hr => ?_)
  obtain ⟨rfl, hm, fm⟩ := hr
  refine J_icmp_eq qL_law_694 (fun _ => ?_) (fun c => absurd rfl c)
  exact nx _ _ (hx.m fm) hm
theorem lc_15 (hLX : LayX G) (hLM : LayM G) (g1 : cs.1 ≤ lim.1) (g2 : cs.2 ≤ lim.2) (h31 : L < 2147483648) (hi : i + 6 ≤ L) (hX : RelX μ s) (hM : RelM μ s) (nx : ∀ μ s, RelX μ s → RelM μ s → LJ nm G L xs lim cs 1264 i μ) : LJ nm G L xs lim cs 699 i μ := by
  have hO1 := hLX.1
  have hO2 := hLM.1
  unfold LJ
  refine J_aload_n (i := 1) qL_law_699 rfl rfl ?_
  refine J_aload_n (i := 0) qL_law_700 rfl rfl ?_
  refine J_iload_n (i := 3) qL_law_701 rfl rfl ?_
  refine J_pushI qL_law_702 ?_
  refine J_iadd_n qL_law_703 ?_
  refine J_sld qL_law_704 h31 (by omega) ?_
  refine J_aload_n (i := 0) qL_law_705 rfl rfl ?_
  refine J_iload_n (i := 3) qL_law_706 rfl rfl ?_
  refine J_pushI qL_law_707 ?_
  refine J_iadd_n qL_law_708 ?_
  refine J_sld qL_law_709 h31 (by omega) ?_
  refine J_lvI2 qL_law_710 kL_78 hO1 (x_aim hLX hX _ _) g1 g2 (Nat.le_of_ble_eq_true rfl) (fun r μ1 hr => ?_)
  obtain ⟨rfl, hx, fx⟩ := hr
  refine J_aload_n (i := 2) qL_law_713 rfl rfl ?_
  refine J_aload_n (i := 0) qL_law_714 rfl rfl ?_
  refine J_iload_n (i := 3) qL_law_715 rfl rfl ?_
  refine J_pushI qL_law_716 ?_
  refine J_iadd_n qL_law_717 ?_
  refine J_sld qL_law_718 h31 (by omega) ?_
  refine J_aload_n (i := 0) qL_law_719 rfl rfl ?_
  refine J_iload_n (i := 3) qL_law_720 rfl rfl ?_
  refine J_pushI qL_law_721 ?_
  refine J_iadd_n qL_law_722 ?_
  refine J_sld qL_law_723 h31 (by omega) ?_
  refine J_lvI2 qL_law_724 kL_81 hO2 (m_aim hLM (hM.x fx) _ _) g1 g2 (Nat.le_of_ble_eq_true rfl) (fun r μ2 hr => ?_)
  obtain ⟨rfl, hm, fm⟩ := hr
  refine J_icmp_eq qL_law_727 (fun _ => ?_) (fun c => absurd rfl c)
  exact nx _ _ (hx.m fm) hm
theorem lc_16 (hLX : LayX G) (hLM : LayM G) (g1 : cs.1 ≤ lim.1) (g2 : cs.2 ≤ lim.2) (h31 : L < 2147483648) (hi : i + 6 ≤ L) (hX : RelX μ s) (hM : RelM μ s) (nx : ∀ μ s, RelX μ s → RelM μ s → LJ nm G L xs lim cs 1264 i μ) : LJ nm G L xs lim cs 732 i μ := by
  have hO1 := hLX.1
  have hO2 := hLM.1
  unfold LJ
  refine J_aload_n (i := 1) qL_law_732 rfl rfl ?_
  refine J_aload_n (i := 0) qL_law_733 rfl rfl ?_
  refine J_iload_n (i := 3) qL_law_734 rfl rfl ?_
  refine J_pushI qL_law_735 ?_
  refine J_iadd_n qL_law_736 ?_
  refine J_sld qL_law_737 h31 (by omega) ?_
  refine J_aload_n (i := 0) qL_law_738 rfl rfl ?_
  refine J_iload_n (i := 3) qL_law_739 rfl rfl ?_
  refine J_pushI qL_law_740 ?_
  refine J_iadd_n qL_law_741 ?_
  refine J_sld qL_law_742 h31 (by omega) ?_
  refine J_lvI2 qL_law_743 kL_82 hO1 (x_weigh hLX hX _ _) g1 g2 (Nat.le_of_ble_eq_true rfl) (fun r μ1 hr => ?_)
  obtain ⟨rfl, hx, fx⟩ := hr
  refine J_aload_n (i := 2) qL_law_746 rfl rfl ?_
  refine J_aload_n (i := 0) qL_law_747 rfl rfl ?_
  refine J_iload_n (i := 3) qL_law_748 rfl rfl ?_
  refine J_pushI qL_law_749 ?_
  refine J_iadd_n qL_law_750 ?_
  refine J_sld qL_law_751 h31 (by omega) ?_
  refine J_aload_n (i := 0) qL_law_752 rfl rfl ?_
  refine J_iload_n (i := 3) qL_law_753 rfl rfl ?_
  refine J_pushI qL_law_754 ?_
  refine J_iadd_n qL_law_755 ?_
  refine J_sld qL_law_756 h31 (by omega) ?_
  refine J_lvI2 qL_law_757 kL_85 hO2 (m_weigh hLM (hM.x fx) _ _) g1 g2 (Nat.le_of_ble_eq_true rfl) (fun r μ2 hr => ?_)
  obtain ⟨rfl, hm, fm⟩ := hr
  refine J_icmp_eq qL_law_760 (fun _ => ?_) (fun c => absurd rfl c)
  exact nx _ _ (hx.m fm) hm
theorem lc_17 (hLX : LayX G) (hLM : LayM G) (g1 : cs.1 ≤ lim.1) (g2 : cs.2 ≤ lim.2) (h31 : L < 2147483648) (hi : i + 6 ≤ L) (hX : RelX μ s) (hM : RelM μ s) (nx : ∀ μ s, RelX μ s → RelM μ s → LJ nm G L xs lim cs 1264 i μ) : LJ nm G L xs lim cs 765 i μ := by
  have hO1 := hLX.1
  have hO2 := hLM.1
  unfold LJ
  refine J_aload_n (i := 1) qL_law_765 rfl rfl ?_
  refine J_aload_n (i := 0) qL_law_766 rfl rfl ?_
  refine J_iload_n (i := 3) qL_law_767 rfl rfl ?_
  refine J_pushI qL_law_768 ?_
  refine J_iadd_n qL_law_769 ?_
  refine J_sld qL_law_770 h31 (by omega) ?_
  refine J_lvI1 qL_law_771 kL_86 hO1 (x_undo hLX hX _) g1 g2 (Nat.le_of_ble_eq_true rfl) (fun r μ1 hr => ?_)
  obtain ⟨rfl, hx, fx⟩ := hr
  refine J_aload_n (i := 2) qL_law_774 rfl rfl ?_
  refine J_aload_n (i := 0) qL_law_775 rfl rfl ?_
  refine J_iload_n (i := 3) qL_law_776 rfl rfl ?_
  refine J_pushI qL_law_777 ?_
  refine J_iadd_n qL_law_778 ?_
  refine J_sld qL_law_779 h31 (by omega) ?_
  refine J_lvI1 qL_law_780 kL_89 hO2 (m_undo hLM (hM.x fx) _) g1 g2 (Nat.le_of_ble_eq_true rfl) (fun r μ2 hr => ?_)
  obtain ⟨rfl, hm, fm⟩ := hr
  refine J_icmp_eq qL_law_783 (fun _ => ?_) (fun c => absurd rfl c)
  exact nx _ _ (hx.m fm) hm
theorem lc_18 (hLX : LayX G) (hLM : LayM G) (g1 : cs.1 ≤ lim.1) (g2 : cs.2 ≤ lim.2) (h31 : L < 2147483648) (hi : i + 6 ≤ L) (hX : RelX μ s) (hM : RelM μ s) (nx : ∀ μ s, RelX μ s → RelM μ s → LJ nm G L xs lim cs 1264 i μ) : LJ nm G L xs lim cs 788 i μ := by
  have hO1 := hLX.1
  have hO2 := hLM.1
  unfold LJ
  refine J_aload_n (i := 1) qL_law_788 rfl rfl ?_
  refine J_aload_n (i := 0) qL_law_789 rfl rfl ?_
  refine J_iload_n (i := 3) qL_law_790 rfl rfl ?_
  refine J_pushI qL_law_791 ?_
  refine J_iadd_n qL_law_792 ?_
  refine J_sld qL_law_793 h31 (by omega) ?_
  refine J_lvI1 qL_law_794 kL_90 hO1 (x_keep hLX hX _) g1 g2 (Nat.le_of_ble_eq_true rfl) (fun r μ1 hr => ?_)
  obtain ⟨rfl, hx, fx⟩ := hr
  refine J_aload_n (i := 2) qL_law_797 rfl rfl ?_
  refine J_aload_n (i := 0) qL_law_798 rfl rfl ?_
  refine J_iload_n (i := 3) qL_law_799 rfl rfl ?_
  refine J_pushI qL_law_800 ?_
  refine J_iadd_n qL_law_801 ?_
  refine J_sld qL_law_802 h31 (by omega) ?_
  refine J_lvI1 qL_law_803 kL_93 hO2 (m_keep hLM (hM.x fx) _) g1 g2 (Nat.le_of_ble_eq_true rfl) (fun r μ2 hr => ?_)
  obtain ⟨rfl, hm, fm⟩ := hr
  refine J_icmp_eq qL_law_806 (fun _ => ?_) (fun c => absurd rfl c)
  exact nx _ _ (hx.m fm) hm
theorem lc_19 (hLX : LayX G) (hLM : LayM G) (g1 : cs.1 ≤ lim.1) (g2 : cs.2 ≤ lim.2) (h31 : L < 2147483648) (hi : i + 6 ≤ L) (hX : RelX μ s) (hM : RelM μ s) (nx : ∀ μ s, RelX μ s → RelM μ s → LJ nm G L xs lim cs 1264 i μ) : LJ nm G L xs lim cs 811 i μ := by
  have hO1 := hLX.1
  have hO2 := hLM.1
  unfold LJ
  refine J_aload_n (i := 1) qL_law_811 rfl rfl ?_
  refine J_aload_n (i := 0) qL_law_812 rfl rfl ?_
  refine J_iload_n (i := 3) qL_law_813 rfl rfl ?_
  refine J_pushI qL_law_814 ?_
  refine J_iadd_n qL_law_815 ?_
  refine J_sld qL_law_816 h31 (by omega) ?_
  refine J_lvI1 qL_law_817 kL_94 hO1 (x_on hLX hX _) g1 g2 (Nat.le_of_ble_eq_true rfl) (fun r μ1 hr => ?_)
  obtain ⟨rfl, hx, fx⟩ := hr
  refine J_aload_n (i := 2) qL_law_820 rfl rfl ?_
  refine J_aload_n (i := 0) qL_law_821 rfl rfl ?_
  refine J_iload_n (i := 3) qL_law_822 rfl rfl ?_
  refine J_pushI qL_law_823 ?_
  refine J_iadd_n qL_law_824 ?_
  refine J_sld qL_law_825 h31 (by omega) ?_
  refine J_lvI1 qL_law_826 kL_97 hO2 (m_on hLM (hM.x fx) _) g1 g2 (Nat.le_of_ble_eq_true rfl) (fun r μ2 hr => ?_)
  obtain ⟨rfl, hm, fm⟩ := hr
  refine J_icmp_eq qL_law_829 (fun _ => ?_) (fun c => absurd rfl c)
  exact nx _ _ (hx.m fm) hm
theorem lc_20 (hLX : LayX G) (hLM : LayM G) (g1 : cs.1 ≤ lim.1) (g2 : cs.2 ≤ lim.2) (h31 : L < 2147483648) (hi : i + 6 ≤ L) (hX : RelX μ s) (hM : RelM μ s) (nx : ∀ μ s, RelX μ s → RelM μ s → LJ nm G L xs lim cs 1264 i μ) : LJ nm G L xs lim cs 834 i μ := by
  have hO1 := hLX.1
  have hO2 := hLM.1
  unfold LJ
  refine J_aload_n (i := 1) qL_law_834 rfl rfl ?_
  refine J_aload_n (i := 0) qL_law_835 rfl rfl ?_
  refine J_iload_n (i := 3) qL_law_836 rfl rfl ?_
  refine J_pushI qL_law_837 ?_
  refine J_iadd_n qL_law_838 ?_
  refine J_sld qL_law_839 h31 (by omega) ?_
  refine J_lvI1 qL_law_840 kL_98 hO1 (x_reach hLX hX _) g1 g2 (Nat.le_of_ble_eq_true rfl) (fun r μ1 hr => ?_)
  obtain ⟨rfl, hx, fx⟩ := hr
  refine J_aload_n (i := 2) qL_law_843 rfl rfl ?_
  refine J_aload_n (i := 0) qL_law_844 rfl rfl ?_
  refine J_iload_n (i := 3) qL_law_845 rfl rfl ?_
  refine J_pushI qL_law_846 ?_
  refine J_iadd_n qL_law_847 ?_
  refine J_sld qL_law_848 h31 (by omega) ?_
  refine J_lvI1 qL_law_849 kL_101 hO2 (m_reach hLM (hM.x fx) _) g1 g2 (Nat.le_of_ble_eq_true rfl) (fun r μ2 hr => ?_)
  obtain ⟨rfl, hm, fm⟩ := hr
  refine J_icmp_eq qL_law_852 (fun _ => ?_) (fun c => absurd rfl c)
  exact nx _ _ (hx.m fm) hm
theorem lc_21 (hLX : LayX G) (hLM : LayM G) (g1 : cs.1 ≤ lim.1) (g2 : cs.2 ≤ lim.2) (h31 : L < 2147483648) (hi : i + 6 ≤ L) (hX : RelX μ s) (hM : RelM μ s) (nx : ∀ μ s, RelX μ s → RelM μ s → LJ nm G L xs lim cs 1264 i μ) : LJ nm G L xs lim cs 857 i μ := by
  have hO1 := hLX.1
  have hO2 := hLM.1
  unfold LJ
  refine J_aload_n (i := 1) qL_law_857 rfl rfl ?_
  refine J_aload_n (i := 0) qL_law_858 rfl rfl ?_
  refine J_iload_n (i := 3) qL_law_859 rfl rfl ?_
  refine J_pushI qL_law_860 ?_
  refine J_iadd_n qL_law_861 ?_
  refine J_sld qL_law_862 h31 (by omega) ?_
  refine J_lvI1 qL_law_863 kL_102 hO1 (x_run hLX hX _) g1 g2 (Nat.le_of_ble_eq_true rfl) (fun r μ1 hr => ?_)
  obtain ⟨rfl, hx, fx⟩ := hr
  refine J_aload_n (i := 2) qL_law_866 rfl rfl ?_
  refine J_aload_n (i := 0) qL_law_867 rfl rfl ?_
  refine J_iload_n (i := 3) qL_law_868 rfl rfl ?_
  refine J_pushI qL_law_869 ?_
  refine J_iadd_n qL_law_870 ?_
  refine J_sld qL_law_871 h31 (by omega) ?_
  refine J_lvI1 qL_law_872 kL_105 hO2 (m_run hLM (hM.x fx) _) g1 g2 (Nat.le_of_ble_eq_true rfl) (fun r μ2 hr => ?_)
  obtain ⟨rfl, hm, fm⟩ := hr
  refine J_icmp_eq qL_law_875 (fun _ => ?_) (fun c => absurd rfl c)
  exact nx _ _ (hx.m fm) hm
theorem lc_22 (hLX : LayX G) (hLM : LayM G) (g1 : cs.1 ≤ lim.1) (g2 : cs.2 ≤ lim.2) (h31 : L < 2147483648) (hi : i + 6 ≤ L) (hX : RelX μ s) (hM : RelM μ s) (nx : ∀ μ s, RelX μ s → RelM μ s → LJ nm G L xs lim cs 1264 i μ) : LJ nm G L xs lim cs 880 i μ := by
  have hO1 := hLX.1
  have hO2 := hLM.1
  unfold LJ
  refine J_aload_n (i := 1) qL_law_880 rfl rfl ?_
  refine J_lvI0 qL_law_881 kL_106 hO1 (x_cost hLX hX ) g1 g2 (Nat.le_of_ble_eq_true rfl) (fun r μ1 hr => ?_)
  obtain ⟨rfl, hx, fx⟩ := hr
  refine J_aload_n (i := 2) qL_law_884 rfl rfl ?_
  refine J_lvI0 qL_law_885 kL_110 hO2 (m_cost hLM (hM.x fx) ) g1 g2 (Nat.le_of_ble_eq_true rfl) (fun r μ2 hr => ?_)
  obtain ⟨rfl, hm, fm⟩ := hr
  refine J_icmp_eq qL_law_888 (fun _ => ?_) (fun c => absurd rfl c)
  exact nx _ _ (hx.m fm) hm
theorem lc_23 (hLX : LayX G) (hLM : LayM G) (g1 : cs.1 ≤ lim.1) (g2 : cs.2 ≤ lim.2) (h31 : L < 2147483648) (hi : i + 6 ≤ L) (hX : RelX μ s) (hM : RelM μ s) (nx : ∀ μ s, RelX μ s → RelM μ s → LJ nm G L xs lim cs 1264 i μ) : LJ nm G L xs lim cs 893 i μ := by
  have hO1 := hLX.1
  have hO2 := hLM.1
  unfold LJ
  refine J_aload_n (i := 1) qL_law_893 rfl rfl ?_
  refine J_aload_n (i := 0) qL_law_894 rfl rfl ?_
  refine J_iload_n (i := 3) qL_law_895 rfl rfl ?_
  refine J_pushI qL_law_896 ?_
  refine J_iadd_n qL_law_897 ?_
  refine J_sld qL_law_898 h31 (by omega) ?_
  refine J_aload_n (i := 0) qL_law_899 rfl rfl ?_
  refine J_iload_n (i := 3) qL_law_900 rfl rfl ?_
  refine J_pushI qL_law_901 ?_
  refine J_iadd_n qL_law_902 ?_
  refine J_sld qL_law_903 h31 (by omega) ?_
  refine J_lvI2 qL_law_904 kL_111 hO1 (x_part hLX hX _ _) g1 g2 (Nat.le_of_ble_eq_true rfl) (fun r μ1 hr => ?_)
  obtain ⟨rfl, hx, fx⟩ := hr
  refine J_aload_n (i := 2) qL_law_907 rfl rfl ?_
  refine J_aload_n (i := 0) qL_law_908 rfl rfl ?_
  refine J_iload_n (i := 3) qL_law_909 rfl rfl ?_
  refine J_pushI qL_law_910 ?_
  refine J_iadd_n qL_law_911 ?_
  refine J_sld qL_law_912 h31 (by omega) ?_
  refine J_aload_n (i := 0) qL_law_913 rfl rfl ?_
  refine J_iload_n (i := 3) qL_law_914 rfl rfl ?_
  refine J_pushI qL_law_915 ?_
  refine J_iadd_n qL_law_916 ?_
  refine J_sld qL_law_917 h31 (by omega) ?_
  refine J_lvI2 qL_law_918 kL_114 hO2 (m_part hLM (hM.x fx) _ _) g1 g2 (Nat.le_of_ble_eq_true rfl) (fun r μ2 hr => ?_)
  obtain ⟨rfl, hm, fm⟩ := hr
  refine J_icmp_eq qL_law_921 (fun _ => ?_) (fun c => absurd rfl c)
  exact nx _ _ (hx.m fm) hm
theorem lc_24 (hLX : LayX G) (hLM : LayM G) (g1 : cs.1 ≤ lim.1) (g2 : cs.2 ≤ lim.2) (h31 : L < 2147483648) (hi : i + 6 ≤ L) (hX : RelX μ s) (hM : RelM μ s) (nx : ∀ μ s, RelX μ s → RelM μ s → LJ nm G L xs lim cs 1264 i μ) : LJ nm G L xs lim cs 926 i μ := by
  have hO1 := hLX.1
  have hO2 := hLM.1
  unfold LJ
  refine J_aload_n (i := 1) qL_law_926 rfl rfl ?_
  refine J_aload_n (i := 0) qL_law_927 rfl rfl ?_
  refine J_iload_n (i := 3) qL_law_928 rfl rfl ?_
  refine J_pushI qL_law_929 ?_
  refine J_iadd_n qL_law_930 ?_
  refine J_sld qL_law_931 h31 (by omega) ?_
  refine J_aload_n (i := 0) qL_law_932 rfl rfl ?_
  refine J_iload_n (i := 3) qL_law_933 rfl rfl ?_
  refine J_pushI qL_law_934 ?_
  refine J_iadd_n qL_law_935 ?_
  refine J_sld qL_law_936 h31 (by omega) ?_
  refine J_lvI2 qL_law_937 kL_115 hO1 (x_mark hLX hX _ _) g1 g2 (Nat.le_of_ble_eq_true rfl) (fun r μ1 hr => ?_)
  obtain ⟨rfl, hx, fx⟩ := hr
  refine J_aload_n (i := 2) qL_law_940 rfl rfl ?_
  refine J_aload_n (i := 0) qL_law_941 rfl rfl ?_
  refine J_iload_n (i := 3) qL_law_942 rfl rfl ?_
  refine J_pushI qL_law_943 ?_
  refine J_iadd_n qL_law_944 ?_
  refine J_sld qL_law_945 h31 (by omega) ?_
  refine J_aload_n (i := 0) qL_law_946 rfl rfl ?_
  refine J_iload_n (i := 3) qL_law_947 rfl rfl ?_
  refine J_pushI qL_law_948 ?_
  refine J_iadd_n qL_law_949 ?_
  refine J_sld qL_law_950 h31 (by omega) ?_
  refine J_lvI2 qL_law_951 kL_118 hO2 (m_mark hLM (hM.x fx) _ _) g1 g2 (Nat.le_of_ble_eq_true rfl) (fun r μ2 hr => ?_)
  obtain ⟨rfl, hm, fm⟩ := hr
  refine J_icmp_eq qL_law_954 (fun _ => ?_) (fun c => absurd rfl c)
  exact nx _ _ (hx.m fm) hm
theorem lc_25 (hLX : LayX G) (hLM : LayM G) (g1 : cs.1 ≤ lim.1) (g2 : cs.2 ≤ lim.2) (h31 : L < 2147483648) (hi : i + 6 ≤ L) (hX : RelX μ s) (hM : RelM μ s) (nx : ∀ μ s, RelX μ s → RelM μ s → LJ nm G L xs lim cs 1264 i μ) : LJ nm G L xs lim cs 959 i μ := by
  have hO1 := hLX.1
  have hO2 := hLM.1
  unfold LJ
  refine J_aload_n (i := 1) qL_law_959 rfl rfl ?_
  refine J_aload_n (i := 0) qL_law_960 rfl rfl ?_
  refine J_iload_n (i := 3) qL_law_961 rfl rfl ?_
  refine J_pushI qL_law_962 ?_
  refine J_iadd_n qL_law_963 ?_
  refine J_sld qL_law_964 h31 (by omega) ?_
  refine J_aload_n (i := 0) qL_law_965 rfl rfl ?_
  refine J_iload_n (i := 3) qL_law_966 rfl rfl ?_
  refine J_pushI qL_law_967 ?_
  refine J_iadd_n qL_law_968 ?_
  refine J_sld qL_law_969 h31 (by omega) ?_
  refine J_lvI2 qL_law_970 kL_119 hO1 (x_jump hLX hX _ _) g1 g2 (Nat.le_of_ble_eq_true rfl) (fun r μ1 hr => ?_)
  obtain ⟨rfl, hx, fx⟩ := hr
  refine J_aload_n (i := 2) qL_law_973 rfl rfl ?_
  refine J_aload_n (i := 0) qL_law_974 rfl rfl ?_
  refine J_iload_n (i := 3) qL_law_975 rfl rfl ?_
  refine J_pushI qL_law_976 ?_
  refine J_iadd_n qL_law_977 ?_
  refine J_sld qL_law_978 h31 (by omega) ?_
  refine J_aload_n (i := 0) qL_law_979 rfl rfl ?_
  refine J_iload_n (i := 3) qL_law_980 rfl rfl ?_
  refine J_pushI qL_law_981 ?_
  refine J_iadd_n qL_law_982 ?_
  refine J_sld qL_law_983 h31 (by omega) ?_
  refine J_lvI2 qL_law_984 kL_122 hO2 (m_jump hLM (hM.x fx) _ _) g1 g2 (Nat.le_of_ble_eq_true rfl) (fun r μ2 hr => ?_)
  obtain ⟨rfl, hm, fm⟩ := hr
  refine J_icmp_eq qL_law_987 (fun _ => ?_) (fun c => absurd rfl c)
  exact nx _ _ (hx.m fm) hm
theorem lc_26 (hLX : LayX G) (hLM : LayM G) (g1 : cs.1 ≤ lim.1) (g2 : cs.2 ≤ lim.2) (h31 : L < 2147483648) (hi : i + 6 ≤ L) (hX : RelX μ s) (hM : RelM μ s) (nx : ∀ μ s, RelX μ s → RelM μ s → LJ nm G L xs lim cs 1264 i μ) : LJ nm G L xs lim cs 992 i μ := by
  have hO1 := hLX.1
  have hO2 := hLM.1
  unfold LJ
  refine J_aload_n (i := 1) qL_law_992 rfl rfl ?_
  refine J_aload_n (i := 0) qL_law_993 rfl rfl ?_
  refine J_iload_n (i := 3) qL_law_994 rfl rfl ?_
  refine J_pushI qL_law_995 ?_
  refine J_iadd_n qL_law_996 ?_
  refine J_sld qL_law_997 h31 (by omega) ?_
  refine J_aload_n (i := 0) qL_law_998 rfl rfl ?_
  refine J_iload_n (i := 3) qL_law_999 rfl rfl ?_
  refine J_pushI qL_law_1000 ?_
  refine J_iadd_n qL_law_1001 ?_
  refine J_sld qL_law_1002 h31 (by omega) ?_
  refine J_lvI2 qL_law_1003 kL_123 hO1 (x_mask hLX hX _ _) g1 g2 (Nat.le_of_ble_eq_true rfl) (fun r μ1 hr => ?_)
  obtain ⟨rfl, hx, fx⟩ := hr
  refine J_aload_n (i := 2) qL_law_1006 rfl rfl ?_
  refine J_aload_n (i := 0) qL_law_1007 rfl rfl ?_
  refine J_iload_n (i := 3) qL_law_1008 rfl rfl ?_
  refine J_pushI qL_law_1009 ?_
  refine J_iadd_n qL_law_1010 ?_
  refine J_sld qL_law_1011 h31 (by omega) ?_
  refine J_aload_n (i := 0) qL_law_1012 rfl rfl ?_
  refine J_iload_n (i := 3) qL_law_1013 rfl rfl ?_
  refine J_pushI qL_law_1014 ?_
  refine J_iadd_n qL_law_1015 ?_
  refine J_sld qL_law_1016 h31 (by omega) ?_
  refine J_lvI2 qL_law_1017 kL_126 hO2 (m_mask hLM (hM.x fx) _ _) g1 g2 (Nat.le_of_ble_eq_true rfl) (fun r μ2 hr => ?_)
  obtain ⟨rfl, hm, fm⟩ := hr
  refine J_icmp_eq qL_law_1020 (fun _ => ?_) (fun c => absurd rfl c)
  exact nx _ _ (hx.m fm) hm
theorem lc_27 (hLX : LayX G) (hLM : LayM G) (g1 : cs.1 ≤ lim.1) (g2 : cs.2 ≤ lim.2) (h31 : L < 2147483648) (hi : i + 6 ≤ L) (hX : RelX μ s) (hM : RelM μ s) (nx : ∀ μ s, RelX μ s → RelM μ s → LJ nm G L xs lim cs 1264 i μ) : LJ nm G L xs lim cs 1025 i μ := by
  have hO1 := hLX.1
  have hO2 := hLM.1
  unfold LJ
  refine J_aload_n (i := 1) qL_law_1025 rfl rfl ?_
  refine J_aload_n (i := 0) qL_law_1026 rfl rfl ?_
  refine J_iload_n (i := 3) qL_law_1027 rfl rfl ?_
  refine J_pushI qL_law_1028 ?_
  refine J_iadd_n qL_law_1029 ?_
  refine J_sld qL_law_1030 h31 (by omega) ?_
  refine J_lvI1 qL_law_1031 kL_127 hO1 (x_only hLX hX _) g1 g2 (Nat.le_of_ble_eq_true rfl) (fun r μ1 hr => ?_)
  obtain ⟨rfl, hx, fx⟩ := hr
  refine J_aload_n (i := 2) qL_law_1034 rfl rfl ?_
  refine J_aload_n (i := 0) qL_law_1035 rfl rfl ?_
  refine J_iload_n (i := 3) qL_law_1036 rfl rfl ?_
  refine J_pushI qL_law_1037 ?_
  refine J_iadd_n qL_law_1038 ?_
  refine J_sld qL_law_1039 h31 (by omega) ?_
  refine J_lvI1 qL_law_1040 kL_130 hO2 (m_only hLM (hM.x fx) _) g1 g2 (Nat.le_of_ble_eq_true rfl) (fun r μ2 hr => ?_)
  obtain ⟨rfl, hm, fm⟩ := hr
  refine J_icmp_eq qL_law_1043 (fun _ => ?_) (fun c => absurd rfl c)
  exact nx _ _ (hx.m fm) hm
theorem lc_28 (hLX : LayX G) (hLM : LayM G) (g1 : cs.1 ≤ lim.1) (g2 : cs.2 ≤ lim.2) (h31 : L < 2147483648) (hi : i + 6 ≤ L) (hX : RelX μ s) (hM : RelM μ s) (nx : ∀ μ s, RelX μ s → RelM μ s → LJ nm G L xs lim cs 1264 i μ) : LJ nm G L xs lim cs 1048 i μ := by
  have hO1 := hLX.1
  have hO2 := hLM.1
  unfold LJ
  refine J_aload_n (i := 1) qL_law_1048 rfl rfl ?_
  refine J_lvI0 qL_law_1049 kL_131 hO1 (x_chain hLX hX ) g1 g2 (Nat.le_of_ble_eq_true rfl) (fun r μ1 hr => ?_)
  obtain ⟨rfl, hx, fx⟩ := hr
  refine J_aload_n (i := 2) qL_law_1052 rfl rfl ?_
  refine J_lvI0 qL_law_1053 kL_134 hO2 (m_chain hLM (hM.x fx) ) g1 g2 (Nat.le_of_ble_eq_true rfl) (fun r μ2 hr => ?_)
  obtain ⟨rfl, hm, fm⟩ := hr
  refine J_icmp_eq qL_law_1056 (fun _ => ?_) (fun c => absurd rfl c)
  exact nx _ _ (hx.m fm) hm
theorem lc_29 (hLX : LayX G) (hLM : LayM G) (g1 : cs.1 ≤ lim.1) (g2 : cs.2 ≤ lim.2) (h31 : L < 2147483648) (hi : i + 6 ≤ L) (hX : RelX μ s) (hM : RelM μ s) (nx : ∀ μ s, RelX μ s → RelM μ s → LJ nm G L xs lim cs 1264 i μ) : LJ nm G L xs lim cs 1061 i μ := by
  have hO1 := hLX.1
  have hO2 := hLM.1
  unfold LJ
  refine J_aload_n (i := 1) qL_law_1061 rfl rfl ?_
  refine J_lvI0 qL_law_1062 kL_135 hO1 (x_worst hLX hX ) g1 g2 (Nat.le_of_ble_eq_true rfl) (fun r μ1 hr => ?_)
  obtain ⟨rfl, hx, fx⟩ := hr
  refine J_aload_n (i := 2) qL_law_1065 rfl rfl ?_
  refine J_lvI0 qL_law_1066 kL_138 hO2 (m_worst hLM (hM.x fx) ) g1 g2 (Nat.le_of_ble_eq_true rfl) (fun r μ2 hr => ?_)
  obtain ⟨rfl, hm, fm⟩ := hr
  refine J_icmp_eq qL_law_1069 (fun _ => ?_) (fun c => absurd rfl c)
  exact nx _ _ (hx.m fm) hm
theorem lc_30 (hLX : LayX G) (hLM : LayM G) (g1 : cs.1 ≤ lim.1) (g2 : cs.2 ≤ lim.2) (h31 : L < 2147483648) (hi : i + 6 ≤ L) (hX : RelX μ s) (hM : RelM μ s) (nx : ∀ μ s, RelX μ s → RelM μ s → LJ nm G L xs lim cs 1264 i μ) : LJ nm G L xs lim cs 1074 i μ := by
  have hO1 := hLX.1
  have hO2 := hLM.1
  unfold LJ
  refine J_aload_n (i := 1) qL_law_1074 rfl rfl ?_
  refine J_aload_n (i := 0) qL_law_1075 rfl rfl ?_
  refine J_iload_n (i := 3) qL_law_1076 rfl rfl ?_
  refine J_pushI qL_law_1077 ?_
  refine J_iadd_n qL_law_1078 ?_
  refine J_sld qL_law_1079 h31 (by omega) ?_
  refine J_lvI1 qL_law_1080 kL_139 hO1 (x_swing hLX hX _) g1 g2 (Nat.le_of_ble_eq_true rfl) (fun r μ1 hr => ?_)
  obtain ⟨rfl, hx, fx⟩ := hr
  refine J_aload_n (i := 2) qL_law_1083 rfl rfl ?_
  refine J_aload_n (i := 0) qL_law_1084 rfl rfl ?_
  refine J_iload_n (i := 3) qL_law_1085 rfl rfl ?_
  refine J_pushI qL_law_1086 ?_
  refine J_iadd_n qL_law_1087 ?_
  refine J_sld qL_law_1088 h31 (by omega) ?_
  refine J_lvI1 qL_law_1089 kL_142 hO2 (m_swing hLM (hM.x fx) _) g1 g2 (Nat.le_of_ble_eq_true rfl) (fun r μ2 hr => ?_)
  obtain ⟨rfl, hm, fm⟩ := hr
  refine J_icmp_eq qL_law_1092 (fun _ => ?_) (fun c => absurd rfl c)
  exact nx _ _ (hx.m fm) hm
theorem lc_31 (hLX : LayX G) (hLM : LayM G) (g1 : cs.1 ≤ lim.1) (g2 : cs.2 ≤ lim.2) (h31 : L < 2147483648) (hi : i + 6 ≤ L) (hX : RelX μ s) (hM : RelM μ s) (nx : ∀ μ s, RelX μ s → RelM μ s → LJ nm G L xs lim cs 1264 i μ) : LJ nm G L xs lim cs 1097 i μ := by
  have hO1 := hLX.1
  have hO2 := hLM.1
  unfold LJ
  refine J_aload_n (i := 1) qL_law_1097 rfl rfl ?_
  refine J_aload_n (i := 0) qL_law_1098 rfl rfl ?_
  refine J_iload_n (i := 3) qL_law_1099 rfl rfl ?_
  refine J_pushI qL_law_1100 ?_
  refine J_iadd_n qL_law_1101 ?_
  refine J_sld qL_law_1102 h31 (by omega) ?_
  refine J_aload_n (i := 0) qL_law_1103 rfl rfl ?_
  refine J_iload_n (i := 3) qL_law_1104 rfl rfl ?_
  refine J_pushI qL_law_1105 ?_
  refine J_iadd_n qL_law_1106 ?_
  refine J_sld qL_law_1107 h31 (by omega) ?_
  refine J_lvL2 qL_law_1108 kL_143 hO1 (x_covered hLX hX _ _) g1 g2 (Nat.le_of_ble_eq_true rfl) (fun r μ1 hr => ?_)
  obtain ⟨rfl, hx, fx⟩ := hr
  refine J_aload_n (i := 2) qL_law_1111 rfl rfl ?_
  refine J_aload_n (i := 0) qL_law_1112 rfl rfl ?_
  refine J_iload_n (i := 3) qL_law_1113 rfl rfl ?_
  refine J_pushI qL_law_1114 ?_
  refine J_iadd_n qL_law_1115 ?_
  refine J_sld qL_law_1116 h31 (by omega) ?_
  refine J_aload_n (i := 0) qL_law_1117 rfl rfl ?_
  refine J_iload_n (i := 3) qL_law_1118 rfl rfl ?_
  refine J_pushI qL_law_1119 ?_
  refine J_iadd_n qL_law_1120 ?_
  refine J_sld qL_law_1121 h31 (by omega) ?_
  refine J_lvL2 qL_law_1122 kL_147 hO2 (m_covered hLM (hM.x fx) _ _) g1 g2 (Nat.le_of_ble_eq_true rfl) (fun r μ2 hr => ?_)
  obtain ⟨rfl, hm, fm⟩ := hr
  refine J_lif_eq qL_law_1125 qL_law_1126 (fun _ => ?_) (fun c => absurd rfl c)
  exact nx _ _ (hx.m fm) hm
theorem lc_32 (hLX : LayX G) (hLM : LayM G) (g1 : cs.1 ≤ lim.1) (g2 : cs.2 ≤ lim.2) (h31 : L < 2147483648) (hi : i + 6 ≤ L) (hX : RelX μ s) (hM : RelM μ s) (nx : ∀ μ s, RelX μ s → RelM μ s → LJ nm G L xs lim cs 1264 i μ) : LJ nm G L xs lim cs 1131 i μ := by
  have hO1 := hLX.1
  have hO2 := hLM.1
  unfold LJ
  refine J_aload_n (i := 1) qL_law_1131 rfl rfl ?_
  refine J_aload_n (i := 0) qL_law_1132 rfl rfl ?_
  refine J_iload_n (i := 3) qL_law_1133 rfl rfl ?_
  refine J_pushI qL_law_1134 ?_
  refine J_iadd_n qL_law_1135 ?_
  refine J_sld qL_law_1136 h31 (by omega) ?_
  refine J_aload_n (i := 0) qL_law_1137 rfl rfl ?_
  refine J_iload_n (i := 3) qL_law_1138 rfl rfl ?_
  refine J_pushI qL_law_1139 ?_
  refine J_iadd_n qL_law_1140 ?_
  refine J_sld qL_law_1141 h31 (by omega) ?_
  refine J_lvI2 qL_law_1142 kL_148 hO1 (x_lots hLX hX _ _) g1 g2 (Nat.le_of_ble_eq_true rfl) (fun r μ1 hr => ?_)
  obtain ⟨rfl, hx, fx⟩ := hr
  refine J_aload_n (i := 2) qL_law_1145 rfl rfl ?_
  refine J_aload_n (i := 0) qL_law_1146 rfl rfl ?_
  refine J_iload_n (i := 3) qL_law_1147 rfl rfl ?_
  refine J_pushI qL_law_1148 ?_
  refine J_iadd_n qL_law_1149 ?_
  refine J_sld qL_law_1150 h31 (by omega) ?_
  refine J_aload_n (i := 0) qL_law_1151 rfl rfl ?_
  refine J_iload_n (i := 3) qL_law_1152 rfl rfl ?_
  refine J_pushI qL_law_1153 ?_
  refine J_iadd_n qL_law_1154 ?_
  refine J_sld qL_law_1155 h31 (by omega) ?_
  refine J_lvI2 qL_law_1156 kL_151 hO2 (m_lots hLM (hM.x fx) _ _) g1 g2 (Nat.le_of_ble_eq_true rfl) (fun r μ2 hr => ?_)
  obtain ⟨rfl, hm, fm⟩ := hr
  refine J_icmp_eq qL_law_1159 (fun _ => ?_) (fun c => absurd rfl c)
  exact nx _ _ (hx.m fm) hm
theorem lc_33 (hLX : LayX G) (hLM : LayM G) (g1 : cs.1 ≤ lim.1) (g2 : cs.2 ≤ lim.2) (h31 : L < 2147483648) (hi : i + 6 ≤ L) (hX : RelX μ s) (hM : RelM μ s) (nx : ∀ μ s, RelX μ s → RelM μ s → LJ nm G L xs lim cs 1264 i μ) : LJ nm G L xs lim cs 1164 i μ := by
  have hO1 := hLX.1
  have hO2 := hLM.1
  unfold LJ
  refine J_aload_n (i := 1) qL_law_1164 rfl rfl ?_
  refine J_lvI0 qL_law_1165 kL_152 hO1 (x_asked hLX hX ) g1 g2 (Nat.le_of_ble_eq_true rfl) (fun r μ1 hr => ?_)
  obtain ⟨rfl, hx, fx⟩ := hr
  refine J_aload_n (i := 2) qL_law_1168 rfl rfl ?_
  refine J_lvI0 qL_law_1169 kL_155 hO2 (m_asked hLM (hM.x fx) ) g1 g2 (Nat.le_of_ble_eq_true rfl) (fun r μ2 hr => ?_)
  obtain ⟨rfl, hm, fm⟩ := hr
  refine J_icmp_eq qL_law_1172 (fun _ => ?_) (fun c => absurd rfl c)
  exact nx _ _ (hx.m fm) hm
theorem lc_34 (hLX : LayX G) (hLM : LayM G) (g1 : cs.1 ≤ lim.1) (g2 : cs.2 ≤ lim.2) (h31 : L < 2147483648) (hi : i + 6 ≤ L) (hX : RelX μ s) (hM : RelM μ s) (nx : ∀ μ s, RelX μ s → RelM μ s → LJ nm G L xs lim cs 1264 i μ) : LJ nm G L xs lim cs 1177 i μ := by
  have hO1 := hLX.1
  have hO2 := hLM.1
  unfold LJ
  refine J_aload_n (i := 1) qL_law_1177 rfl rfl ?_
  refine J_lvL0 qL_law_1178 kL_156 hO1 (x_mask0 hLX hX ) g1 g2 (Nat.le_of_ble_eq_true rfl) (fun r μ1 hr => ?_)
  obtain ⟨rfl, hx, fx⟩ := hr
  refine J_aload_n (i := 2) qL_law_1181 rfl rfl ?_
  refine J_lvL0 qL_law_1182 kL_160 hO2 (m_mask0 hLM (hM.x fx) ) g1 g2 (Nat.le_of_ble_eq_true rfl) (fun r μ2 hr => ?_)
  obtain ⟨rfl, hm, fm⟩ := hr
  refine J_lif_eq qL_law_1185 qL_law_1186 (fun _ => ?_) (fun c => absurd rfl c)
  exact nx _ _ (hx.m fm) hm
theorem lc_35 (hLX : LayX G) (hLM : LayM G) (g1 : cs.1 ≤ lim.1) (g2 : cs.2 ≤ lim.2) (h31 : L < 2147483648) (hi : i + 6 ≤ L) (hX : RelX μ s) (hM : RelM μ s) (nx : ∀ μ s, RelX μ s → RelM μ s → LJ nm G L xs lim cs 1264 i μ) : LJ nm G L xs lim cs 1191 i μ := by
  have hO1 := hLX.1
  have hO2 := hLM.1
  unfold LJ
  refine J_aload_n (i := 1) qL_law_1191 rfl rfl ?_
  refine J_aload_n (i := 0) qL_law_1192 rfl rfl ?_
  refine J_iload_n (i := 3) qL_law_1193 rfl rfl ?_
  refine J_pushI qL_law_1194 ?_
  refine J_iadd_n qL_law_1195 ?_
  refine J_sld qL_law_1196 h31 (by omega) ?_
  refine J_lvI1 qL_law_1197 kL_161 hO1 (x_count hLX hX _) g1 g2 (Nat.le_of_ble_eq_true rfl) (fun r μ1 hr => ?_)
  obtain ⟨rfl, hx, fx, -⟩ := hr
  refine J_aload_n (i := 2) qL_law_1200 rfl rfl ?_
  refine J_aload_n (i := 0) qL_law_1201 rfl rfl ?_
  refine J_iload_n (i := 3) qL_law_1202 rfl rfl ?_
  refine J_pushI qL_law_1203 ?_
  refine J_iadd_n qL_law_1204 ?_
  refine J_sld qL_law_1205 h31 (by omega) ?_
  refine J_lvI1 qL_law_1206 kL_164 hO2 (m_count hLM (hM.x fx) _) g1 g2 (Nat.le_of_ble_eq_true rfl) (fun r μ2 hr => ?_)
  obtain ⟨rfl, hm, fm⟩ := hr
  refine J_icmp_eq qL_law_1209 (fun _ => ?_) (fun c => absurd rfl c)
  exact nx _ _ (hx.m fm) hm
theorem lc_36 (hLX : LayX G) (hLM : LayM G) (g1 : cs.1 ≤ lim.1) (g2 : cs.2 ≤ lim.2) (h31 : L < 2147483648) (hi : i + 6 ≤ L) (hX : RelX μ s) (hM : RelM μ s) (nx : ∀ μ s, RelX μ s → RelM μ s → LJ nm G L xs lim cs 1264 i μ) : LJ nm G L xs lim cs 1214 i μ := by
  have hO1 := hLX.1
  have hO2 := hLM.1
  unfold LJ
  refine J_aload_n (i := 1) qL_law_1214 rfl rfl ?_
  refine J_lvI0 qL_law_1215 kL_165 hO1 (x_finding hLX hX ) g1 g2 (Nat.le_of_ble_eq_true rfl) (fun r μ1 hr => ?_)
  obtain ⟨rfl, hx, fx⟩ := hr
  refine J_aload_n (i := 2) qL_law_1218 rfl rfl ?_
  refine J_lvI0 qL_law_1219 kL_168 hO2 (m_finding hLM (hM.x fx) ) g1 g2 (Nat.le_of_ble_eq_true rfl) (fun r μ2 hr => ?_)
  obtain ⟨rfl, hm, fm⟩ := hr
  refine J_icmp_eq qL_law_1222 (fun _ => ?_) (fun c => absurd rfl c)
  exact nx _ _ (hx.m fm) hm
theorem lc_37 (hLX : LayX G) (hLM : LayM G) (g1 : cs.1 ≤ lim.1) (g2 : cs.2 ≤ lim.2) (h31 : L < 2147483648) (hi : i + 6 ≤ L) (hX : RelX μ s) (hM : RelM μ s) (nx : ∀ μ s, RelX μ s → RelM μ s → LJ nm G L xs lim cs 1264 i μ) : LJ nm G L xs lim cs 1227 i μ := by
  have hO1 := hLX.1
  have hO2 := hLM.1
  unfold LJ
  refine J_aload_n (i := 1) qL_law_1227 rfl rfl ?_
  refine J_aload_n (i := 0) qL_law_1228 rfl rfl ?_
  refine J_iload_n (i := 3) qL_law_1229 rfl rfl ?_
  refine J_pushI qL_law_1230 ?_
  refine J_iadd_n qL_law_1231 ?_
  refine J_sld qL_law_1232 h31 (by omega) ?_
  refine J_lvI1 qL_law_1233 kL_169 hO1 (x_findings hLX hX _) g1 g2 (Nat.le_of_ble_eq_true rfl) (fun r μ1 hr => ?_)
  obtain ⟨rfl, hx, fx⟩ := hr
  refine J_aload_n (i := 2) qL_law_1236 rfl rfl ?_
  refine J_aload_n (i := 0) qL_law_1237 rfl rfl ?_
  refine J_iload_n (i := 3) qL_law_1238 rfl rfl ?_
  refine J_pushI qL_law_1239 ?_
  refine J_iadd_n qL_law_1240 ?_
  refine J_sld qL_law_1241 h31 (by omega) ?_
  refine J_lvI1 qL_law_1242 kL_172 hO2 (m_findings hLM (hM.x fx) _) g1 g2 (Nat.le_of_ble_eq_true rfl) (fun r μ2 hr => ?_)
  obtain ⟨rfl, hm, fm⟩ := hr
  refine J_icmp_eq qL_law_1245 (fun _ => ?_) (fun c => absurd rfl c)
  exact nx _ _ (hx.m fm) hm
theorem lc_38 (hLX : LayX G) (hLM : LayM G) (g1 : cs.1 ≤ lim.1) (g2 : cs.2 ≤ lim.2) (h31 : L < 2147483648) (hi : i + 6 ≤ L) (hX : RelX μ s) (hM : RelM μ s) (nx : ∀ μ s, RelX μ s → RelM μ s → LJ nm G L xs lim cs 1264 i μ) : LJ nm G L xs lim cs 1250 i μ := by
  have hO1 := hLX.1
  have hO2 := hLM.1
  unfold LJ
  refine J_aload_n (i := 1) qL_law_1250 rfl rfl ?_
  refine J_lvL0 qL_law_1251 kL_173 hO1 (x_digest hLX hX ) g1 g2 (Nat.le_of_ble_eq_true rfl) (fun r μ1 hr => ?_)
  obtain ⟨rfl, hx, fx⟩ := hr
  refine J_aload_n (i := 2) qL_law_1254 rfl rfl ?_
  refine J_lvL0 qL_law_1255 kL_176 hO2 (m_digest hLM (hM.x fx) ) g1 g2 (Nat.le_of_ble_eq_true rfl) (fun r μ2 hr => ?_)
  obtain ⟨rfl, hm, fm⟩ := hr
  refine J_lif_eq qL_law_1258 qL_law_1259 (fun _ => ?_) (fun c => absurd rfl c)
  exact nx _ _ (hx.m fm) hm
end LC
theorem lw_and (v : Int32) : ∃ k : Nat, k < 64 ∧ v &&& nI 63 = nI k := by
  have e : v = nI v.toBitVec.toNat := by
    apply Int32.toBitVec_inj.1
    show v.toBitVec = BitVec.ofNat 32 v.toBitVec.toNat
    simp
  refine ⟨v.toBitVec.toNat &&& 63, Nat.lt_succ_of_le Nat.and_le_right, ?_⟩
  rw [← ni_and, ← e]
theorem lw_sub {L i : Nat} (hL : L ≤ 3072) (hi : i ≤ 4000) : nI L - nI 6 < nI i ↔ L < i + 6 := by
  rw [Int32.lt_iff_toInt_lt, Int32.toInt_sub, nI_toInt (by omega), nI_toInt (by omega), nI_toInt (by omega), Int.bmod_eq_of_le (by omega) (by omega)]
  omega
theorem lw_case {nm : String} {G : Gm} {L i : Nat} {xs : Nat → Int32} {lim cs : Nat × Nat} {μ : Mm} {s : St} (hLX : LayX G) (hLM : LayM G) (g1 : cs.1 ≤ lim.1) (g2 : cs.2 ≤ lim.2) (h31 : L < 2147483648) (hi : i + 6 ≤ L) (hX : RelX μ s) (hM : RelM μ s) (nx : ∀ μ s, RelX μ s → RelM μ s → LJ nm G L xs lim cs 1264 i μ) : ∀ k, k < 64 → J (mLn nm) 40 lim (L + 1, xs) Kt cs 33 [.ref 3000000, .ref 0, .ref 198, .int (nI i)] [.int (nI k)] (G, μ)
  | 0, _ => J_tabIn (tgt := 204) qL_law_33 (by decide) (by decide) rfl (by decide) (lc_0 hLX hLM g1 g2 h31 hi hX hM nx)
  | 1, _ => J_tabIn (tgt := 237) qL_law_33 (by decide) (by decide) rfl (by decide) (lc_1 hLX hLM g1 g2 h31 hi hX hM nx)
  | 2, _ => J_tabIn (tgt := 280) qL_law_33 (by decide) (by decide) rfl (by decide) (lc_2 hLX hLM g1 g2 h31 hi hX hM nx)
  | 3, _ => J_tabIn (tgt := 313) qL_law_33 (by decide) (by decide) rfl (by decide) (lc_3 hLX hLM g1 g2 h31 hi hX hM nx)
  | 4, _ => J_tabIn (tgt := 336) qL_law_33 (by decide) (by decide) rfl (by decide) (lc_4 hLX hLM g1 g2 h31 hi hX hM nx)
  | 5, _ => J_tabIn (tgt := 399) qL_law_33 (by decide) (by decide) rfl (by decide) (lc_5 hLX hLM g1 g2 h31 hi hX hM nx)
  | 6, _ => J_tabIn (tgt := 422) qL_law_33 (by decide) (by decide) rfl (by decide) (lc_6 hLX hLM g1 g2 h31 hi hX hM nx)
  | 7, _ => J_tabIn (tgt := 455) qL_law_33 (by decide) (by decide) rfl (by decide) (lc_7 hLX hLM g1 g2 h31 hi hX hM nx)
  | 8, _ => J_tabIn (tgt := 498) qL_law_33 (by decide) (by decide) rfl (by decide) (lc_8 hLX hLM g1 g2 h31 hi hX hM nx)
  | 9, _ => J_tabIn (tgt := 521) qL_law_33 (by decide) (by decide) rfl (by decide) (lc_9 hLX hLM g1 g2 h31 hi hX hM nx)
  | 10, _ => J_tabIn (tgt := 544) qL_law_33 (by decide) (by decide) rfl (by decide) (lc_10 hLX hLM g1 g2 h31 hi hX hM nx)
  | 11, _ => J_tabIn (tgt := 567) qL_law_33 (by decide) (by decide) rfl (by decide) (lc_11 hLX hLM g1 g2 h31 hi hX hM nx)
  | 12, _ => J_tabIn (tgt := 590) qL_law_33 (by decide) (by decide) rfl (by decide) (lc_12 hLX hLM g1 g2 h31 hi hX hM nx)
  | 13, _ => J_tabIn (tgt := 623) qL_law_33 (by decide) (by decide) rfl (by decide) (lc_13 hLX hLM g1 g2 h31 hi hX hM nx)
  | 14, _ => J_tabIn (tgt := 676) qL_law_33 (by decide) (by decide) rfl (by decide) (lc_14 hLX hLM g1 g2 h31 hi hX hM nx)
  | 15, _ => J_tabIn (tgt := 699) qL_law_33 (by decide) (by decide) rfl (by decide) (lc_15 hLX hLM g1 g2 h31 hi hX hM nx)
  | 16, _ => J_tabIn (tgt := 732) qL_law_33 (by decide) (by decide) rfl (by decide) (lc_16 hLX hLM g1 g2 h31 hi hX hM nx)
  | 17, _ => J_tabIn (tgt := 765) qL_law_33 (by decide) (by decide) rfl (by decide) (lc_17 hLX hLM g1 g2 h31 hi hX hM nx)
  | 18, _ => J_tabIn (tgt := 788) qL_law_33 (by decide) (by decide) rfl (by decide) (lc_18 hLX hLM g1 g2 h31 hi hX hM nx)
  | 19, _ => J_tabIn (tgt := 811) qL_law_33 (by decide) (by decide) rfl (by decide) (lc_19 hLX hLM g1 g2 h31 hi hX hM nx)
  | 20, _ => J_tabIn (tgt := 834) qL_law_33 (by decide) (by decide) rfl (by decide) (lc_20 hLX hLM g1 g2 h31 hi hX hM nx)
  | 21, _ => J_tabIn (tgt := 857) qL_law_33 (by decide) (by decide) rfl (by decide) (lc_21 hLX hLM g1 g2 h31 hi hX hM nx)
  | 22, _ => J_tabIn (tgt := 880) qL_law_33 (by decide) (by decide) rfl (by decide) (lc_22 hLX hLM g1 g2 h31 hi hX hM nx)
  | 23, _ => J_tabIn (tgt := 893) qL_law_33 (by decide) (by decide) rfl (by decide) (lc_23 hLX hLM g1 g2 h31 hi hX hM nx)
  | 24, _ => J_tabIn (tgt := 926) qL_law_33 (by decide) (by decide) rfl (by decide) (lc_24 hLX hLM g1 g2 h31 hi hX hM nx)
  | 25, _ => J_tabIn (tgt := 959) qL_law_33 (by decide) (by decide) rfl (by decide) (lc_25 hLX hLM g1 g2 h31 hi hX hM nx)
  | 26, _ => J_tabIn (tgt := 992) qL_law_33 (by decide) (by decide) rfl (by decide) (lc_26 hLX hLM g1 g2 h31 hi hX hM nx)
  | 27, _ => J_tabIn (tgt := 1025) qL_law_33 (by decide) (by decide) rfl (by decide) (lc_27 hLX hLM g1 g2 h31 hi hX hM nx)
  | 28, _ => J_tabIn (tgt := 1048) qL_law_33 (by decide) (by decide) rfl (by decide) (lc_28 hLX hLM g1 g2 h31 hi hX hM nx)
  | 29, _ => J_tabIn (tgt := 1061) qL_law_33 (by decide) (by decide) rfl (by decide) (lc_29 hLX hLM g1 g2 h31 hi hX hM nx)
  | 30, _ => J_tabIn (tgt := 1074) qL_law_33 (by decide) (by decide) rfl (by decide) (lc_30 hLX hLM g1 g2 h31 hi hX hM nx)
  | 31, _ => J_tabIn (tgt := 1097) qL_law_33 (by decide) (by decide) rfl (by decide) (lc_31 hLX hLM g1 g2 h31 hi hX hM nx)
  | 32, _ => J_tabIn (tgt := 1131) qL_law_33 (by decide) (by decide) rfl (by decide) (lc_32 hLX hLM g1 g2 h31 hi hX hM nx)
  | 33, _ => J_tabIn (tgt := 1164) qL_law_33 (by decide) (by decide) rfl (by decide) (lc_33 hLX hLM g1 g2 h31 hi hX hM nx)
  | 34, _ => J_tabIn (tgt := 1177) qL_law_33 (by decide) (by decide) rfl (by decide) (lc_34 hLX hLM g1 g2 h31 hi hX hM nx)
  | 35, _ => J_tabIn (tgt := 1191) qL_law_33 (by decide) (by decide) rfl (by decide) (lc_35 hLX hLM g1 g2 h31 hi hX hM nx)
  | 36, _ => J_tabIn (tgt := 1214) qL_law_33 (by decide) (by decide) rfl (by decide) (lc_36 hLX hLM g1 g2 h31 hi hX hM nx)
  | 37, _ => J_tabIn (tgt := 1227) qL_law_33 (by decide) (by decide) rfl (by decide) (lc_37 hLX hLM g1 g2 h31 hi hX hM nx)
  | 38, _ => J_tabIn (tgt := 1250) qL_law_33 (by decide) (by decide) rfl (by decide) (lc_38 hLX hLM g1 g2 h31 hi hX hM nx)
  | k + 39, h => J_tabOut (tgt := 1264) qL_law_33 (Or.inr (by rw [nI_toInt (by omega)]; omega)) (by decide) (nx μ s hX hM)
theorem lw_loop {nm : String} {G : Gm} {L : Nat} {xs : Nat → Int32} {lim cs : Nat × Nat} (hLX : LayX G) (hLM : LayM G) (g1 : cs.1 ≤ lim.1) (g2 : cs.2 ≤ lim.2) (hL : L ≤ 3072) : ∀ (f i : Nat) (μ : Mm) (s : St), L + 7 - i ≤ f → i ≤ L + 6 → RelX μ s → RelM μ s → LJ nm G L xs lim cs 18 i μ
  | 0, i, μ, s, hf, hi, _, _ => absurd hf (by omega)
  | f + 1, i, μ, s, hf, hi, hX, hM => by
    unfold LJ
    refine J_iload_n (i := 3) qL_law_18 rfl rfl ?_
    refine J_aload_n (i := 0) qL_law_19 rfl rfl ?_
    refine J_scn qL_law_20 ?_
    refine J_pushI qL_law_21 ?_
    refine J_isub qL_law_23 ?_
    refine J_icmp_gt qL_law_24 (fun c => ?_) (fun c => ?_)
    · refine J_pushI qL_law_1270 ?_
      exact J_iret qL_law_1271.1 qL_law_1271.2 rfl g1 g2 rfl
    · have hle : i + 6 ≤ L := by
        have : ¬ L < i + 6 := fun h => c ((lw_sub (i := i) hL (by omega)).mpr h)
        omega
      refine J_aload_n (i := 0) qL_law_27 rfl rfl ?_
      refine J_iload_n (i := 3) qL_law_28 rfl rfl ?_
      refine J_sld qL_law_29 (by omega) (by omega) ?_
      refine J_pushI qL_law_30 ?_
      refine J_iand qL_law_32 ?_
      obtain ⟨k, hk, e⟩ := lw_and (xs i)
      rw [e]
      refine lw_case hLX hLM g1 g2 (by omega) hle hX hM (fun μ' s' hX' hM' => ?_) k hk
      unfold LJ
      refine J_inc3 qL_law_1264 (Nat.le_of_ble_eq_true rfl) (nI_add i 6) rfl ?_
      refine J_goto qL_law_1267 ?_
      exact lw_loop hLX hLM g1 g2 hL f (i + 6) μ' s' (by omega) (by omega) hX' hM'
