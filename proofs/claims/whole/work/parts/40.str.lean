/-! STRING CONSTANTS: ldc, length, charAt -/
theorem qJ0_length_8abf5_0 : Dc mJ0_length_8abf5 0 (.aload_n 0) 1 1 := ⟨by decide +kernel, rfl⟩
theorem qJ0_length_8abf5_1 : Dc mJ0_length_8abf5 1 (.getfield 9) 3 4 := ⟨by decide +kernel, rfl⟩
theorem qJ0_length_8abf5_4 : Dc mJ0_length_8abf5 4 .arraylength 1 5 := ⟨by decide +kernel, rfl⟩
theorem qJ0_length_8abf5_5 : Dc mJ0_length_8abf5 5 (.aload_n 0) 1 6 := ⟨by decide +kernel, rfl⟩
theorem qJ0_length_8abf5_6 : Dc mJ0_length_8abf5 6 (.invokevirtual 335) 3 9 := ⟨by decide +kernel, rfl⟩
theorem qJ0_length_8abf5_9 : Dc mJ0_length_8abf5 9 .ishr 1 10 := ⟨by decide +kernel, rfl⟩
theorem qJ0_length_8abf5_10 : Ri mJ0_length_8abf5 10 .int := ⟨by decide +kernel, rfl⟩
theorem qJ0_coder_7d493_0 : Dc mJ0_coder_7d493 0 (.getstatic 38) 3 3 := ⟨by decide +kernel, rfl⟩
theorem qJ0_coder_7d493_3 : Br mJ0_coder_7d493 3 (.ifCond .eq) 13 6 := ⟨10, by decide +kernel, by decide, rfl⟩
theorem qJ0_coder_7d493_6 : Dc mJ0_coder_7d493 6 (.aload_n 0) 1 7 := ⟨by decide +kernel, rfl⟩
theorem qJ0_coder_7d493_7 : Dc mJ0_coder_7d493 7 (.getfield 15) 3 10 := ⟨by decide +kernel, rfl⟩
theorem qJ0_coder_7d493_10 : Go mJ0_coder_7d493 10 14 := ⟨4, by decide +kernel, by decide⟩
theorem qJ0_coder_7d493_13 : PuI mJ0_coder_7d493 13 (nI 1) 14 := Or.inl ⟨1, ⟨by decide +kernel, rfl⟩, by decide⟩
theorem qJ0_coder_7d493_14 : Ri mJ0_coder_7d493 14 .byte := ⟨by decide +kernel, rfl⟩
theorem qJ0_isLatin1_aae02_0 : Dc mJ0_isLatin1_aae02 0 (.getstatic 38) 3 3 := ⟨by decide +kernel, rfl⟩
theorem qJ0_isLatin1_aae02_3 : Br mJ0_isLatin1_aae02 3 (.ifCond .eq) 17 6 := ⟨14, by decide +kernel, by decide, rfl⟩
theorem qJ0_isLatin1_aae02_6 : Dc mJ0_isLatin1_aae02 6 (.aload_n 0) 1 7 := ⟨by decide +kernel, rfl⟩
theorem qJ0_isLatin1_aae02_7 : Dc mJ0_isLatin1_aae02 7 (.getfield 15) 3 10 := ⟨by decide +kernel, rfl⟩
theorem qJ0_isLatin1_aae02_10 : Br mJ0_isLatin1_aae02 10 (.ifCond .ne) 17 13 := ⟨7, by decide +kernel, by decide, rfl⟩
theorem qJ0_isLatin1_aae02_13 : PuI mJ0_isLatin1_aae02 13 (nI 1) 14 := Or.inl ⟨1, ⟨by decide +kernel, rfl⟩, by decide⟩
theorem qJ0_isLatin1_aae02_14 : Go mJ0_isLatin1_aae02 14 18 := ⟨4, by decide +kernel, by decide⟩
theorem qJ0_isLatin1_aae02_17 : PuI mJ0_isLatin1_aae02 17 (nI 0) 18 := Or.inl ⟨0, ⟨by decide +kernel, rfl⟩, by decide⟩
theorem qJ0_isLatin1_aae02_18 : Ri mJ0_isLatin1_aae02 18 .boolean := ⟨by decide +kernel, rfl⟩
theorem qJ0_charAt_5068e_0 : Dc mJ0_charAt_5068e 0 (.aload_n 0) 1 1 := ⟨by decide +kernel, rfl⟩
theorem qJ0_charAt_5068e_1 : Dc mJ0_charAt_5068e 1 (.invokevirtual 492) 3 4 := ⟨by decide +kernel, rfl⟩
theorem qJ0_charAt_5068e_4 : Br mJ0_charAt_5068e 4 (.ifCond .eq) 16 7 := ⟨12, by decide +kernel, by decide, rfl⟩
theorem qJ0_charAt_5068e_7 : Dc mJ0_charAt_5068e 7 (.aload_n 0) 1 8 := ⟨by decide +kernel, rfl⟩
theorem qJ0_charAt_5068e_8 : Dc mJ0_charAt_5068e 8 (.getfield 9) 3 11 := ⟨by decide +kernel, rfl⟩
theorem qJ0_charAt_5068e_11 : Dc mJ0_charAt_5068e 11 (.iload_n 1) 1 12 := ⟨by decide +kernel, rfl⟩
theorem qJ0_charAt_5068e_12 : Dc mJ0_charAt_5068e 12 (.invokestatic 495) 3 15 := ⟨by decide +kernel, rfl⟩
theorem qJ0_charAt_5068e_15 : Ri mJ0_charAt_5068e 15 .char := ⟨by decide +kernel, rfl⟩
theorem qJ0_charAt_5068e_16 : Dc mJ0_charAt_5068e 16 (.aload_n 0) 1 17 := ⟨by decide +kernel, rfl⟩
theorem qJ0_charAt_5068e_17 : Dc mJ0_charAt_5068e 17 (.getfield 9) 3 20 := ⟨by decide +kernel, rfl⟩
theorem qJ0_charAt_5068e_20 : Dc mJ0_charAt_5068e 20 (.iload_n 1) 1 21 := ⟨by decide +kernel, rfl⟩
theorem qJ0_charAt_5068e_21 : Dc mJ0_charAt_5068e 21 (.invokestatic 498) 3 24 := ⟨by decide +kernel, rfl⟩
theorem qJ0_charAt_5068e_24 : Ri mJ0_charAt_5068e 24 .char := ⟨by decide +kernel, rfl⟩
theorem qJ0_checkIndex_df160_0 : Dc mJ0_checkIndex_df160 0 (.iload_n 0) 1 1 := ⟨by decide +kernel, rfl⟩
theorem qJ0_checkIndex_df160_1 : Dc mJ0_checkIndex_df160 1 (.iload_n 1) 1 2 := ⟨by decide +kernel, rfl⟩
theorem qJ0_checkIndex_df160_2 : Dc mJ0_checkIndex_df160 2 (.getstatic 1053) 3 5 := ⟨by decide +kernel, rfl⟩
theorem qJ0_checkIndex_df160_5 : Dc mJ0_checkIndex_df160 5 (.invokestatic 1059) 3 8 := ⟨by decide +kernel, rfl⟩
theorem qJ0_checkIndex_df160_8 : Dc mJ0_checkIndex_df160 8 .pop 1 9 := ⟨by decide +kernel, rfl⟩
theorem qJ0_checkIndex_df160_9 : decode mJ0_checkIndex_df160.2.1 9 = .ok (.return_, 1) ∧ mJ0_checkIndex_df160.2.2.2 = none := ⟨by decide +kernel, rfl⟩
theorem qJ1_charAt_3b067_0 : Dc mJ1_charAt_3b067 0 (.iload_n 1) 1 1 := ⟨by decide +kernel, rfl⟩
theorem qJ1_charAt_3b067_1 : Dc mJ1_charAt_3b067 1 (.aload_n 0) 1 2 := ⟨by decide +kernel, rfl⟩
theorem qJ1_charAt_3b067_2 : Dc mJ1_charAt_3b067 2 .arraylength 1 3 := ⟨by decide +kernel, rfl⟩
theorem qJ1_charAt_3b067_3 : Dc mJ1_charAt_3b067 3 (.invokestatic 9) 3 6 := ⟨by decide +kernel, rfl⟩
theorem qJ1_charAt_3b067_6 : Dc mJ1_charAt_3b067 6 (.aload_n 0) 1 7 := ⟨by decide +kernel, rfl⟩
theorem qJ1_charAt_3b067_7 : Dc mJ1_charAt_3b067 7 (.iload_n 1) 1 8 := ⟨by decide +kernel, rfl⟩
theorem qJ1_charAt_3b067_8 : Dc mJ1_charAt_3b067 8 .baload 1 9 := ⟨by decide +kernel, rfl⟩
theorem qJ1_charAt_3b067_9 : PuI mJ1_charAt_3b067 9 (nI 255) 12 := Or.inr (Or.inr (Or.inl ⟨255, ⟨by decide +kernel, rfl⟩, by decide⟩))
theorem qJ1_charAt_3b067_12 : Dc mJ1_charAt_3b067 12 .iand 1 13 := ⟨by decide +kernel, rfl⟩
theorem qJ1_charAt_3b067_13 : Dc mJ1_charAt_3b067 13 .i2c 1 14 := ⟨by decide +kernel, rfl⟩
theorem qJ1_charAt_3b067_14 : Ri mJ1_charAt_3b067 14 .char := ⟨by decide +kernel, rfl⟩
theorem qJ3_checkIndex_8e157_0 : Dc mJ3_checkIndex_8e157 0 (.iload_n 0) 1 1 := ⟨by decide +kernel, rfl⟩
theorem qJ3_checkIndex_8e157_1 : Br mJ3_checkIndex_8e157 1 (.ifCond .lt) 9 4 := ⟨8, by decide +kernel, by decide, rfl⟩
theorem qJ3_checkIndex_8e157_4 : Dc mJ3_checkIndex_8e157 4 (.iload_n 0) 1 5 := ⟨by decide +kernel, rfl⟩
theorem qJ3_checkIndex_8e157_5 : Dc mJ3_checkIndex_8e157 5 (.iload_n 1) 1 6 := ⟨by decide +kernel, rfl⟩
theorem qJ3_checkIndex_8e157_6 : Br mJ3_checkIndex_8e157 6 (.if_icmp .lt) 16 9 := ⟨10, by decide +kernel, by decide, rfl⟩
theorem qJ3_checkIndex_8e157_9 : Dc mJ3_checkIndex_8e157 9 (.aload_n 2) 1 10 := ⟨by decide +kernel, rfl⟩
theorem qJ3_checkIndex_8e157_10 : Dc mJ3_checkIndex_8e157 10 (.iload_n 0) 1 11 := ⟨by decide +kernel, rfl⟩
theorem qJ3_checkIndex_8e157_11 : Dc mJ3_checkIndex_8e157 11 (.iload_n 1) 1 12 := ⟨by decide +kernel, rfl⟩
theorem qJ3_checkIndex_8e157_12 : Dc mJ3_checkIndex_8e157 12 (.invokestatic 95) 3 15 := ⟨by decide +kernel, rfl⟩
theorem qJ3_checkIndex_8e157_15 : decode mJ3_checkIndex_8e157.2.1 15 = .ok (.athrow, 1) := by decide +kernel
theorem qJ3_checkIndex_8e157_16 : Dc mJ3_checkIndex_8e157 16 (.iload_n 0) 1 17 := ⟨by decide +kernel, rfl⟩
theorem qJ3_checkIndex_8e157_17 : Ri mJ3_checkIndex_8e157 17 .int := ⟨by decide +kernel, rfl⟩
set_option maxRecDepth 20000 in
theorem cmJ0_length_8abf5 : CM mJ0_length_8abf5 0 := ⟨⟨by decide +kernel, by decide +kernel, by decide +kernel⟩, by decide, lw_at 430 rfl rfl, lw_at 80 (by decide +kernel) rfl⟩
set_option maxRecDepth 20000 in
theorem cmJ0_coder_7d493 : CM mJ0_coder_7d493 0 := ⟨⟨by decide +kernel, by decide +kernel, by decide +kernel⟩, by decide, lw_at 434 rfl rfl, lw_at 80 (by decide +kernel) rfl⟩
set_option maxRecDepth 20000 in
theorem cmJ0_isLatin1_aae02 : CM mJ0_isLatin1_aae02 0 := ⟨⟨by decide +kernel, by decide +kernel, by decide +kernel⟩, by decide, lw_at 444 rfl rfl, lw_at 80 (by decide +kernel) rfl⟩
set_option maxRecDepth 20000 in
theorem cmJ0_charAt_5068e : CM mJ0_charAt_5068e 1 := ⟨⟨by decide +kernel, by decide +kernel, by decide +kernel⟩, by decide, lw_at 440 rfl rfl, lw_at 80 (by decide +kernel) rfl⟩
def CVS (own : String) (idx : Nat) (mj : MI) (n : Nat) : Prop := mj.1.cls = RJ0 ∧ Cond.methodLink own idx mj.1 ∈ lw_g ∧ Cond.instanceMethod mj.1 ∈ lw_g ∧ Cond.selects RJ0 mj.1 mj.1 ∈ lw_g ∧ CM mj n
theorem kJ0_335 : CVS RJ0 335 mJ0_coder_7d493 0 := ⟨rfl, lw_at 431 (by decide +kernel) rfl, lw_at 432 (by decide +kernel) rfl, lw_at 433 (by decide +kernel) rfl, cmJ0_coder_7d493⟩
theorem kJ0_492 : CVS RJ0 492 mJ0_isLatin1_aae02 0 := ⟨rfl, lw_at 441 (by decide +kernel) rfl, lw_at 442 (by decide +kernel) rfl, lw_at 443 (by decide +kernel) rfl, cmJ0_isLatin1_aae02⟩
theorem kX4_56 : CVS RX4 56 mJ0_length_8abf5 0 := ⟨rfl, lw_at 540 (by decide +kernel) rfl, lw_at 428 (by decide +kernel) rfl, lw_at 429 (by decide +kernel) rfl, cmJ0_length_8abf5⟩
theorem kX4_62 : CVS RX4 62 mJ0_charAt_5068e 1 := ⟨rfl, lw_at 541 (by decide +kernel) rfl, lw_at 438 (by decide +kernel) rfl, lw_at 439 (by decide +kernel) rfl, cmJ0_charAt_5068e⟩
theorem kX2_130 : CVS RX2 130 mJ0_length_8abf5 0 := ⟨rfl, lw_at 427 (by decide +kernel) rfl, lw_at 428 (by decide +kernel) rfl, lw_at 429 (by decide +kernel) rfl, cmJ0_length_8abf5⟩
theorem kX2_136 : CVS RX2 136 mJ0_charAt_5068e 1 := ⟨rfl, lw_at 437 (by decide +kernel) rfl, lw_at 438 (by decide +kernel) rfl, lw_at 439 (by decide +kernel) rfl, cmJ0_charAt_5068e⟩
theorem fJ0_9 : Cond.fieldLink RJ0 9 "java/lang/String" "value" "[B" ∈ lw_g := lw_at 1339 (by decide +kernel) rfl
theorem fJ0_15 : Cond.fieldLink RJ0 15 "java/lang/String" "coder" "B" ∈ lw_g := lw_at 1340 (by decide +kernel) rfl
theorem fJ0_38 : Cond.fieldLink RJ0 38 "java/lang/String" "COMPACT_STRINGS" "Z" ∈ lw_g := lw_at 435 (by decide +kernel) rfl
theorem fJ0_1053 : Cond.fieldLink RJ0 1053 "jdk/internal/util/Preconditions" "SIOOBE_FORMATTER" "Ljava/util/function/BiFunction;" ∈ lw_g := lw_at 451 (by decide +kernel) rfl
def chS (i k : Nat) : Int32 := (strB.getD i []).getD k 0
def lnS (i : Nat) : Nat := strN.getD i 0
theorem ln_le (i : Nat) : lnS i ≤ 5 := by
  match i with
  | 0 => decide
  | 1 => decide
  | 2 => decide
  | 3 => decide
  | i + 4 => exact Nat.zero_le _
theorem ch_ok : ∀ i, i < 4 → ∀ k, k < lnS i → ((chS i k &&& nI 255).toUInt32 % 65536).toInt32 = chS i k := by decide +kernel
section JX
variable {mi mj : MI} {d : Nat} {lim : Nat × Nat} {sc : Nat × (Nat → Int32)} {K : Option Value → Wd → Prop} {cs : Nat × Nat} {pc nx idx i : Nat} {ls st : List Value} {w : Wd}
theorem J_ldcS {tx : String} (h : Dc mi pc (.ldc idx) 2 nx) (hm : (mi.1.cls, idx, tx, i) ∈ strL) (k : J mi d lim sc K cs nx ls (.ref (1000000 + i) :: st) w) : J mi d lim sc K cs pc ls st w := by
  obtain ⟨hd, rfl⟩ := h
  intro p l e R s m args below meth c H locs D tc ad A lr Q hC hR hE hL hret
  exact va_ldcS hC.1 hC.2.1 hC.2.2.2.2.1 (hE.2.2.2.2.2.2.1.2.2.1 _ hm) hd (k p l e R s m args below meth c H locs D tc ad A lr Q hC hR hE hL hret)
theorem J_sval (h : Dc mi pc (.getfield idx) 3 nx) (hl : Cond.fieldLink mi.1.cls idx "java/lang/String" "value" "[B" ∈ lw_g) (hi : i < 4) (k : J mi d lim sc K cs nx ls (.ref (1000010 + i) :: st) w) : J mi d lim sc K cs pc ls (.ref (1000000 + i) :: st) w := by
  obtain ⟨hd, rfl⟩ := h
  intro p l e R s m args below meth c H locs D tc ad A lr Q hC hR hE hL hret
  exact vk_getf hC.1 hC.2.1 (hE.2.2.2.2.2.2.1.2.1.1 i hi).2.2.1 hE.2.2.2.1 hC.2.2.2.2.1 (hC.2.2.2.2.2.1 _ hl) (fun _ h => h) hd (k p l e R s m args below meth c H locs D tc ad A lr Q hC hR hE hL hret)
theorem J_scod (h : Dc mi pc (.getfield idx) 3 nx) (hl : Cond.fieldLink mi.1.cls idx "java/lang/String" "coder" "B" ∈ lw_g) (hi : i < 4) (k : J mi d lim sc K cs nx ls (.int 0 :: st) w) : J mi d lim sc K cs pc ls (.ref (1000000 + i) :: st) w := by
  obtain ⟨hd, rfl⟩ := h
  intro p l e R s m args below meth c H locs D tc ad A lr Q hC hR hE hL hret
  exact vk_getf hC.1 hC.2.1 (hE.2.2.2.2.2.2.1.2.1.1 i hi).2.1 hE.2.2.2.1 hC.2.2.2.2.1 (hC.2.2.2.2.2.1 _ hl) (fun _ h => h) hd (k p l e R s m args below meth c H locs D tc ad A lr Q hC hR hE hL hret)
theorem J_gstC (h : Dc mi pc (.getstatic idx) 3 nx) (hl : Cond.fieldLink mi.1.cls idx "java/lang/String" "COMPACT_STRINGS" "Z" ∈ lw_g) (k : J mi d lim sc K cs nx ls (.int 1 :: st) w) : J mi d lim sc K cs pc ls st w := by
  obtain ⟨hd, rfl⟩ := h
  intro p l e R s m args below meth c H locs D tc ad A lr Q hC hR hE hL hret
  exact va_gets hC.1 hC.2.1 hE.2.2.2.2.2.2.1.2.2.2.1 hE.2.2.2.1 hC.2.2.2.2.1 (hC.2.2.2.2.2.1 _ hl) (fun _ h => h) hd (k p l e R s m args below meth c H locs D tc ad A lr Q hC hR hE hL hret)
theorem J_gstF (h : Dc mi pc (.getstatic idx) 3 nx) (hl : Cond.fieldLink mi.1.cls idx "jdk/internal/util/Preconditions" "SIOOBE_FORMATTER" "Ljava/util/function/BiFunction;" ∈ lw_g) (k : ∀ z, (z = .null ∨ z = .ref 2000000) → J mi d lim sc K cs nx ls (z :: st) w) : J mi d lim sc K cs pc ls st w := by
  obtain ⟨hd, rfl⟩ := h
  intro p l e R s m args below meth c H locs D tc ad A lr Q hC hR hE hL hret
  rcases hE.2.2.2.2.2.2.1.2.2.2.2.2.2 with q | q
  · exact va_gets hC.1 hC.2.1 q hE.2.2.2.1 hC.2.2.2.2.1 (hC.2.2.2.2.2.1 _ hl) (fun _ h => h) hd (k .null (Or.inl rfl) p l e R s m args below meth c H locs D tc ad A lr Q hC hR hE hL hret)
  · exact va_gets hC.1 hC.2.1 q hE.2.2.2.1 hC.2.2.2.2.1 (hC.2.2.2.2.2.1 _ hl) (fun _ h => h) hd (k (.ref 2000000) (Or.inr rfl) p l e R s m args below meth c H locs D tc ad A lr Q hC hR hE hL hret)
theorem J_slen (h : Dc mi pc .arraylength 1 nx) (hi : i < 4) (k : J mi d lim sc K cs nx ls (.int (nI (lnS i)) :: st) w) : J mi d lim sc K cs pc ls (.ref (1000010 + i) :: st) w := by
  obtain ⟨hd, rfl⟩ := h
  intro p l e R s m args below meth c H locs D tc ad A lr Q hC hR hE hL hret
  exact va_tlen hC.1 hC.2.1 (hE.2.2.2.2.2.2.1.2.1.1 i hi).2.2.2 hE.2.2.2.1 rfl hd (k p l e R s m args below meth c H locs D tc ad A lr Q hC hR hE hL hret)
theorem J_sbyte {j : Nat} (h : Dc mi pc .baload 1 nx) (hi : i < 4) (hj : j < lnS i) (k : J mi d lim sc K cs nx ls (.int (chS i j) :: st) w) : J mi d lim sc K cs pc ls (.int (nI j) :: .ref (1000010 + i) :: st) w := by
  obtain ⟨hd, rfl⟩ := h
  intro p l e R s m args below meth c H locs D tc ad A lr Q hC hR hE hL hret
  have h5 := ln_le i
  refine va_tb hC.1 hC.2.1 (hE.2.2.2.2.2.2.1.2.1.1 i hi).2.2.2 hE.2.2.2.1 (vp_in_nI hj (by show lnS i < _; omega)) (v := .int (chS i j)) ?_ hd (k p l e R s m args below meth c H locs D tc ad A lr Q hC hR hE hL hret)
  rw [nI_clamp (by omega)]
  rfl
theorem J_i2c {x : Int32} (h : Dc mi pc .i2c 1 nx) (k : J mi d lim sc K cs nx ls (.int (x.toUInt32 % 65536).toInt32 :: st) w) : J mi d lim sc K cs pc ls (.int x :: st) w := by
  obtain ⟨hd, rfl⟩ := h
  intro p l e R s m args below meth c H locs D tc ad A lr Q hC hR hE hL hret
  exact lv_i2c hC.1 hC.2.1 hd rfl (k p l e R s m args below meth c H locs D tc ad A lr Q hC hR hE hL hret)
theorem J_callVS {K1 : Option Value → Wd → Prop} {lim' : Nat × Nat} {n : Nat} {As : List Value} (h : Dc mi pc (.invokevirtual idx) 3 nx) (hl : CVS mi.1.cls idx mj n) (hi : i < 4) (hn : As.length = n) (hM : C mj d lim' (.ref (1000000 + i) :: As) w K1) (h1 : cs.1 + lim'.1 ≤ lim.1) (h2 : cs.2 + lim'.2 ≤ lim.2) (hst : (st.map fun v => v.category).sum ≤ 8) (hKp : Kp K1 w ls st)
    (kk : ∀ v w', K1 v w' → J mi (d + 1) lim sc K (cs.1 + lim'.1, cs.2 + lim'.2) nx ls (v.toList ++ st) w') : J mi (d + 1) lim sc K cs pc ls (As.reverse ++ .ref (1000000 + i) :: st) w := by
  obtain ⟨hd, rfl⟩ := h
  obtain ⟨hcl, hl1, hl2, hl3, hcm⟩ := hl
  intro p l e R s m args below meth c H locs D tc ad A lr Q hC hR hE hL hret
  have hts := hC.2.2.2.2.2.1
  refine callJ (va_runV (As := As.map (trV ad)) (rest := st.map (trV ad)) (b := ad (1000000 + i)) (C := RJ0) (Ts := lw_g) ⟨hC.1, hC.2.1, hC.2.2.2.1, hC.2.2.2.2.1, hts⟩ (hM l D tc ad H.size) ⟨callB_of n hts hcm.good rfl rfl rfl (hts _ hcm.2.2.2) (hts _ hl1) hcm.1 (hR.call hcm.2.1), hts _ hl2, hts _ hl3⟩ ⟨EvP.blind, vk_recv (adK := fun i => ad (1000000 + i)) (i := i) hE.2.2.2.2.2.2.1.2.1 hi hE.2.2.2.1, fun U hU hW => ⟨rfl, EvP.of hE hU hW⟩⟩ rfl (by rw [List.length_map]; exact hn) hL.1 ?_ (lv_room (by rw [tr_cats]; exact hst)) hd ⟨Nat.le_trans h1 hR.2.2.1, Nat.le_trans h2 hR.2.2.2⟩) (J_after hC hR hE hL hKp hret kk)
  show (As.reverse ++ Value.ref (1000000 + i) :: st).map (trV ad) = _
  rw [List.map_append, List.map_reverse]
  rfl
variable {G : Gm} {μ : Mm}
theorem J_tsi0 {K1 : Int32 → Mm → Prop} (h : Dc mi pc (.invokevirtual idx) 3 nx) (hl : CVS mi.1.cls idx mj 0) (hi : i < 4) (hM : Si mj d [.ref (1000000 + i)] G μ K1) (hst : (st.map fun v => v.category).sum ≤ 8) (kk : ∀ r μ', K1 r μ' → J mi (d + 1) (0, 0) sc K (0, 0) nx ls (.int r :: st) (G, μ')) : J mi (d + 1) (0, 0) sc K (0, 0) pc ls (.ref (1000000 + i) :: st) (G, μ) := J_callVS (As := []) (w := (G, μ)) h hl hi rfl hM (Nat.le_refl _) (Nat.le_refl _) hst Ki.kp (fun v w' hq => by obtain ⟨r, μ', rfl, rfl, hr⟩ := hq; exact kk r μ' hr)
theorem J_tsi1 {x1 : Value} {K1 : Int32 → Mm → Prop} (h : Dc mi pc (.invokevirtual idx) 3 nx) (hl : CVS mi.1.cls idx mj 1) (hi : i < 4) (hM : Si mj d [.ref (1000000 + i), x1] G μ K1) (hst : (st.map fun v => v.category).sum ≤ 8) (kk : ∀ r μ', K1 r μ' → J mi (d + 1) (0, 0) sc K (0, 0) nx ls (.int r :: st) (G, μ')) : J mi (d + 1) (0, 0) sc K (0, 0) pc ls (x1 :: .ref (1000000 + i) :: st) (G, μ) := J_callVS (As := [x1]) (w := (G, μ)) h hl hi rfl hM (Nat.le_refl _) (Nat.le_refl _) hst Ki.kp (fun v w' hq => by obtain ⟨r, μ', rfl, rfl, hr⟩ := hq; exact kk r μ' hr)
theorem Jt_ret {K : Int32 → Mm → Prop} {x : Int32} {t : FieldType} (h : Ri mi pc t) (hn : narrow t (.int x) = .int x) (k : K x μ) : J mi d (0, 0) sc (Ki G K) (0, 0) pc ls [.int x] (G, μ) := J_iret h.1 h.2 hn (Nat.le_refl _) (Nat.le_refl _) ⟨x, μ, rfl, rfl, k⟩
end JX
section TX
variable {G : Gm} {μ : Mm} {d i : Nat}
theorem t_coder (hi : i < 4) : Si mJ0_coder_7d493 (d) [.ref (1000000 + i)] G μ (fun r μ' => μ = μ' ∧ r = 0) := by
  refine Si_of (ls := [.ref (1000000 + i)]) (by decide +kernel) (Nat.le_of_ble_eq_true rfl) rfl ?_
  refine J_gstC qJ0_coder_7d493_0 fJ0_38 ?_
  refine J_if_eq qJ0_coder_7d493_3 (fun c => absurd c (by decide)) (fun c => ?_)
  refine J_aload_n (i := 0) qJ0_coder_7d493_6 rfl rfl ?_
  refine J_scod qJ0_coder_7d493_7 fJ0_15 hi ?_
  refine J_goto qJ0_coder_7d493_10 ?_
  refine Jt_ret qJ0_coder_7d493_14 rfl ?_
  exact ⟨rfl, rfl⟩
theorem t_lat (hi : i < 4) : Si mJ0_isLatin1_aae02 (d) [.ref (1000000 + i)] G μ (fun r μ' => μ = μ' ∧ r = nI 1) := by
  refine Si_of (ls := [.ref (1000000 + i)]) (by decide +kernel) (Nat.le_of_ble_eq_true rfl) rfl ?_
  refine J_gstC qJ0_isLatin1_aae02_0 fJ0_38 ?_
  refine J_if_eq qJ0_isLatin1_aae02_3 (fun c => absurd c (by decide)) (fun c => ?_)
  refine J_aload_n (i := 0) qJ0_isLatin1_aae02_6 rfl rfl ?_
  refine J_scod qJ0_isLatin1_aae02_7 fJ0_15 hi ?_
  refine J_if_ne qJ0_isLatin1_aae02_10 (fun c => absurd rfl c) (fun c => ?_)
  refine J_pushI qJ0_isLatin1_aae02_13 ?_
  refine J_goto qJ0_isLatin1_aae02_14 ?_
  refine Jt_ret qJ0_isLatin1_aae02_18 rfl ?_
  exact ⟨rfl, rfl⟩
theorem t_length (hi : i < 4) : Si mJ0_length_8abf5 (d+1) [.ref (1000000 + i)] G μ (fun r μ' => μ = μ' ∧ r = nI (lnS i)) := by
  refine Si_of (ls := [.ref (1000000 + i)]) (by decide +kernel) (Nat.le_of_ble_eq_true rfl) rfl ?_
  refine J_aload_n (i := 0) qJ0_length_8abf5_0 rfl rfl ?_
  refine J_sval qJ0_length_8abf5_1 fJ0_9 hi ?_
  refine J_slen qJ0_length_8abf5_4 hi ?_
  refine J_aload_n (i := 0) qJ0_length_8abf5_5 rfl rfl ?_
  refine J_tsi0 qJ0_length_8abf5_6 kJ0_335 hi (t_coder hi) (Nat.le_of_ble_eq_true rfl) (fun r μ' hr => ?_)
  obtain ⟨rfl, rfl⟩ := hr
  refine J_ishr qJ0_length_8abf5_9 ?_
  refine Jt_ret qJ0_length_8abf5_10 rfl ?_
  exact ⟨rfl, sb_shr0 _⟩
theorem t_pre {k n : Nat} (hk : k < n) (hn : n < 1000) (z : Value) (hlen : (enA [.int (nI k), .int (nI n), z]).length ≤ 3) (hls : enL 3 [.int (nI k), .int (nI n), z] = [.int (nI k), .int (nI n), z]) : Si mJ3_checkIndex_8e157 (d) [.int (nI k), .int (nI n), z] G μ (fun r μ' => μ = μ' ∧ r = nI k) := by
  refine Si_of (ls := [.int (nI k), .int (nI n), z]) (by decide +kernel) hlen hls ?_
  refine J_iload_n (i := 0) qJ3_checkIndex_8e157_0 rfl rfl ?_
  first | with_reducible refine J_if_lt_n qJ3_checkIndex_8e157_1 (by omega) ?_ | refine J_if_lt qJ3_checkIndex_8e157_1 (fun c => ?_) (fun c => ?_)
  refine J_iload_n (i := 0) qJ3_checkIndex_8e157_4 rfl rfl ?_
  refine J_iload_n (i := 1) qJ3_checkIndex_8e157_5 rfl rfl ?_
  first | with_reducible refine J_icmp_lt_n qJ3_checkIndex_8e157_6 (by omega) (by omega) (fun c2 => ?_) (fun c2 => ?_) | refine J_icmp_lt qJ3_checkIndex_8e157_6 (fun c2 => ?_) (fun c2 => ?_)
  · refine J_iload_n (i := 0) qJ3_checkIndex_8e157_16 rfl rfl ?_
    refine Ji_ret qJ3_checkIndex_8e157_17 ?_
    exact ⟨rfl, rfl⟩
  · omega
theorem t_chk {k n : Nat} (hk : k < n) (hn : n < 1000) : Sv mJ0_checkIndex_df160 (d+1) [.int (nI k), .int (nI n)] G μ (fun μ' => μ = μ') := by
  refine Sv_of (ls := [.int (nI k), .int (nI n)]) (by decide +kernel) (Nat.le_of_ble_eq_true rfl) rfl ?_
  refine J_iload_n (i := 0) qJ0_checkIndex_df160_0 rfl rfl ?_
  refine J_iload_n (i := 1) qJ0_checkIndex_df160_1 rfl rfl ?_
  refine J_gstF qJ0_checkIndex_df160_2 fJ0_1053 (fun z hz => ?_)
  rcases hz with rfl | rfl
  · refine J_si3 qJ0_checkIndex_df160_5 kJ0_1059 (t_pre hk hn _ (Nat.le_of_ble_eq_true rfl) rfl) (Nat.le_of_ble_eq_true rfl) (fun r μ' hr => ?_)
    obtain ⟨rfl, rfl⟩ := hr
    refine J_pop qJ0_checkIndex_df160_8 rfl ?_
    refine Jv_ret qJ0_checkIndex_df160_9 ?_
    rfl
  · refine J_si3 qJ0_checkIndex_df160_5 kJ0_1059 (t_pre hk hn _ (Nat.le_of_ble_eq_true rfl) rfl) (Nat.le_of_ble_eq_true rfl) (fun r μ' hr => ?_)
    obtain ⟨rfl, rfl⟩ := hr
    refine J_pop qJ0_checkIndex_df160_8 rfl ?_
    refine Jv_ret qJ0_checkIndex_df160_9 ?_
    rfl
theorem t_l1 (hi : i < 4) {k : Nat} (hk : k < lnS i) : Si mJ1_charAt_3b067 (d+2) [.ref (1000010 + i), .int (nI k)] G μ (fun r μ' => μ = μ' ∧ r = chS i k) := by
  have h5 := ln_le i
  refine Si_of (ls := [.ref (1000010 + i), .int (nI k)]) (by decide +kernel) (Nat.le_of_ble_eq_true rfl) rfl ?_
  refine J_iload_n (i := 1) qJ1_charAt_3b067_0 rfl rfl ?_
  refine J_aload_n (i := 0) qJ1_charAt_3b067_1 rfl rfl ?_
  refine J_slen qJ1_charAt_3b067_2 hi ?_
  refine J_sv2 qJ1_charAt_3b067_3 kJ1_9 (t_chk hk (by omega)) (Nat.le_of_ble_eq_true rfl) (fun μ' hr => ?_)
  obtain rfl := hr
  refine J_aload_n (i := 0) qJ1_charAt_3b067_6 rfl rfl ?_
  refine J_iload_n (i := 1) qJ1_charAt_3b067_7 rfl rfl ?_
  refine J_sbyte qJ1_charAt_3b067_8 hi hk ?_
  refine J_pushI qJ1_charAt_3b067_9 ?_
  refine J_iand qJ1_charAt_3b067_12 ?_
  refine J_i2c qJ1_charAt_3b067_13 ?_
  refine Jt_ret qJ1_charAt_3b067_14 (pk_nc _) ?_
  exact ⟨rfl, ch_ok i hi k hk⟩
theorem t_charAt (hi : i < 4) {k : Nat} (hk : k < lnS i) : Si mJ0_charAt_5068e (d+3) [.ref (1000000 + i), .int (nI k)] G μ (fun r μ' => μ = μ' ∧ r = chS i k) := by
  refine Si_of (ls := [.ref (1000000 + i), .int (nI k)]) (by decide +kernel) (Nat.le_of_ble_eq_true rfl) rfl ?_
  refine J_aload_n (i := 0) qJ0_charAt_5068e_0 rfl rfl ?_
  refine J_tsi0 qJ0_charAt_5068e_1 kJ0_492 hi (t_lat hi) (Nat.le_of_ble_eq_true rfl) (fun r μ' hr => ?_)
  obtain ⟨rfl, rfl⟩ := hr
  refine J_if_eq_n (a := 1) qJ0_charAt_5068e_4 (by omega) (fun c => absurd c (by omega)) (fun c => ?_)
  refine J_aload_n (i := 0) qJ0_charAt_5068e_7 rfl rfl ?_
  refine J_sval qJ0_charAt_5068e_8 fJ0_9 hi ?_
  refine J_iload_n (i := 1) qJ0_charAt_5068e_11 rfl rfl ?_
  refine J_si2 qJ0_charAt_5068e_12 kJ0_495 (t_l1 hi hk) (Nat.le_of_ble_eq_true rfl) (fun r μ' hr => ?_)
  obtain ⟨rfl, rfl⟩ := hr
  refine Jt_ret qJ0_charAt_5068e_15 ?_ ?_
  · rw [← ch_ok i hi k hk]; exact pk_nc _
  · exact ⟨rfl, rfl⟩
end TX
