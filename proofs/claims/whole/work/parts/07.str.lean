theorem dJ0_length_8abf5_0 : decode cJ0_length_8abf5 0 = .ok (.aload_n 0, 1) := by decide +kernel
theorem dJ0_length_8abf5_1 : decode cJ0_length_8abf5 1 = .ok (.getfield 9, 3) := by decide +kernel
theorem dJ0_length_8abf5_4 : decode cJ0_length_8abf5 4 = .ok (.arraylength, 1) := by decide +kernel
theorem dJ0_length_8abf5_5 : decode cJ0_length_8abf5 5 = .ok (.aload_n 0, 1) := by decide +kernel
theorem dJ0_length_8abf5_6 : decode cJ0_length_8abf5 6 = .ok (.invokevirtual 335, 3) := by decide +kernel
theorem dJ0_length_8abf5_9 : decode cJ0_length_8abf5 9 = .ok (.ishr, 1) := by decide +kernel
theorem dJ0_length_8abf5_10 : decode cJ0_length_8abf5 10 = .ok (.ireturn, 1) := by decide +kernel
theorem dJ0_coder_7d493_0 : decode cJ0_coder_7d493 0 = .ok (.getstatic 38, 3) := by decide +kernel
theorem dJ0_coder_7d493_3 : decode cJ0_coder_7d493 3 = .ok (.ifCond .eq 10, 3) := by decide +kernel
theorem dJ0_coder_7d493_6 : decode cJ0_coder_7d493 6 = .ok (.aload_n 0, 1) := by decide +kernel
theorem dJ0_coder_7d493_7 : decode cJ0_coder_7d493 7 = .ok (.getfield 15, 3) := by decide +kernel
theorem dJ0_coder_7d493_10 : decode cJ0_coder_7d493 10 = .ok (.goto 4, 3) := by decide +kernel
theorem dJ0_coder_7d493_13 : decode cJ0_coder_7d493 13 = .ok (.iconst 1, 1) := by decide +kernel
theorem dJ0_coder_7d493_14 : decode cJ0_coder_7d493 14 = .ok (.ireturn, 1) := by decide +kernel
theorem dJ0_charAt_5068e_0 : decode cJ0_charAt_5068e 0 = .ok (.aload_n 0, 1) := by decide +kernel
theorem dJ0_charAt_5068e_1 : decode cJ0_charAt_5068e 1 = .ok (.invokevirtual 492, 3) := by decide +kernel
theorem dJ0_charAt_5068e_4 : decode cJ0_charAt_5068e 4 = .ok (.ifCond .eq 12, 3) := by decide +kernel
theorem dJ0_charAt_5068e_7 : decode cJ0_charAt_5068e 7 = .ok (.aload_n 0, 1) := by decide +kernel
theorem dJ0_charAt_5068e_8 : decode cJ0_charAt_5068e 8 = .ok (.getfield 9, 3) := by decide +kernel
theorem dJ0_charAt_5068e_11 : decode cJ0_charAt_5068e 11 = .ok (.iload_n 1, 1) := by decide +kernel
theorem dJ0_charAt_5068e_12 : decode cJ0_charAt_5068e 12 = .ok (.invokestatic 495, 3) := by decide +kernel
theorem dJ0_charAt_5068e_15 : decode cJ0_charAt_5068e 15 = .ok (.ireturn, 1) := by decide +kernel
theorem dJ0_charAt_5068e_16 : decode cJ0_charAt_5068e 16 = .ok (.aload_n 0, 1) := by decide +kernel
theorem dJ0_charAt_5068e_17 : decode cJ0_charAt_5068e 17 = .ok (.getfield 9, 3) := by decide +kernel
theorem dJ0_charAt_5068e_20 : decode cJ0_charAt_5068e 20 = .ok (.iload_n 1, 1) := by decide +kernel
theorem dJ0_charAt_5068e_21 : decode cJ0_charAt_5068e 21 = .ok (.invokestatic 498, 3) := by decide +kernel
theorem dJ0_charAt_5068e_24 : decode cJ0_charAt_5068e 24 = .ok (.ireturn, 1) := by decide +kernel
theorem dJ0_isLatin1_aae02_0 : decode cJ0_isLatin1_aae02 0 = .ok (.getstatic 38, 3) := by decide +kernel
theorem dJ0_isLatin1_aae02_3 : decode cJ0_isLatin1_aae02 3 = .ok (.ifCond .eq 14, 3) := by decide +kernel
theorem dJ0_isLatin1_aae02_6 : decode cJ0_isLatin1_aae02 6 = .ok (.aload_n 0, 1) := by decide +kernel
theorem dJ0_isLatin1_aae02_7 : decode cJ0_isLatin1_aae02 7 = .ok (.getfield 15, 3) := by decide +kernel
theorem dJ0_isLatin1_aae02_10 : decode cJ0_isLatin1_aae02 10 = .ok (.ifCond .ne 7, 3) := by decide +kernel
theorem dJ0_isLatin1_aae02_13 : decode cJ0_isLatin1_aae02 13 = .ok (.iconst 1, 1) := by decide +kernel
theorem dJ0_isLatin1_aae02_14 : decode cJ0_isLatin1_aae02 14 = .ok (.goto 4, 3) := by decide +kernel
theorem dJ0_isLatin1_aae02_17 : decode cJ0_isLatin1_aae02 17 = .ok (.iconst 0, 1) := by decide +kernel
theorem dJ0_isLatin1_aae02_18 : decode cJ0_isLatin1_aae02 18 = .ok (.ireturn, 1) := by decide +kernel
theorem dJ1_charAt_3b067_0 : decode cJ1_charAt_3b067 0 = .ok (.iload_n 1, 1) := by decide +kernel
theorem dJ1_charAt_3b067_1 : decode cJ1_charAt_3b067 1 = .ok (.aload_n 0, 1) := by decide +kernel
theorem dJ1_charAt_3b067_2 : decode cJ1_charAt_3b067 2 = .ok (.arraylength, 1) := by decide +kernel
theorem dJ1_charAt_3b067_3 : decode cJ1_charAt_3b067 3 = .ok (.invokestatic 9, 3) := by decide +kernel
theorem dJ1_charAt_3b067_6 : decode cJ1_charAt_3b067 6 = .ok (.aload_n 0, 1) := by decide +kernel
theorem dJ1_charAt_3b067_7 : decode cJ1_charAt_3b067 7 = .ok (.iload_n 1, 1) := by decide +kernel
theorem dJ1_charAt_3b067_8 : decode cJ1_charAt_3b067 8 = .ok (.baload, 1) := by decide +kernel
theorem dJ1_charAt_3b067_9 : decode cJ1_charAt_3b067 9 = .ok (.sipush 255, 3) := by decide +kernel
theorem dJ1_charAt_3b067_12 : decode cJ1_charAt_3b067 12 = .ok (.iand, 1) := by decide +kernel
theorem dJ1_charAt_3b067_13 : decode cJ1_charAt_3b067 13 = .ok (.i2c, 1) := by decide +kernel
theorem dJ1_charAt_3b067_14 : decode cJ1_charAt_3b067 14 = .ok (.ireturn, 1) := by decide +kernel
theorem dJ0_checkIndex_df160_0 : decode cJ0_checkIndex_df160 0 = .ok (.iload_n 0, 1) := by decide +kernel
theorem dJ0_checkIndex_df160_1 : decode cJ0_checkIndex_df160 1 = .ok (.iload_n 1, 1) := by decide +kernel
theorem dJ0_checkIndex_df160_2 : decode cJ0_checkIndex_df160 2 = .ok (.getstatic 1053, 3) := by decide +kernel
theorem dJ0_checkIndex_df160_5 : decode cJ0_checkIndex_df160 5 = .ok (.invokestatic 1059, 3) := by decide +kernel
theorem dJ0_checkIndex_df160_8 : decode cJ0_checkIndex_df160 8 = .ok (.pop, 1) := by decide +kernel
theorem dJ0_checkIndex_df160_9 : decode cJ0_checkIndex_df160 9 = .ok (.return_, 1) := by decide +kernel
theorem dJ3_checkIndex_8e157_0 : decode cJ3_checkIndex_8e157 0 = .ok (.iload_n 0, 1) := by decide +kernel
theorem dJ3_checkIndex_8e157_1 : decode cJ3_checkIndex_8e157 1 = .ok (.ifCond .lt 8, 3) := by decide +kernel
theorem dJ3_checkIndex_8e157_4 : decode cJ3_checkIndex_8e157 4 = .ok (.iload_n 0, 1) := by decide +kernel
theorem dJ3_checkIndex_8e157_5 : decode cJ3_checkIndex_8e157 5 = .ok (.iload_n 1, 1) := by decide +kernel
theorem dJ3_checkIndex_8e157_6 : decode cJ3_checkIndex_8e157 6 = .ok (.if_icmp .lt 10, 3) := by decide +kernel
theorem dJ3_checkIndex_8e157_9 : decode cJ3_checkIndex_8e157 9 = .ok (.aload_n 2, 1) := by decide +kernel
theorem dJ3_checkIndex_8e157_10 : decode cJ3_checkIndex_8e157 10 = .ok (.iload_n 0, 1) := by decide +kernel
theorem dJ3_checkIndex_8e157_11 : decode cJ3_checkIndex_8e157 11 = .ok (.iload_n 1, 1) := by decide +kernel
theorem dJ3_checkIndex_8e157_12 : decode cJ3_checkIndex_8e157 12 = .ok (.invokestatic 95, 3) := by decide +kernel
theorem dJ3_checkIndex_8e157_15 : decode cJ3_checkIndex_8e157 15 = .ok (.athrow, 1) := by decide +kernel
theorem dJ3_checkIndex_8e157_16 : decode cJ3_checkIndex_8e157 16 = .ok (.iload_n 0, 1) := by decide +kernel
theorem dJ3_checkIndex_8e157_17 : decode cJ3_checkIndex_8e157 17 = .ok (.ireturn, 1) := by decide +kernel
theorem sw_coder : CWv RJ0 335 yJ0_coder_7d493 cJ0_coder_7d493 1 (some .byte) 0 := ⟨⟨(tbk tin_3 238 rfl rfl), (tbk tin_1 15 rfl rfl), (tbk tin_4 1 rfl rfl), by decide +kernel, by decide +kernel, by decide +kernel⟩, (tbk tin_3 239 rfl rfl), (tbk tin_4 0 rfl rfl)⟩
theorem sw_isL : CWv RJ0 492 yJ0_isLatin1_aae02 cJ0_isLatin1_aae02 1 (some .boolean) 0 := ⟨⟨(tbk tin_4 8 rfl rfl), (tbk tin_1 15 rfl rfl), (tbk tin_4 11 rfl rfl), by decide +kernel, by decide +kernel, by decide +kernel⟩, (tbk tin_4 9 rfl rfl), (tbk tin_4 10 rfl rfl)⟩
theorem sw_lat : CWs RJ0 495 yJ1_charAt_3b067 cJ1_charAt_3b067 2 (some .char) 2 := ⟨⟨(tbk tin_4 12 rfl rfl), (tbk tin_1 16 rfl rfl), (tbk tin_4 14 rfl rfl), by decide +kernel, by decide +kernel, by decide +kernel⟩, (tbk tin_4 13 rfl rfl)⟩
theorem sw_chk : CWs RJ1 9 yJ0_checkIndex_df160 cJ0_checkIndex_df160 2 none 2 := ⟨⟨(tbk tin_4 15 rfl rfl), (tbk tin_1 15 rfl rfl), (tbk tin_4 17 rfl rfl), by decide +kernel, by decide +kernel, by decide +kernel⟩, (tbk tin_4 16 rfl rfl)⟩
theorem sw_chk3 : CWs RJ0 1059 yJ3_checkIndex_8e157 cJ3_checkIndex_8e157 3 (some .int) 3 := ⟨⟨(tbk tin_4 20 rfl rfl), (tbk tin_1 17 rfl rfl), (tbk tin_4 22 rfl rfl), by decide +kernel, by decide +kernel, by decide +kernel⟩, (tbk tin_4 21 rfl rfl)⟩
theorem sw_f9 : Cond.fieldLink RJ0 9 "java/lang/String" "value" "[B" ∈ TB := (tbk tin_10 45 rfl rfl)
theorem sw_f15 : Cond.fieldLink RJ0 15 "java/lang/String" "coder" "B" ∈ TB := (tbk tin_10 46 rfl rfl)
theorem sw_f38 : Cond.fieldLink RJ0 38 "java/lang/String" "COMPACT_STRINGS" "Z" ∈ TB := (tbk tin_4 2 rfl rfl)
theorem sw_fmt : Cond.fieldLink RJ0 1053 "jdk/internal/util/Preconditions" "SIOOBE_FORMATTER" "Ljava/util/function/BiFunction;" ∈ TB := (tbk tin_4 18 rfl rfl)

theorem str_bytes : ∀ q ∈ strT, ∀ b ∈ strBytes q.2.2, ((b &&& 255).toUInt32 % 65536).toInt32 = b ∧ narrow .char (.int b) = .int b := by decide +kernel
theorem isStr_get {s : Nat} (hs : isStr s) : ∃ q, strT[s - 1000]? = some q ∧ sTx s = q.2.2 := by
  have h : s - 1000 < strT.length := by have := hs.1; have := hs.2; omega
  exact ⟨_, List.getElem?_eq_getElem h, by rw [sTx, List.getElem?_eq_getElem h]; rfl⟩
theorem sAt_mem {s k : Nat} (hk : k < sLn s) : sAt s k ∈ strBytes (sTx s) := by
  unfold sAt
  rw [List.getD_eq_getElem?_getD, List.getElem?_eq_getElem hk]
  exact List.getElem_mem hk
theorem sAt_ok {s k : Nat} (hs : isStr s) (hk : k < sLn s) : ((sAt s k &&& 255).toUInt32 % 65536).toInt32 = sAt s k ∧ narrow .char (.int (sAt s k)) = .int (sAt s k) := by
  obtain ⟨q, h1, h2⟩ := isStr_get hs
  have hm := sAt_mem hk
  rw [h2] at hm
  exact str_bytes q (List.mem_of_getElem? h1) _ hm
section JSt
variable {X : CX} {O : Oc} {cc cc' : ByteArray} {nL nL' : Nat} {own : String} {ret ret' : Option FieldType} {pc : Nat} {L : List (Nat × Value)} {S S0 : List Value} {h : Hp}
theorem str_at {G : GX} {s : State} (hW : G.2.1.WarmedH s.vm) (hb : ∀ q : Nat, q < G.2.1.heap.size → s.heap[q]? = G.2.1.heap[q]?) (hG : GOk G) {s9 : Nat} (hs : isStr s9) : vk_S 1 [sLn s9] [strBytes (sTx s9)] (fun _ => G.2.2.1 s9) (fun _ => G.2.2.1 (s9 + 1000)) (bs G) s s.heap := by
  obtain ⟨q, h1, h2⟩ := isStr_get hs
  have hq := (hG.2.2.2.2.2.1.1 _ q h1).2
  have e1 : 1000 + (s9 - 1000) = s9 := by have := hs.1; omega
  have e2 : 2000 + (s9 - 1000) = s9 + 1000 := by have := hs.1; omega
  rw [e1, e2, ← h2] at hq
  exact (hq.moved hW.alike).kept (fun a h1 _ => hb a h1)
theorem J_sgetV (hX : Ok X cc nL RJ0 ret) {s9 : Nat} (hs : isStr s9) (hd : decode cc pc = .ok (.getfield 9, 3)) (kk : J X O (pc + 3) L (.ref (s9 + 1000) :: S) h) : J X O pc L (.ref s9 :: S) h := by
  obtain ⟨G, p, e, s, m, args, below, meth, c, d⟩ := X
  intro H locs ls hw hl hS
  have hE := str_at hX.2.2.2.2.2.2.2.1 hX.2.2.2.2.2.2.2.2.2.1 hX.2.2.2.2.2.2.2.2.2.2.1 hs
  exact vk_getf hX.1 hX.2.1 (hE.1 0 (by decide)).2.2.1 hS hX.2.2.2.1 (hX.2.2.2.2.1 _ sw_f9) (fun _ q => q) hd (kk H locs ls hw hl hS)
theorem J_sgetC (hX : Ok X cc nL RJ0 ret) {s9 : Nat} (hs : isStr s9) (hd : decode cc pc = .ok (.getfield 15, 3)) (kk : J X O (pc + 3) L (.int 0 :: S) h) : J X O pc L (.ref s9 :: S) h := by
  obtain ⟨G, p, e, s, m, args, below, meth, c, d⟩ := X
  intro H locs ls hw hl hS
  have hE := str_at hX.2.2.2.2.2.2.2.1 hX.2.2.2.2.2.2.2.2.2.1 hX.2.2.2.2.2.2.2.2.2.2.1 hs
  exact vk_getf hX.1 hX.2.1 (hE.1 0 (by decide)).2.1 hS hX.2.2.2.1 (hX.2.2.2.2.1 _ sw_f15) (fun _ q => q) hd (kk H locs ls hw hl hS)
set_option maxRecDepth 100000 in
theorem J_salen (hX : Ok X cc nL own ret) {s9 : Nat} (hs : isStr s9) (hd : decode cc pc = .ok (.arraylength, 1)) (kk : J X O (pc + 1) L (.int (sLen s9) :: S) h) : J X O pc L (.ref (s9 + 1000) :: S) h := by
  obtain ⟨G, p, e, s, m, args, below, meth, c, d⟩ := X
  intro H locs ls hw hl hS
  have hE := str_at hX.2.2.2.2.2.2.2.1 hX.2.2.2.2.2.2.2.2.2.1 hX.2.2.2.2.2.2.2.2.2.2.1 hs
  have hT : va_T .byte (G.2.2.1 (s9 + 1000)) (sLn s9) (fun j => .int ((strBytes (sTx s9)).getD j 0)) (bs G) s s.heap := (hE.1 0 (by decide)).2.2.2
  have hv : Int32.ofNat (sLn s9) = sLen s9 := by unfold sLen; rfl
  exact va_tlen (v := sLen s9) hX.1 hX.2.1 hT hS hv hd (kk H locs ls hw hl hS)
set_option maxRecDepth 100000 in
theorem J_sbald (hX : Ok X cc nL own ret) {s9 : Nat} {i : Int32} (hs : isStr s9) (hi : ix i (sLn s9)) (hd : decode cc pc = .ok (.baload, 1)) (kk : J X O (pc + 1) L (.int (sAt s9 i.toNatClampNeg) :: S) h) : J X O pc L (.int i :: .ref (s9 + 1000) :: S) h := by
  obtain ⟨G, p, e, s, m, args, below, meth, c, d⟩ := X
  intro H locs ls hw hl hS
  have hE := str_at hX.2.2.2.2.2.2.2.1 hX.2.2.2.2.2.2.2.2.2.1 hX.2.2.2.2.2.2.2.2.2.2.1 hs
  have hT : va_T .byte (G.2.2.1 (s9 + 1000)) (sLn s9) (fun j => .int ((strBytes (sTx s9)).getD j 0)) (bs G) s s.heap := (hE.1 0 (by decide)).2.2.2
  have hv : (fun j => Value.int ((strBytes (sTx s9)).getD j 0)) i.toNatClampNeg = .int (sAt s9 i.toNatClampNeg) := by unfold sAt; rfl
  exact va_tb (v := .int (sAt s9 i.toNatClampNeg)) hX.1 hX.2.1 hT hS (ix_in hi) hv hd (kk H locs ls hw hl hS)
theorem J_compact (hX : Ok X cc nL RJ0 ret) (hd : decode cc pc = .ok (.getstatic 38, 3)) (kk : J X O (pc + 3) L (.int 1 :: S) h) : J X O pc L S h := by
  obtain ⟨G, p, e, s, m, args, below, meth, c, d⟩ := X
  intro H locs ls hw hl hS
  have hZ := ((hX.2.2.2.2.2.2.2.2.2.2.1).2.2.2.2.2.1.2.1.moved hX.2.2.2.2.2.2.2.1.alike).kept (fun a h1 _ => hX.2.2.2.2.2.2.2.2.2.1 a h1)
  exact va_gets hX.1 hX.2.1 hZ hS hX.2.2.2.1 (hX.2.2.2.2.1 _ sw_f38) (fun _ q => q) hd (kk H locs ls hw hl hS)
theorem J_fmt (hX : Ok X cc nL RJ0 ret) (hd : decode cc pc = .ok (.getstatic 1053, 3)) (kk : ∀ v, v = .null ∨ v = .ref 3000 → J X O (pc + 3) L (v :: S) h) : J X O pc L S h := by
  obtain ⟨G, p, e, s, m, args, below, meth, c, d⟩ := X
  intro H locs ls hw hl hS
  obtain ⟨v, hv, hZ0⟩ := (hX.2.2.2.2.2.2.2.2.2.2.1).2.2.2.2.2.1.2.2
  have hZ := (hZ0.moved hX.2.2.2.2.2.2.2.1.alike).kept (fun a h1 _ => hX.2.2.2.2.2.2.2.2.2.1 a h1)
  exact va_gets hX.1 hX.2.1 hZ hS hX.2.2.2.1 (hX.2.2.2.2.1 _ sw_fmt) (fun _ q => q) hd (kk v hv H locs ls hw hl hS)
theorem J_i2c (hX : Ok X cc nL own ret) {x : Int32} (hd : decode cc pc = .ok (.i2c, 1)) (kk : J X O (pc + 1) L (.int (x.toUInt32 % 65536).toInt32 :: S) h) : J X O pc L (.int x :: S) h := by
  obtain ⟨G, p, e, s, m, args, below, meth, c, d⟩ := X
  intro H locs ls hw hl hS
  exact lv_i2c hX.1 hX.2.1 hd rfl (kk H locs ls hw hl hS)
theorem J_nret (hX : Ok X cc nL own ret) {v : Int32} {ty : FieldType} (hr : ret = some ty) (hn : narrow ty (.int v) = .int v) (hd : decode cc pc = .ok (.ireturn, 1)) (hO : O = (.inl (some (.int v)), h)) : J X O pc L [.int v] h := by
  obtain ⟨G, p, e, s, m, args, below, meth, c, d⟩ := X
  intro H locs ls hw hl hS
  subst hO
  exact vx_ret (W.zret hX.1 hX.2.1 (hX.2.2.2.2.2.1.trans hr) hn (fun t ht hW => ⟨rfl, by rw [ht]; exact hw, by rw [ht]; exact hS.1⟩) hS.2.2 hd hX.2.2.2.2.2.2.1)
theorem J_callStr (hX : Ok X cc nL own ret) {idx n s9 d' : Nat} {y : MethodName} {v : Value} (As : List Value) (hdc : decode cc pc = .ok (.invokevirtual idx, 3)) (hw : CWv own idx y cc' nL' ret' n) (hs : isStr s9) (hcn : y.cls = "java/lang/String")
    (hc : Ctr X.1 d' y cc' nL' ret' (.ref s9 :: As) h (.inl (some v), h)) (hd : d' < dX X) (hnl : Nat.blt nL' 60 = true) (hn : As.length = n) (hst : S0 = As.reverse ++ .ref s9 :: S) (hsm : Nat.ble (S.map fun v => v.category).sum 8 = true)
    (hk : J X O (pc + 3) L (v :: S) h) : J X O pc L S0 h := by
  obtain ⟨G, p, e, s, m, args, below, meth, c, d⟩ := X
  intro H locs ls hwd hl hS
  subst hst
  have ht : ∀ w ∈ TB, w.before args s = true := hX.2.2.2.2.1
  have hE := str_at hX.2.2.2.2.2.2.2.1 hX.2.2.2.2.2.2.2.2.2.1 hX.2.2.2.2.2.2.2.2.2.2.1 hs
  obtain ⟨cell, c1, c2, c3⟩ := vk_recv (i := 0) hE (by decide) hS
  refine J_run (a := (Value.ref (G.2.2.1 s9) :: As.map (cv G.2.2.1)).toArray) (Oc' := (.inl (some v), h)) (S := S) hX hwd hl hS (vx_runV (cc := cc) (nL := nL) (Ts := TB) (own := own) (C := y.cls) (b := G.2.2.1 s9) (As := As.map (cv G.2.2.1)) (n := n) (index := idx) ⟨hX.1, hX.2.1, hX.2.2.1, hX.2.2.2.1, ht⟩ hc ⟨cw_B hX hw.1 hd hnl, ht _ hw.2.1, ht _ hw.2.2⟩
      ⟨fun a U g mk q => q, ⟨cell, c1, c2, by rw [hcn]; exact c3⟩, fun U hU hW => ⟨rfl, hX.2.2.2.2.2.2.2.1.trans hW, by rw [hU]; exact hwd⟩⟩ rfl (by rw [List.length_map]; exact hn) (hl.1.trans hX.2.2.1) (by
        show (As.reverse ++ .ref s9 :: S).map (cv G.2.2.1) = _
        rw [List.map_append, List.map_reverse]; rfl) (by
        show 2 * 0 + _ ≤ 8
        rw [cat_sum]; have := Nat.le_of_ble_eq_true hsm; omega) hdc ⟨Nat.zero_le _, Nat.zero_le _⟩) (Or.inl ⟨_, _, rfl, hk⟩)
end JSt
theorem shr0 (x : Int32) : shr x 0 = x := sb_shr0 x
set_option maxRecDepth 100000 in
theorem C_coder {G : GX} (hG : GOk G) {s9 : Nat} (hs : isStr s9) {h : Hp} : Ctr G 2 yJ0_coder_7d493 cJ0_coder_7d493 1 (some .byte) [.ref s9] h (.inl (some (.int 0)), h) :=
  Ctr_of hG RJ0 rfl (by decide) rfl (fun X _ hdx hX => by
    show J X _ 0 [(0, .ref s9)] [] h
    refine J_compact hX dJ0_coder_7d493_0 ?_
    refine J_if_eqF hX 13 dJ0_coder_7d493_3 rfl (by decide) ?_
    refine J_aload_n hX 0 dJ0_coder_7d493_6 rfl rfl ?_
    refine J_sgetC hX hs dJ0_coder_7d493_7 ?_
    refine J_goto hX 14 dJ0_coder_7d493_10 rfl ?_
    exact J_nret hX rfl (by decide) dJ0_coder_7d493_14 rfl)
set_option maxRecDepth 100000 in
theorem C_isLatin1 {G : GX} (hG : GOk G) {s9 : Nat} (hs : isStr s9) {h : Hp} : Ctr G 2 yJ0_isLatin1_aae02 cJ0_isLatin1_aae02 1 (some .boolean) [.ref s9] h (.inl (some (.int 1)), h) :=
  Ctr_of hG RJ0 rfl (by decide) rfl (fun X _ hdx hX => by
    show J X _ 0 [(0, .ref s9)] [] h
    refine J_compact hX dJ0_isLatin1_aae02_0 ?_
    refine J_if_eqF hX 17 dJ0_isLatin1_aae02_3 rfl (by decide) ?_
    refine J_aload_n hX 0 dJ0_isLatin1_aae02_6 rfl rfl ?_
    refine J_sgetC hX hs dJ0_isLatin1_aae02_7 ?_
    refine J_if_neF hX 17 dJ0_isLatin1_aae02_10 rfl rfl ?_
    refine J_iconst hX 1 dJ0_isLatin1_aae02_13 rfl ?_
    refine J_goto hX 18 dJ0_isLatin1_aae02_14 rfl ?_
    exact J_nret hX rfl (by decide) dJ0_isLatin1_aae02_18 rfl)
set_option maxRecDepth 100000 in
theorem C_strlen {G : GX} (hG : GOk G) {s9 : Nat} (hs : isStr s9) {h : Hp} : Ctr G 3 yJ0_length_8abf5 cJ0_length_8abf5 1 (some .int) [.ref s9] h (.inl (some (.int (sLen s9))), h) :=
  Ctr_of hG RJ0 rfl (by decide) rfl (fun X hX1 hdx hX => by
    show J X _ 0 [(0, .ref s9)] [] h
    refine J_aload_n hX 0 dJ0_length_8abf5_0 rfl rfl ?_
    refine J_sgetV hX hs dJ0_length_8abf5_1 ?_
    refine J_salen hX hs dJ0_length_8abf5_4 ?_
    refine J_aload_n hX 0 dJ0_length_8abf5_5 rfl rfl ?_
    refine J_callStr hX [] dJ0_length_8abf5_6 sw_coder hs rfl (C_coder (okG hX) hs) (ltD hdx rfl) rfl rfl rfl rfl ?_
    refine J_ishr hX dJ0_length_8abf5_9 ?_
    refine J_nm (shr0 _) ?_
    exact J_iret hX dJ0_length_8abf5_10 rfl)
set_option maxRecDepth 100000 in
theorem C_chk3 {G : GX} (hG : GOk G) {s9 : Nat} (hs : isStr s9) {i : Int32} (hi : ix i (sLn s9)) (hn : i < sLen s9) {v : Value} (hv : v = .null ∨ v = .ref 3000) {h : Hp} : Ctr G 2 yJ3_checkIndex_8e157 cJ3_checkIndex_8e157 3 (some .int) [.int i, .int (sLen s9), v] h (.inl (some (.int i)), h) :=
  Ctr_of hG RJ3 rfl (by decide) (by rcases hv with rfl | rfl <;> rfl) (fun X _ hdx hX => by
    have e : lv_args 0 [.int i, .int (sLen s9), v] = [(0, .int i), (1, .int (sLen s9)), (2, v)] := rfl
    rw [e]
    refine J_iload_n hX 0 dJ3_checkIndex_8e157_0 rfl rfl ?_
    refine J_if_ltF hX 9 dJ3_checkIndex_8e157_1 rfl hi.1 ?_
    refine J_iload_n hX 0 dJ3_checkIndex_8e157_4 rfl rfl ?_
    refine J_iload_n hX 1 dJ3_checkIndex_8e157_5 rfl rfl ?_
    refine J_icmp_ltT hX 16 dJ3_checkIndex_8e157_6 rfl hn ?_
    refine J_iload_n hX 0 dJ3_checkIndex_8e157_16 rfl rfl ?_
    exact J_iret hX dJ3_checkIndex_8e157_17 rfl)
set_option maxRecDepth 100000 in
theorem C_chk {G : GX} (hG : GOk G) {s9 : Nat} (hs : isStr s9) {i : Int32} (hi : ix i (sLn s9)) (hn : i < sLen s9) {h : Hp} : Ctr G 3 yJ0_checkIndex_df160 cJ0_checkIndex_df160 2 none [.int i, .int (sLen s9)] h (.inl none, h) :=
  Ctr_of hG RJ0 rfl (by decide) rfl (fun X _ hdx hX => by
    show J X _ 0 [(0, .int i), (1, .int (sLen s9))] [] h
    refine J_iload_n hX 0 dJ0_checkIndex_df160_0 rfl rfl ?_
    refine J_iload_n hX 1 dJ0_checkIndex_df160_1 rfl rfl ?_
    refine J_fmt hX dJ0_checkIndex_df160_2 (fun v hv => ?_)
    refine S_1 hX [.int i, .int (sLen s9), v] dJ0_checkIndex_df160_5 sw_chk3 (C_chk3 (okG hX) hs hi hn hv) (ltD hdx rfl) rfl rfl rfl rfl ?_
    refine J_pop hX dJ0_checkIndex_df160_8 rfl ?_
    exact J_vret hX dJ0_checkIndex_df160_9 rfl)
set_option maxRecDepth 100000 in
theorem C_lat1 {G : GX} (hG : GOk G) {s9 : Nat} (hs : isStr s9) {i : Int32} (hi : ix i (sLn s9)) (hn : i < sLen s9) {h : Hp} : Ctr G 4 yJ1_charAt_3b067 cJ1_charAt_3b067 2 (some .char) [.ref (s9 + 1000), .int i] h (.inl (some (.int (sAt s9 i.toNatClampNeg))), h) :=
  Ctr_of hG RJ1 rfl (by decide) rfl (fun X _ hdx hX => by
    show J X _ 0 [(0, .ref (s9 + 1000)), (1, .int i)] [] h
    refine J_iload_n hX 1 dJ1_charAt_3b067_0 rfl rfl ?_
    refine J_aload_n hX 0 dJ1_charAt_3b067_1 rfl rfl ?_
    refine J_salen hX hs dJ1_charAt_3b067_2 ?_
    refine S_0 hX [.int i, .int (sLen s9)] dJ1_charAt_3b067_3 sw_chk (C_chk (okG hX) hs hi hn) (ltD hdx rfl) rfl rfl rfl rfl ?_
    refine J_aload_n hX 0 dJ1_charAt_3b067_6 rfl rfl ?_
    refine J_iload_n hX 1 dJ1_charAt_3b067_7 rfl rfl ?_
    refine J_sbald hX hs hi dJ1_charAt_3b067_8 ?_
    refine J_sipush hX 255 dJ1_charAt_3b067_9 rfl ?_
    refine J_iand hX dJ1_charAt_3b067_12 ?_
    refine J_i2c hX dJ1_charAt_3b067_13 ?_
    refine J_nm (sAt_ok hs hi.2).1 ?_
    exact J_nret hX rfl (sAt_ok hs hi.2).2 dJ1_charAt_3b067_14 rfl)
set_option maxRecDepth 100000 in
theorem C_charAt {G : GX} (hG : GOk G) {s9 : Nat} (hs : isStr s9) {i : Int32} (hi : ix i (sLn s9)) (hn : i < sLen s9) {h : Hp} : Ctr G 5 yJ0_charAt_5068e cJ0_charAt_5068e 2 (some .char) [.ref s9, .int i] h (.inl (some (.int (sAt s9 i.toNatClampNeg))), h) :=
  Ctr_of hG RJ0 rfl (by decide) rfl (fun X _ hdx hX => by
    show J X _ 0 [(0, .ref s9), (1, .int i)] [] h
    refine J_aload_n hX 0 dJ0_charAt_5068e_0 rfl rfl ?_
    refine J_callStr hX [] dJ0_charAt_5068e_1 sw_isL hs rfl (C_isLatin1 (okG hX) hs) (ltD hdx rfl) rfl rfl rfl rfl ?_
    refine J_if_eqF hX 16 dJ0_charAt_5068e_4 rfl (by decide) ?_
    refine J_aload_n hX 0 dJ0_charAt_5068e_7 rfl rfl ?_
    refine J_sgetV hX hs dJ0_charAt_5068e_8 ?_
    refine J_iload_n hX 1 dJ0_charAt_5068e_11 rfl rfl ?_
    refine S_1 hX [.ref (s9 + 1000), .int i] dJ0_charAt_5068e_12 sw_lat (C_lat1 (okG hX) hs hi hn) (ltD hdx rfl) rfl rfl rfl rfl ?_
    exact J_nret hX rfl (sAt_ok hs hi.2).2 dJ0_charAt_5068e_15 rfl)
theorem sLn_lt : ∀ q ∈ strT, (strBytes q.2.2).length < 1000 := by decide +kernel
theorem ix_lt {s9 : Nat} {i : Int32} (hs : isStr s9) (hi : ix i (sLn s9)) : i < sLen s9 := by
  obtain ⟨q, h1, h2⟩ := isStr_get hs
  have hl : sLn s9 < 1000 := by rw [sLn, h2]; exact sLn_lt q (List.mem_of_getElem? h1)
  obtain ⟨j, hj, rfl⟩ := vp_in_of (ix_in hi) (by omega)
  exact nI_lt hj (by omega)
section JSu
variable {X : CX} {O : Oc} {cc cc' : ByteArray} {nL nL' : Nat} {own : String} {ret ret' : Option FieldType} {pc : Nat} {L : List (Nat × Value)} {S S0 : List Value} {h : Hp}
theorem J_strLen (hX : Ok X cc nL own ret) {s9 idx : Nat} (hdc : decode cc pc = .ok (.invokevirtual idx, 3)) (hs : isStr s9) (hw : CWv own idx yJ0_length_8abf5 cJ0_length_8abf5 1 (some .int) 0) (hd : 6 < dX X) (hsm : Nat.ble (S.map fun v => v.category).sum 8 = true) (kk : J X O (pc + 3) L (.int (sLen s9) :: S) h) : J X O pc L (.ref s9 :: S) h :=
  J_callStr hX [] hdc hw hs rfl (C_strlen (okG hX) hs) (by omega) rfl rfl rfl hsm kk
theorem J_strAt (hX : Ok X cc nL own ret) {s9 idx : Nat} {i : Int32} (hdc : decode cc pc = .ok (.invokevirtual idx, 3)) (hs : isStr s9) (hi : ix i (sLn s9)) (hw : CWv own idx yJ0_charAt_5068e cJ0_charAt_5068e 2 (some .char) 1) (hd : 6 < dX X) (hsm : Nat.ble (S.map fun v => v.category).sum 8 = true) (kk : J X O (pc + 3) L (.int (sAt s9 i.toNatClampNeg) :: S) h) : J X O pc L (.int i :: .ref s9 :: S) h :=
  J_callStr hX [.int i] hdc hw hs rfl (C_charAt (okG hX) hs hi (ix_lt hs hi)) (by omega) rfl rfl rfl hsm kk
end JSu
