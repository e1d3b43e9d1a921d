theorem dX1_pieceOf_0 : decode cX1_pieceOf 0 = .ok (.iconst 1, 1) := by decide +kernel
theorem dX1_pieceOf_1 : decode cX1_pieceOf 1 = .ok (.iload_n 1, 1) := by decide +kernel
theorem dX1_pieceOf_2 : decode cX1_pieceOf 2 = .ok (.ishl, 1) := by decide +kernel
theorem dX1_pieceOf_3 : decode cX1_pieceOf 3 = .ok (.iload_n 2, 1) := by decide +kernel
theorem dX1_pieceOf_4 : decode cX1_pieceOf 4 = .ok (.iand, 1) := by decide +kernel
theorem dX1_pieceOf_5 : decode cX1_pieceOf 5 = .ok (.istore_n 3, 1) := by decide +kernel
theorem dX1_pieceOf_6 : decode cX1_pieceOf 6 = .ok (.iconst 0, 1) := by decide +kernel
theorem dX1_pieceOf_7 : decode cX1_pieceOf 7 = .ok (.istore 4, 2) := by decide +kernel
theorem dX1_pieceOf_9 : decode cX1_pieceOf 9 = .ok (.iload 4, 2) := by decide +kernel
theorem dX1_pieceOf_11 : decode cX1_pieceOf 11 = .ok (.bipush 8, 2) := by decide +kernel
theorem dX1_pieceOf_13 : decode cX1_pieceOf 13 = .ok (.if_icmp .ge 46, 3) := by decide +kernel
theorem dX1_pieceOf_16 : decode cX1_pieceOf 16 = .ok (.iconst 0, 1) := by decide +kernel
theorem dX1_pieceOf_17 : decode cX1_pieceOf 17 = .ok (.istore 5, 2) := by decide +kernel
theorem dX1_pieceOf_19 : decode cX1_pieceOf 19 = .ok (.iload 5, 2) := by decide +kernel
theorem dX1_pieceOf_21 : decode cX1_pieceOf 21 = .ok (.bipush 8, 2) := by decide +kernel
theorem dX1_pieceOf_23 : decode cX1_pieceOf 23 = .ok (.if_icmp .ge 30, 3) := by decide +kernel
theorem dX1_pieceOf_26 : decode cX1_pieceOf 26 = .ok (.iload_n 3, 1) := by decide +kernel
theorem dX1_pieceOf_27 : decode cX1_pieceOf 27 = .ok (.iload 5, 2) := by decide +kernel
theorem dX1_pieceOf_29 : decode cX1_pieceOf 29 = .ok (.ishr, 1) := by decide +kernel
theorem dX1_pieceOf_30 : decode cX1_pieceOf 30 = .ok (.iconst 1, 1) := by decide +kernel
theorem dX1_pieceOf_31 : decode cX1_pieceOf 31 = .ok (.iand, 1) := by decide +kernel
theorem dX1_pieceOf_32 : decode cX1_pieceOf 32 = .ok (.iconst 1, 1) := by decide +kernel
theorem dX1_pieceOf_33 : decode cX1_pieceOf 33 = .ok (.if_icmp .ne 14, 3) := by decide +kernel
theorem dX1_pieceOf_36 : decode cX1_pieceOf 36 = .ok (.iload_n 3, 1) := by decide +kernel
theorem dX1_pieceOf_37 : decode cX1_pieceOf 37 = .ok (.aload_n 0, 1) := by decide +kernel
theorem dX1_pieceOf_38 : decode cX1_pieceOf 38 = .ok (.iload 5, 2) := by decide +kernel
theorem dX1_pieceOf_40 : decode cX1_pieceOf 40 = .ok (.invokevirtual 118, 3) := by decide +kernel
theorem dX1_pieceOf_43 : decode cX1_pieceOf 43 = .ok (.iload_n 2, 1) := by decide +kernel
theorem dX1_pieceOf_44 : decode cX1_pieceOf 44 = .ok (.iand, 1) := by decide +kernel
theorem dX1_pieceOf_45 : decode cX1_pieceOf 45 = .ok (.ior, 1) := by decide +kernel
theorem dX1_pieceOf_46 : decode cX1_pieceOf 46 = .ok (.istore_n 3, 1) := by decide +kernel
theorem dX1_pieceOf_47 : decode cX1_pieceOf 47 = .ok (.iinc 5 1, 3) := by decide +kernel
theorem dX1_pieceOf_50 : decode cX1_pieceOf 50 = .ok (.goto (-31), 3) := by decide +kernel
theorem dX1_pieceOf_53 : decode cX1_pieceOf 53 = .ok (.iinc 4 1, 3) := by decide +kernel
theorem dX1_pieceOf_56 : decode cX1_pieceOf 56 = .ok (.goto (-47), 3) := by decide +kernel
theorem dX1_pieceOf_59 : decode cX1_pieceOf 59 = .ok (.iload_n 3, 1) := by decide +kernel
theorem dX1_pieceOf_60 : decode cX1_pieceOf 60 = .ok (.ireturn, 1) := by decide +kernel
set_option maxRecDepth 100000 in
set_option maxHeartbeats 200000 in
theorem T_X1_pieceOf_19_s {X : CX} (hX : Ok X cX1_pieceOf 6 RX1 (some .int)) (hdx : dX X = 6) {r : Int32} (h : Hp) (k0 : Nat) (hk0 : isCity k0) (x2 : Int32) (x4 : Int32) (q_9 : Int32 → Int32 → Option Int32) (hq_9 : ∀ (x3 : Int32) (x4 : Int32), q_9 x3 x4 = some r → J X ((.inl (some (.int r)), h)) 9 [(0, .ref k0), (2, .int x2), (3, .int x3), (4, .int x4)] [] h) (q_19 : Int32 → Int32 → Option Int32) (hq_19 : ∀ (x3 : Int32) (x5 : Int32), q_19 x3 x5 = some r → J X ((.inl (some (.int r)), h)) 19 [(0, .ref k0), (2, .int x2), (3, .int x3), (4, .int x4), (5, .int x5)] [] h) (x3 : Int32) (x5 : Int32) (hf : S_X1_pieceOf_19 q_9 h k0 x2 x4 q_19 x3 x5 = some r) : J X ((.inl (some (.int r)), h)) 19 [(0, .ref k0), (2, .int x2), (3, .int x3), (4, .int x4), (5, .int x5)] [] h := by
  unfold S_X1_pieceOf_19 at hf
  refine J_iload hX 4 dX1_pieceOf_19 rfl ?_
  refine J_bipush hX 8 dX1_pieceOf_21 rfl ?_
  rcases ifE hf with ⟨c_1, hf⟩ | ⟨c_1, hf⟩
  · refine J_icmp_geF hX 53 dX1_pieceOf_23 rfl c_1 ?_
    refine J_iload_n hX 2 dX1_pieceOf_26 rfl rfl ?_
    refine J_iload hX 4 dX1_pieceOf_27 rfl ?_
    refine J_ishr hX dX1_pieceOf_29 ?_
    refine J_iconst hX 1 dX1_pieceOf_30 rfl ?_
    refine J_iand hX dX1_pieceOf_31 ?_
    refine J_iconst hX 1 dX1_pieceOf_32 rfl ?_
    rcases ifE hf with ⟨c_2, hf⟩ | ⟨c_2, hf⟩
    · refine J_icmp_neF hX 47 dX1_pieceOf_33 rfl c_2 ?_
      refine J_iload_n hX 2 dX1_pieceOf_36 rfl rfl ?_
      refine J_aload_n hX 0 dX1_pieceOf_37 rfl rfl ?_
      refine J_iload hX 4 dX1_pieceOf_38 rfl ?_
      obtain ⟨r_3, e_4, hf⟩ := bdE hf
      refine V_1 hX [.int x5] dX1_pieceOf_40 cw_X1_118 (city_ob hk0) rfl (C_X1_touching (okG hX) hk0 e_4) (ltD hdx rfl) rfl rfl rfl rfl ?_
      refine J_iload_n hX 1 dX1_pieceOf_43 rfl rfl ?_
      refine J_iand hX dX1_pieceOf_44 ?_
      refine J_ior hX dX1_pieceOf_45 ?_
      obtain ⟨x3_5, e_6, hf⟩ := bndE hf
      refine J_nm e_6 ?_
      refine J_istore_n hX [(3, .int x3_5), (0, .ref k0), (2, .int x2), (4, .int x4), (5, .int x5)] dX1_pieceOf_46 rfl rfl rfl ?_
      refine J_iinc hX (x5 + 1) 4 [(5, .int (x5 + 1)), (3, .int x3_5), (0, .ref k0), (2, .int x2), (4, .int x4)] dX1_pieceOf_47 rfl rfl rfl rfl ?_
      refine J_goto hX 19 dX1_pieceOf_50 rfl ?_
      refine J_sub [2, 3, 1, 4, 0] [(0, .ref k0), (2, .int x2), (3, .int x3_5), (4, .int x4), (5, .int (x5 + 1))] rfl ?_
      exact hq_19 x3_5 (x5 + 1) hf
    · refine J_icmp_neT hX 47 dX1_pieceOf_33 rfl c_2 ?_
      refine J_iinc hX (x5 + 1) 4 [(5, .int (x5 + 1)), (0, .ref k0), (2, .int x2), (3, .int x3), (4, .int x4)] dX1_pieceOf_47 rfl rfl rfl rfl ?_
      refine J_goto hX 19 dX1_pieceOf_50 rfl ?_
      refine J_sub [1, 2, 3, 4, 0] [(0, .ref k0), (2, .int x2), (3, .int x3), (4, .int x4), (5, .int (x5 + 1))] rfl ?_
      exact hq_19 x3 (x5 + 1) hf
  · refine J_icmp_geT hX 53 dX1_pieceOf_23 rfl c_1 ?_
    refine J_iinc hX (x4 + 1) 3 [(4, .int (x4 + 1)), (0, .ref k0), (2, .int x2), (3, .int x3), (5, .int x5)] dX1_pieceOf_53 rfl rfl rfl rfl ?_
    refine J_goto hX 9 dX1_pieceOf_56 rfl ?_
    refine J_sub [1, 2, 3, 0] [(0, .ref k0), (2, .int x2), (3, .int x3), (4, .int (x4 + 1))] rfl ?_
    exact hq_9 x3 (x4 + 1) hf
set_option maxRecDepth 100000 in
set_option maxHeartbeats 200000 in
theorem T_X1_pieceOf_19 {X : CX} (hX : Ok X cX1_pieceOf 6 RX1 (some .int)) (hdx : dX X = 6) {r : Int32} (h : Hp) (k0 : Nat) (hk0 : isCity k0) (x2 : Int32) (x4 : Int32) (q_9 : Int32 → Int32 → Option Int32) (hq_9 : ∀ (x3 : Int32) (x4 : Int32), q_9 x3 x4 = some r → J X ((.inl (some (.int r)), h)) 9 [(0, .ref k0), (2, .int x2), (3, .int x3), (4, .int x4)] [] h) : ∀ (n : Nat) (x3 : Int32) (x5 : Int32), F_X1_pieceOf_19 q_9 h k0 x2 x4 n x3 x5 = some r → J X ((.inl (some (.int r)), h)) 19 [(0, .ref k0), (2, .int x2), (3, .int x3), (4, .int x4), (5, .int x5)] [] h := by
  intro n
  induction n with
  | zero => intro x3 x5 hf; exact nomatch hf
  | succ n ih => intro x3 x5 hf; exact T_X1_pieceOf_19_s hX hdx h k0 hk0 x2 x4 q_9 hq_9 _ (fun x3 x5 hf => ih x3 x5 hf) x3 x5 hf
set_option maxRecDepth 100000 in
set_option maxHeartbeats 200000 in
theorem T_X1_pieceOf_9_s {X : CX} (hX : Ok X cX1_pieceOf 6 RX1 (some .int)) (hdx : dX X = 6) {r : Int32} (h : Hp) (k0 : Nat) (hk0 : isCity k0) (x2 : Int32) (q_9 : Int32 → Int32 → Option Int32) (hq_9 : ∀ (x3 : Int32) (x4 : Int32), q_9 x3 x4 = some r → J X ((.inl (some (.int r)), h)) 9 [(0, .ref k0), (2, .int x2), (3, .int x3), (4, .int x4)] [] h) (x3 : Int32) (x4 : Int32) (hf : S_X1_pieceOf_9 h k0 x2 q_9 x3 x4 = some r) : J X ((.inl (some (.int r)), h)) 9 [(0, .ref k0), (2, .int x2), (3, .int x3), (4, .int x4)] [] h := by
  unfold S_X1_pieceOf_9 at hf
  refine J_iload hX 3 dX1_pieceOf_9 rfl ?_
  refine J_bipush hX 8 dX1_pieceOf_11 rfl ?_
  rcases ifE hf with ⟨c_1, hf⟩ | ⟨c_1, hf⟩
  · refine J_icmp_geF hX 59 dX1_pieceOf_13 rfl c_1 ?_
    refine J_iconst hX 0 dX1_pieceOf_16 rfl ?_
    refine J_istore hX [(5, .int 0), (0, .ref k0), (2, .int x2), (3, .int x3), (4, .int x4)] dX1_pieceOf_17 rfl rfl ?_
    refine J_sub [1, 2, 3, 4, 0] [(0, .ref k0), (2, .int x2), (3, .int x3), (4, .int x4), (5, .int 0)] rfl ?_
    exact T_X1_pieceOf_19 hX hdx h k0 hk0 x2 x4 q_9 hq_9 FU x3 0 hf
  · refine J_icmp_geT hX 59 dX1_pieceOf_13 rfl c_1 ?_
    refine J_iload_n hX 2 dX1_pieceOf_59 rfl rfl ?_
    exact E_Ip hX dX1_pieceOf_60 hf
set_option maxRecDepth 100000 in
set_option maxHeartbeats 200000 in
theorem T_X1_pieceOf_9 {X : CX} (hX : Ok X cX1_pieceOf 6 RX1 (some .int)) (hdx : dX X = 6) {r : Int32} (h : Hp) (k0 : Nat) (hk0 : isCity k0) (x2 : Int32) : ∀ (n : Nat) (x3 : Int32) (x4 : Int32), F_X1_pieceOf_9 h k0 x2 n x3 x4 = some r → J X ((.inl (some (.int r)), h)) 9 [(0, .ref k0), (2, .int x2), (3, .int x3), (4, .int x4)] [] h := by
  intro n
  induction n with
  | zero => intro x3 x4 hf; exact nomatch hf
  | succ n ih => intro x3 x4 hf; exact T_X1_pieceOf_9_s hX hdx h k0 hk0 x2 _ (fun x3 x4 hf => ih x3 x4 hf) x3 x4 hf
set_option maxRecDepth 100000 in
set_option maxHeartbeats 200000 in
theorem T_X1_pieceOf_0 {X : CX} (hX : Ok X cX1_pieceOf 6 RX1 (some .int)) (hdx : dX X = 6) {r : Int32} (k0 : Nat) (hk0 : isCity k0) (x1 : Int32) (x2 : Int32) (h : Hp) (hf : f_X1_pieceOf k0 x1 x2 h = some r) : J X ((.inl (some (.int r)), h)) 0 [(0, .ref k0), (1, .int x1), (2, .int x2)] [] h := by
  unfold f_X1_pieceOf at hf
  refine J_iconst hX 1 dX1_pieceOf_0 rfl ?_
  refine J_iload_n hX 1 dX1_pieceOf_1 rfl rfl ?_
  refine J_ishl hX dX1_pieceOf_2 ?_
  refine J_iload_n hX 2 dX1_pieceOf_3 rfl rfl ?_
  refine J_iand hX dX1_pieceOf_4 ?_
  obtain ⟨x3_1, e_2, hf⟩ := bndE hf
  refine J_nm e_2 ?_
  refine J_istore_n hX [(3, .int x3_1), (0, .ref k0), (1, .int x1), (2, .int x2)] dX1_pieceOf_5 rfl rfl rfl ?_
  refine J_iconst hX 0 dX1_pieceOf_6 rfl ?_
  refine J_istore hX [(4, .int 0), (3, .int x3_1), (0, .ref k0), (1, .int x1), (2, .int x2)] dX1_pieceOf_7 rfl rfl ?_
  refine J_sub [2, 4, 1, 0] [(0, .ref k0), (2, .int x2), (3, .int x3_1), (4, .int 0)] rfl ?_
  exact T_X1_pieceOf_9 hX hdx h k0 hk0 x2 FU x3_1 0 hf
set_option maxRecDepth 100000 in
set_option maxHeartbeats 200000 in
theorem C_X1_pieceOf {G : GX} (hG : GOk G) {k0 : Nat} {x1 : Int32} {x2 : Int32} {h : Hp} {r : Int32} (hk0 : isCity k0) (hf : f_X1_pieceOf k0 x1 x2 h = some r) : Ctr G 6 yX1_pieceOf cX1_pieceOf 6 (some .int) [.ref k0, .int x1, .int x2] h ((.inl (some (.int r)), h)) :=
  Ctr_of hG RX1 rfl (by decide) rfl (fun X _ hdx hX => T_X1_pieceOf_0 hX hdx k0 hk0 x1 x2 h hf)
theorem dX1_draw_0 : decode cX1_draw 0 = .ok (.aload_n 0, 1) := by decide +kernel
theorem dX1_draw_1 : decode cX1_draw 1 = .ok (.ldc 121, 2) := by decide +kernel
theorem dX1_draw_3 : decode cX1_draw 3 = .ok (.aload_n 0, 1) := by decide +kernel
theorem dX1_draw_4 : decode cX1_draw 4 = .ok (.getfield 47, 3) := by decide +kernel
theorem dX1_draw_7 : decode cX1_draw 7 = .ok (.imul, 1) := by decide +kernel
theorem dX1_draw_8 : decode cX1_draw 8 = .ok (.sipush 12345, 3) := by decide +kernel
theorem dX1_draw_11 : decode cX1_draw 11 = .ok (.iadd, 1) := by decide +kernel
theorem dX1_draw_12 : decode cX1_draw 12 = .ok (.putfield 47, 3) := by decide +kernel
theorem dX1_draw_15 : decode cX1_draw 15 = .ok (.aload_n 0, 1) := by decide +kernel
theorem dX1_draw_16 : decode cX1_draw 16 = .ok (.getfield 47, 3) := by decide +kernel
theorem dX1_draw_19 : decode cX1_draw 19 = .ok (.bipush 16, 2) := by decide +kernel
theorem dX1_draw_21 : decode cX1_draw 21 = .ok (.iushr, 1) := by decide +kernel
theorem dX1_draw_22 : decode cX1_draw 22 = .ok (.sipush 32767, 3) := by decide +kernel
theorem dX1_draw_25 : decode cX1_draw 25 = .ok (.iand, 1) := by decide +kernel
theorem dX1_draw_26 : decode cX1_draw 26 = .ok (.ireturn, 1) := by decide +kernel
set_option maxRecDepth 100000 in
set_option maxHeartbeats 200000 in
theorem T_X1_draw_0 {X : CX} (hX : Ok X cX1_draw 1 RX1 (some .int)) (hdx : dX X = 2) {r : Int32 × Hp} (k0 : Nat) (hk0 : isCity k0) (h : Hp) (hf : f_X1_draw k0 h = some r) : J X ((.inl (some (.int r.1)), r.2)) 0 [(0, .ref k0)] [] h := by
  unfold f_X1_draw at hf
  refine J_aload_n hX 0 dX1_draw_0 rfl rfl ?_
  refine J_ldc hX 1103515245 dX1_draw_1 kw_X1_121 ?_
  refine J_aload_n hX 0 dX1_draw_3 rfl rfl ?_
  refine J_getI hX dX1_draw_4 fl_X1_47 (city_ob hk0) rfl ?_
  refine J_imul hX dX1_draw_7 ?_
  refine J_sipush hX 12345 dX1_draw_8 rfl ?_
  refine J_iadd hX dX1_draw_11 ?_
  obtain ⟨h_1, e_2, hf⟩ := bndE hf
  refine J_putI hX dX1_draw_12 fl_X1_47 fw_1_17 (city_ob hk0) rfl rfl rfl ?_
  refine J_nmh e_2 ?_
  refine J_aload_n hX 0 dX1_draw_15 rfl rfl ?_
  refine J_getI hX dX1_draw_16 fl_X1_47 (city_ob hk0) rfl ?_
  refine J_bipush hX 16 dX1_draw_19 rfl ?_
  refine J_iushr hX dX1_draw_21 ?_
  refine J_sipush hX 32767 dX1_draw_22 rfl ?_
  refine J_iand hX dX1_draw_25 ?_
  exact E_Ii hX dX1_draw_26 hf
set_option maxRecDepth 100000 in
set_option maxHeartbeats 200000 in
theorem C_X1_draw {G : GX} (hG : GOk G) {k0 : Nat} {h : Hp} {r : Int32 × Hp} (hk0 : isCity k0) (hf : f_X1_draw k0 h = some r) : Ctr G 2 yX1_draw cX1_draw 1 (some .int) [.ref k0] h ((.inl (some (.int r.1)), r.2)) :=
  Ctr_of hG RX1 rfl (by decide) rfl (fun X _ hdx hX => T_X1_draw_0 hX hdx k0 hk0 h hf)
theorem dX1_upAt_0 : decode cX1_upAt 0 = .ok (.iload_n 1, 1) := by decide +kernel
theorem dX1_upAt_1 : decode cX1_upAt 1 = .ok (.istore_n 2, 1) := by decide +kernel
theorem dX1_upAt_2 : decode cX1_upAt 2 = .ok (.iconst 0, 1) := by decide +kernel
theorem dX1_upAt_3 : decode cX1_upAt 3 = .ok (.istore_n 3, 1) := by decide +kernel
theorem dX1_upAt_4 : decode cX1_upAt 4 = .ok (.iload_n 3, 1) := by decide +kernel
theorem dX1_upAt_5 : decode cX1_upAt 5 = .ok (.bipush 8, 2) := by decide +kernel
theorem dX1_upAt_7 : decode cX1_upAt 7 = .ok (.if_icmp .ge 26, 3) := by decide +kernel
theorem dX1_upAt_10 : decode cX1_upAt 10 = .ok (.aload_n 0, 1) := by decide +kernel
theorem dX1_upAt_11 : decode cX1_upAt 11 = .ok (.iload_n 3, 1) := by decide +kernel
theorem dX1_upAt_12 : decode cX1_upAt 12 = .ok (.invokevirtual 122, 3) := by decide +kernel
theorem dX1_upAt_15 : decode cX1_upAt 15 = .ok (.ifCond .eq 12, 3) := by decide +kernel
theorem dX1_upAt_18 : decode cX1_upAt 18 = .ok (.iload_n 2, 1) := by decide +kernel
theorem dX1_upAt_19 : decode cX1_upAt 19 = .ok (.ifCond .ne 5, 3) := by decide +kernel
theorem dX1_upAt_22 : decode cX1_upAt 22 = .ok (.iload_n 3, 1) := by decide +kernel
theorem dX1_upAt_23 : decode cX1_upAt 23 = .ok (.ireturn, 1) := by decide +kernel
theorem dX1_upAt_24 : decode cX1_upAt 24 = .ok (.iinc 2 (-1), 3) := by decide +kernel
theorem dX1_upAt_27 : decode cX1_upAt 27 = .ok (.iinc 3 1, 3) := by decide +kernel
theorem dX1_upAt_30 : decode cX1_upAt 30 = .ok (.goto (-26), 3) := by decide +kernel
theorem dX1_upAt_33 : decode cX1_upAt 33 = .ok (.iconst (-1), 1) := by decide +kernel
theorem dX1_upAt_34 : decode cX1_upAt 34 = .ok (.ireturn, 1) := by decide +kernel
set_option maxRecDepth 100000 in
set_option maxHeartbeats 200000 in
theorem T_X1_upAt_4_s {X : CX} (hX : Ok X cX1_upAt 4 RX1 (some .int)) (hdx : dX X = 4) {r : Int32} (h : Hp) (k0 : Nat) (hk0 : isCity k0) (q_4 : Int32 → Int32 → Option Int32) (hq_4 : ∀ (x2 : Int32) (x3 : Int32), q_4 x2 x3 = some r → J X ((.inl (some (.int r)), h)) 4 [(0, .ref k0), (2, .int x2), (3, .int x3)] [] h) (x2 : Int32) (x3 : Int32) (hf : S_X1_upAt_4 h k0 q_4 x2 x3 = some r) : J X ((.inl (some (.int r)), h)) 4 [(0, .ref k0), (2, .int x2), (3, .int x3)] [] h := by
  unfold S_X1_upAt_4 at hf
  refine J_iload_n hX 2 dX1_upAt_4 rfl rfl ?_
  refine J_bipush hX 8 dX1_upAt_5 rfl ?_
  rcases ifE hf with ⟨c_1, hf⟩ | ⟨c_1, hf⟩
  · refine J_icmp_geF hX 33 dX1_upAt_7 rfl c_1 ?_
    refine J_aload_n hX 0 dX1_upAt_10 rfl rfl ?_
    refine J_iload_n hX 2 dX1_upAt_11 rfl rfl ?_
    refine V_1 hX [.int x3] dX1_upAt_12 cw_X1_122 (city_ob hk0) rfl (C_X1_isUp (okG hX) hk0 rfl) (ltD hdx rfl) rfl rfl rfl rfl ?_
    rcases ifE hf with ⟨c_2, hf⟩ | ⟨c_2, hf⟩
    · refine J_if_eqF hX 27 dX1_upAt_15 rfl (b2iT c_2) ?_
      refine J_iload_n hX 1 dX1_upAt_18 rfl rfl ?_
      rcases ifE hf with ⟨c_3, hf⟩ | ⟨c_3, hf⟩
      · refine J_if_neF hX 24 dX1_upAt_19 rfl c_3 ?_
        refine J_iload_n hX 2 dX1_upAt_22 rfl rfl ?_
        exact E_Ip hX dX1_upAt_23 hf
      · refine J_if_neT hX 24 dX1_upAt_19 rfl c_3 ?_
        refine J_iinc hX (x2 + (-1)) 1 [(2, .int (x2 + (-1))), (0, .ref k0), (3, .int x3)] dX1_upAt_24 rfl rfl rfl rfl ?_
        refine J_iinc hX (x3 + 1) 2 [(3, .int (x3 + 1)), (2, .int (x2 + (-1))), (0, .ref k0)] dX1_upAt_27 rfl rfl rfl rfl ?_
        refine J_goto hX 4 dX1_upAt_30 rfl ?_
        refine J_sub [2, 1, 0] [(0, .ref k0), (2, .int (x2 + (-1))), (3, .int (x3 + 1))] rfl ?_
        exact hq_4 (x2 + (-1)) (x3 + 1) hf
    · refine J_if_eqT hX 27 dX1_upAt_15 rfl (b2iF c_2) ?_
      refine J_iinc hX (x3 + 1) 2 [(3, .int (x3 + 1)), (0, .ref k0), (2, .int x2)] dX1_upAt_27 rfl rfl rfl rfl ?_
      refine J_goto hX 4 dX1_upAt_30 rfl ?_
      refine J_sub [1, 2, 0] [(0, .ref k0), (2, .int x2), (3, .int (x3 + 1))] rfl ?_
      exact hq_4 x2 (x3 + 1) hf
  · refine J_icmp_geT hX 33 dX1_upAt_7 rfl c_1 ?_
    refine J_iconst hX (-1) dX1_upAt_33 rfl ?_
    exact E_Ip hX dX1_upAt_34 hf
set_option maxRecDepth 100000 in
set_option maxHeartbeats 200000 in
theorem T_X1_upAt_4 {X : CX} (hX : Ok X cX1_upAt 4 RX1 (some .int)) (hdx : dX X = 4) {r : Int32} (h : Hp) (k0 : Nat) (hk0 : isCity k0) : ∀ (n : Nat) (x2 : Int32) (x3 : Int32), F_X1_upAt_4 h k0 n x2 x3 = some r → J X ((.inl (some (.int r)), h)) 4 [(0, .ref k0), (2, .int x2), (3, .int x3)] [] h := by
  intro n
  induction n with
  | zero => intro x2 x3 hf; exact nomatch hf
  | succ n ih => intro x2 x3 hf; exact T_X1_upAt_4_s hX hdx h k0 hk0 _ (fun x2 x3 hf => ih x2 x3 hf) x2 x3 hf
set_option maxRecDepth 100000 in
set_option maxHeartbeats 200000 in
theorem T_X1_upAt_0 {X : CX} (hX : Ok X cX1_upAt 4 RX1 (some .int)) (hdx : dX X = 4) {r : Int32} (k0 : Nat) (hk0 : isCity k0) (x1 : Int32) (h : Hp) (hf : f_X1_upAt k0 x1 h = some r) : J X ((.inl (some (.int r)), h)) 0 [(0, .ref k0), (1, .int x1)] [] h := by
  unfold f_X1_upAt at hf
  refine J_iload_n hX 1 dX1_upAt_0 rfl rfl ?_
  refine J_istore_n hX [(2, .int x1), (0, .ref k0), (1, .int x1)] dX1_upAt_1 rfl rfl rfl ?_
  refine J_iconst hX 0 dX1_upAt_2 rfl ?_
  refine J_istore_n hX [(3, .int 0), (2, .int x1), (0, .ref k0), (1, .int x1)] dX1_upAt_3 rfl rfl rfl ?_
  refine J_sub [2, 1, 0] [(0, .ref k0), (2, .int x1), (3, .int 0)] rfl ?_
  exact T_X1_upAt_4 hX hdx h k0 hk0 FU x1 0 hf
set_option maxRecDepth 100000 in
set_option maxHeartbeats 200000 in
theorem C_X1_upAt {G : GX} (hG : GOk G) {k0 : Nat} {x1 : Int32} {h : Hp} {r : Int32} (hk0 : isCity k0) (hf : f_X1_upAt k0 x1 h = some r) : Ctr G 4 yX1_upAt cX1_upAt 4 (some .int) [.ref k0, .int x1] h ((.inl (some (.int r)), h)) :=
  Ctr_of hG RX1 rfl (by decide) rfl (fun X _ hdx hX => T_X1_upAt_0 hX hdx k0 hk0 x1 h hf)
theorem dX10_step_0 : decode cX10_step 0 = .ok (.aload_n 0, 1) := by decide +kernel
theorem dX10_step_1 : decode cX10_step 1 = .ok (.getfield 22, 3) := by decide +kernel
theorem dX10_step_4 : decode cX10_step 4 = .ok (.aload_n 0, 1) := by decide +kernel
theorem dX10_step_5 : decode cX10_step 5 = .ok (.getfield 9, 3) := by decide +kernel
theorem dX10_step_8 : decode cX10_step 8 = .ok (.arraylength, 1) := by decide +kernel
theorem dX10_step_9 : decode cX10_step 9 = .ok (.invokestatic 31, 3) := by decide +kernel
theorem dX10_step_12 : decode cX10_step 12 = .ok (.istore_n 1, 1) := by decide +kernel
theorem dX10_step_13 : decode cX10_step 13 = .ok (.iconst 0, 1) := by decide +kernel
theorem dX10_step_14 : decode cX10_step 14 = .ok (.aload_n 0, 1) := by decide +kernel
theorem dX10_step_15 : decode cX10_step 15 = .ok (.getfield 25, 3) := by decide +kernel
theorem dX10_step_18 : decode cX10_step 18 = .ok (.invokestatic 37, 3) := by decide +kernel
theorem dX10_step_21 : decode cX10_step 21 = .ok (.istore_n 2, 1) := by decide +kernel
theorem dX10_step_22 : decode cX10_step 22 = .ok (.iload_n 2, 1) := by decide +kernel
theorem dX10_step_23 : decode cX10_step 23 = .ok (.iload_n 1, 1) := by decide +kernel
theorem dX10_step_24 : decode cX10_step 24 = .ok (.if_icmp .ge 20, 3) := by decide +kernel
theorem dX10_step_27 : decode cX10_step 27 = .ok (.aload_n 0, 1) := by decide +kernel
theorem dX10_step_28 : decode cX10_step 28 = .ok (.getfield 9, 3) := by decide +kernel
theorem dX10_step_31 : decode cX10_step 31 = .ok (.iload_n 2, 1) := by decide +kernel
theorem dX10_step_32 : decode cX10_step 32 = .ok (.iaload, 1) := by decide +kernel
theorem dX10_step_33 : decode cX10_step 33 = .ok (.bipush 32, 2) := by decide +kernel
theorem dX10_step_35 : decode cX10_step 35 = .ok (.if_icmp .ne 9, 3) := by decide +kernel
theorem dX10_step_38 : decode cX10_step 38 = .ok (.iinc 2 1, 3) := by decide +kernel
theorem dX10_step_41 : decode cX10_step 41 = .ok (.goto (-19), 3) := by decide +kernel
theorem dX10_step_44 : decode cX10_step 44 = .ok (.aload_n 0, 1) := by decide +kernel
theorem dX10_step_45 : decode cX10_step 45 = .ok (.iload_n 2, 1) := by decide +kernel
theorem dX10_step_46 : decode cX10_step 46 = .ok (.putfield 40, 3) := by decide +kernel
theorem dX10_step_49 : decode cX10_step 49 = .ok (.iload_n 2, 1) := by decide +kernel
theorem dX10_step_50 : decode cX10_step 50 = .ok (.iload_n 1, 1) := by decide +kernel
theorem dX10_step_51 : decode cX10_step 51 = .ok (.if_icmp .ge 12, 3) := by decide +kernel
theorem dX10_step_54 : decode cX10_step 54 = .ok (.aload_n 0, 1) := by decide +kernel
theorem dX10_step_55 : decode cX10_step 55 = .ok (.getfield 9, 3) := by decide +kernel
theorem dX10_step_58 : decode cX10_step 58 = .ok (.iload_n 2, 1) := by decide +kernel
theorem dX10_step_59 : decode cX10_step 59 = .ok (.iaload, 1) := by decide +kernel
theorem dX10_step_60 : decode cX10_step 60 = .ok (.goto 4, 3) := by decide +kernel
theorem dX10_step_63 : decode cX10_step 63 = .ok (.iconst (-1), 1) := by decide +kernel
theorem dX10_step_64 : decode cX10_step 64 = .ok (.istore_n 3, 1) := by decide +kernel
theorem dX10_step_65 : decode cX10_step 65 = .ok (.iload_n 3, 1) := by decide +kernel
theorem dX10_step_66 : decode cX10_step 66 = .ok (.bipush 97, 2) := by decide +kernel
theorem dX10_step_68 : decode cX10_step 68 = .ok (.if_icmp .lt 13, 3) := by decide +kernel
theorem dX10_step_71 : decode cX10_step 71 = .ok (.iload_n 3, 1) := by decide +kernel
theorem dX10_step_72 : decode cX10_step 72 = .ok (.bipush 122, 2) := by decide +kernel
theorem dX10_step_74 : decode cX10_step 74 = .ok (.if_icmp .gt 7, 3) := by decide +kernel
theorem dX10_step_77 : decode cX10_step 77 = .ok (.iconst 1, 1) := by decide +kernel
theorem dX10_step_78 : decode cX10_step 78 = .ok (.goto 4, 3) := by decide +kernel
theorem dX10_step_81 : decode cX10_step 81 = .ok (.iconst 0, 1) := by decide +kernel
theorem dX10_step_82 : decode cX10_step 82 = .ok (.istore 4, 2) := by decide +kernel
theorem dX10_step_84 : decode cX10_step 84 = .ok (.iload_n 3, 1) := by decide +kernel
theorem dX10_step_85 : decode cX10_step 85 = .ok (.bipush 48, 2) := by decide +kernel
theorem dX10_step_87 : decode cX10_step 87 = .ok (.if_icmp .lt 13, 3) := by decide +kernel
theorem dX10_step_90 : decode cX10_step 90 = .ok (.iload_n 3, 1) := by decide +kernel
theorem dX10_step_91 : decode cX10_step 91 = .ok (.bipush 57, 2) := by decide +kernel
theorem dX10_step_93 : decode cX10_step 93 = .ok (.if_icmp .gt 7, 3) := by decide +kernel
theorem dX10_step_96 : decode cX10_step 96 = .ok (.iconst 1, 1) := by decide +kernel
theorem dX10_step_97 : decode cX10_step 97 = .ok (.goto 4, 3) := by decide +kernel
theorem dX10_step_100 : decode cX10_step 100 = .ok (.iconst 0, 1) := by decide +kernel
theorem dX10_step_101 : decode cX10_step 101 = .ok (.istore 5, 2) := by decide +kernel
theorem dX10_step_103 : decode cX10_step 103 = .ok (.iload 4, 2) := by decide +kernel
theorem dX10_step_105 : decode cX10_step 105 = .ok (.ifCond .eq 8, 3) := by decide +kernel
theorem dX10_step_108 : decode cX10_step 108 = .ok (.bipush 97, 2) := by decide +kernel
theorem dX10_step_110 : decode cX10_step 110 = .ok (.goto 5, 3) := by decide +kernel
theorem dX10_step_113 : decode cX10_step 113 = .ok (.bipush 48, 2) := by decide +kernel
theorem dX10_step_115 : decode cX10_step 115 = .ok (.istore 6, 2) := by decide +kernel
theorem dX10_step_117 : decode cX10_step 117 = .ok (.iload 4, 2) := by decide +kernel
theorem dX10_step_119 : decode cX10_step 119 = .ok (.ifCond .eq 8, 3) := by decide +kernel
theorem dX10_step_122 : decode cX10_step 122 = .ok (.bipush 122, 2) := by decide +kernel
theorem dX10_step_124 : decode cX10_step 124 = .ok (.goto 5, 3) := by decide +kernel
theorem dX10_step_127 : decode cX10_step 127 = .ok (.bipush 57, 2) := by decide +kernel
theorem dX10_step_129 : decode cX10_step 129 = .ok (.istore 7, 2) := by decide +kernel
theorem dX10_step_131 : decode cX10_step 131 = .ok (.aload_n 0, 1) := by decide +kernel
theorem dX10_step_132 : decode cX10_step 132 = .ok (.iload 4, 2) := by decide +kernel
theorem dX10_step_134 : decode cX10_step 134 = .ok (.ifCond .eq 9, 3) := by decide +kernel
theorem dX10_step_137 : decode cX10_step 137 = .ok (.sipush 256, 3) := by decide +kernel
theorem dX10_step_140 : decode cX10_step 140 = .ok (.goto 15, 3) := by decide +kernel
theorem dX10_step_143 : decode cX10_step 143 = .ok (.iload 5, 2) := by decide +kernel
theorem dX10_step_145 : decode cX10_step 145 = .ok (.ifCond .eq 9, 3) := by decide +kernel
theorem dX10_step_148 : decode cX10_step 148 = .ok (.sipush 257, 3) := by decide +kernel
theorem dX10_step_151 : decode cX10_step 151 = .ok (.goto 4, 3) := by decide +kernel
theorem dX10_step_154 : decode cX10_step 154 = .ok (.iload_n 3, 1) := by decide +kernel
theorem dX10_step_155 : decode cX10_step 155 = .ok (.putfield 19, 3) := by decide +kernel
theorem dX10_step_158 : decode cX10_step 158 = .ok (.aload_n 0, 1) := by decide +kernel
theorem dX10_step_159 : decode cX10_step 159 = .ok (.iconst 0, 1) := by decide +kernel
theorem dX10_step_160 : decode cX10_step 160 = .ok (.putfield 43, 3) := by decide +kernel
theorem dX10_step_163 : decode cX10_step 163 = .ok (.iload 4, 2) := by decide +kernel
theorem dX10_step_165 : decode cX10_step 165 = .ok (.ifCond .ne 8, 3) := by decide +kernel
theorem dX10_step_168 : decode cX10_step 168 = .ok (.iload 5, 2) := by decide +kernel
theorem dX10_step_170 : decode cX10_step 170 = .ok (.ifCond .eq 63, 3) := by decide +kernel
theorem dX10_step_173 : decode cX10_step 173 = .ok (.iload_n 2, 1) := by decide +kernel
theorem dX10_step_174 : decode cX10_step 174 = .ok (.iload_n 1, 1) := by decide +kernel
theorem dX10_step_175 : decode cX10_step 175 = .ok (.if_icmp .ge 66, 3) := by decide +kernel
theorem dX10_step_178 : decode cX10_step 178 = .ok (.aload_n 0, 1) := by decide +kernel
theorem dX10_step_179 : decode cX10_step 179 = .ok (.getfield 9, 3) := by decide +kernel
theorem dX10_step_182 : decode cX10_step 182 = .ok (.iload_n 2, 1) := by decide +kernel
theorem dX10_step_183 : decode cX10_step 183 = .ok (.iaload, 1) := by decide +kernel
theorem dX10_step_184 : decode cX10_step 184 = .ok (.iload 6, 2) := by decide +kernel
theorem dX10_step_186 : decode cX10_step 186 = .ok (.if_icmp .lt 55, 3) := by decide +kernel
theorem dX10_step_189 : decode cX10_step 189 = .ok (.aload_n 0, 1) := by decide +kernel
theorem dX10_step_190 : decode cX10_step 190 = .ok (.getfield 9, 3) := by decide +kernel
theorem dX10_step_193 : decode cX10_step 193 = .ok (.iload_n 2, 1) := by decide +kernel
theorem dX10_step_194 : decode cX10_step 194 = .ok (.iaload, 1) := by decide +kernel
theorem dX10_step_195 : decode cX10_step 195 = .ok (.iload 7, 2) := by decide +kernel
theorem dX10_step_197 : decode cX10_step 197 = .ok (.if_icmp .gt 44, 3) := by decide +kernel
theorem dX10_step_200 : decode cX10_step 200 = .ok (.aload_n 0, 1) := by decide +kernel
theorem dX10_step_201 : decode cX10_step 201 = .ok (.sipush 1000, 3) := by decide +kernel
theorem dX10_step_204 : decode cX10_step 204 = .ok (.aload_n 0, 1) := by decide +kernel
theorem dX10_step_205 : decode cX10_step 205 = .ok (.getfield 43, 3) := by decide +kernel
theorem dX10_step_208 : decode cX10_step 208 = .ok (.bipush 10, 2) := by decide +kernel
theorem dX10_step_210 : decode cX10_step 210 = .ok (.imul, 1) := by decide +kernel
theorem dX10_step_211 : decode cX10_step 211 = .ok (.aload_n 0, 1) := by decide +kernel
theorem dX10_step_212 : decode cX10_step 212 = .ok (.getfield 9, 3) := by decide +kernel
theorem dX10_step_215 : decode cX10_step 215 = .ok (.iload_n 2, 1) := by decide +kernel
theorem dX10_step_216 : decode cX10_step 216 = .ok (.iaload, 1) := by decide +kernel
theorem dX10_step_217 : decode cX10_step 217 = .ok (.iadd, 1) := by decide +kernel
theorem dX10_step_218 : decode cX10_step 218 = .ok (.iload 6, 2) := by decide +kernel
theorem dX10_step_220 : decode cX10_step 220 = .ok (.isub, 1) := by decide +kernel
theorem dX10_step_221 : decode cX10_step 221 = .ok (.invokestatic 31, 3) := by decide +kernel
theorem dX10_step_224 : decode cX10_step 224 = .ok (.putfield 43, 3) := by decide +kernel
theorem dX10_step_227 : decode cX10_step 227 = .ok (.iinc 2 1, 3) := by decide +kernel
theorem dX10_step_230 : decode cX10_step 230 = .ok (.goto (-57), 3) := by decide +kernel
theorem dX10_step_233 : decode cX10_step 233 = .ok (.iload_n 2, 1) := by decide +kernel
theorem dX10_step_234 : decode cX10_step 234 = .ok (.iload_n 1, 1) := by decide +kernel
theorem dX10_step_235 : decode cX10_step 235 = .ok (.if_icmp .ge 6, 3) := by decide +kernel
theorem dX10_step_238 : decode cX10_step 238 = .ok (.iinc 2 1, 3) := by decide +kernel
theorem dX10_step_241 : decode cX10_step 241 = .ok (.aload_n 0, 1) := by decide +kernel
theorem dX10_step_242 : decode cX10_step 242 = .ok (.iload_n 2, 1) := by decide +kernel
theorem dX10_step_243 : decode cX10_step 243 = .ok (.putfield 25, 3) := by decide +kernel
theorem dX10_step_246 : decode cX10_step 246 = .ok (.return_, 1) := by decide +kernel
set_option maxRecDepth 100000 in
set_option maxHeartbeats 200000 in
theorem T_X10_step_241 {X : CX} (hX : Ok X cX10_step 8 RX10 none) (hdx : dX X = 2) {r : Hp} (x2 : Int32) (h : Hp) (hf : F_X10_step_241 x2 h = some r) : J X ((.inl none, r)) 241 [(0, .ref 2), (2, .int x2)] [] h := by
  unfold F_X10_step_241 at hf
  refine J_aload_n hX 0 dX10_step_241 rfl rfl ?_
  refine J_iload_n hX 1 dX10_step_242 rfl rfl ?_
  obtain ⟨h_1, e_2, hf⟩ := bndE hf
  refine J_putI hX dX10_step_243 fl_X10_25 fw_8_4 ob_2 rfl rfl rfl ?_
  refine J_nmh e_2 ?_
  exact E_Vi hX dX10_step_246 hf
set_option maxRecDepth 100000 in
set_option maxHeartbeats 200000 in
theorem T_X10_step_173_s {X : CX} (hX : Ok X cX10_step 8 RX10 none) (hdx : dX X = 2) {r : Hp} (x1 : Int32) (x6 : Int32) (x7 : Int32) (q_173 : Int32 → Hp → Option Hp) (hq_173 : ∀ (x2 : Int32) (h : Hp), q_173 x2 h = some r → J X ((.inl none, r)) 173 [(0, .ref 2), (1, .int x1), (2, .int x2), (6, .int x6), (7, .int x7)] [] h) (x2 : Int32) (h : Hp) (hf : S_X10_step_173 x1 x6 x7 q_173 x2 h = some r) : J X ((.inl none, r)) 173 [(0, .ref 2), (1, .int x1), (2, .int x2), (6, .int x6), (7, .int x7)] [] h := by
  unfold S_X10_step_173 at hf
  refine J_iload_n hX 2 dX10_step_173 rfl rfl ?_
  refine J_iload_n hX 1 dX10_step_174 rfl rfl ?_
  rcases ifE hf with ⟨c_1, hf⟩ | ⟨c_1, hf⟩
  · refine J_icmp_geF hX 241 dX10_step_175 rfl c_1 ?_
    refine J_aload_n hX 0 dX10_step_178 rfl rfl ?_
    refine J_getR hX 3 dX10_step_179 fl_X10_9 ob_2 rfl rfl ?_
    refine J_iload_n hX 2 dX10_step_182 rfl rfl ?_
    obtain ⟨g_2, hf⟩ := gdE hf
    refine J_ald hX x2.toNatClampNeg dX10_step_183 ar_3 (Or.inl ⟨rfl, rfl⟩) g_2 rfl ?_
    refine J_iload hX 3 dX10_step_184 rfl ?_
    rcases ifE hf with ⟨c_3, hf⟩ | ⟨c_3, hf⟩
    · refine J_icmp_ltT hX 241 dX10_step_186 rfl c_3 ?_
      refine J_sub [0, 2] [(0, .ref 2), (2, .int x2)] rfl ?_
      exact T_X10_step_241 hX hdx x2 h hf
    · refine J_icmp_ltF hX 241 dX10_step_186 rfl c_3 ?_
      refine J_aload_n hX 0 dX10_step_189 rfl rfl ?_
      refine J_getR hX 3 dX10_step_190 fl_X10_9 ob_2 rfl rfl ?_
      refine J_iload_n hX 2 dX10_step_193 rfl rfl ?_
      obtain ⟨g_4, hf⟩ := gdE hf
      refine J_ald hX x2.toNatClampNeg dX10_step_194 ar_3 (Or.inl ⟨rfl, rfl⟩) g_4 rfl ?_
      refine J_iload hX 4 dX10_step_195 rfl ?_
      rcases ifE hf with ⟨c_5, hf⟩ | ⟨c_5, hf⟩
      · refine J_icmp_gtT hX 241 dX10_step_197 rfl c_5 ?_
        refine J_sub [0, 2] [(0, .ref 2), (2, .int x2)] rfl ?_
        exact T_X10_step_241 hX hdx x2 h hf
      · refine J_icmp_gtF hX 241 dX10_step_197 rfl c_5 ?_
        refine J_aload_n hX 0 dX10_step_200 rfl rfl ?_
        refine J_sipush hX 1000 dX10_step_201 rfl ?_
        refine J_aload_n hX 0 dX10_step_204 rfl rfl ?_
        refine J_getI hX dX10_step_205 fl_X10_43 ob_2 rfl ?_
        refine J_bipush hX 10 dX10_step_208 rfl ?_
        refine J_imul hX dX10_step_210 ?_
        refine J_aload_n hX 0 dX10_step_211 rfl rfl ?_
        refine J_getR hX 3 dX10_step_212 fl_X10_9 ob_2 rfl rfl ?_
        refine J_iload_n hX 2 dX10_step_215 rfl rfl ?_
        obtain ⟨g_6, hf⟩ := gdE hf
        refine J_ald hX x2.toNatClampNeg dX10_step_216 ar_3 (Or.inl ⟨rfl, rfl⟩) g_6 rfl ?_
        refine J_iadd hX dX10_step_217 ?_
        refine J_iload hX 3 dX10_step_218 rfl ?_
        refine J_isub hX dX10_step_220 ?_
        refine J_min hX dX10_step_221 mw_X10_31 (ltD hdx rfl) rfl ?_
        obtain ⟨h_7, e_8, hf⟩ := bndE hf
        refine J_putI hX dX10_step_224 fl_X10_43 fw_8_6 ob_2 rfl rfl rfl ?_
        refine J_nmh e_8 ?_
        refine J_iinc hX (x2 + 1) 2 [(2, .int (x2 + 1)), (0, .ref 2), (1, .int x1), (6, .int x6), (7, .int x7)] dX10_step_227 rfl rfl rfl rfl ?_
        refine J_goto hX 173 dX10_step_230 rfl ?_
        refine J_sub [1, 2, 0, 3, 4] [(0, .ref 2), (1, .int x1), (2, .int (x2 + 1)), (6, .int x6), (7, .int x7)] rfl ?_
        exact hq_173 (x2 + 1) h_7 hf
  · refine J_icmp_geT hX 241 dX10_step_175 rfl c_1 ?_
    refine J_sub [0, 2] [(0, .ref 2), (2, .int x2)] rfl ?_
    exact T_X10_step_241 hX hdx x2 h hf
set_option maxRecDepth 100000 in
set_option maxHeartbeats 200000 in
theorem T_X10_step_173 {X : CX} (hX : Ok X cX10_step 8 RX10 none) (hdx : dX X = 2) {r : Hp} (x1 : Int32) (x6 : Int32) (x7 : Int32) : ∀ (n : Nat) (x2 : Int32) (h : Hp), F_X10_step_173 x1 x6 x7 n x2 h = some r → J X ((.inl none, r)) 173 [(0, .ref 2), (1, .int x1), (2, .int x2), (6, .int x6), (7, .int x7)] [] h := by
  intro n
  induction n with
  | zero => intro x2 h hf; exact nomatch hf
  | succ n ih => intro x2 h hf; exact T_X10_step_173_s hX hdx x1 x6 x7 _ (fun x2 h hf => ih x2 h hf) x2 h hf
set_option maxRecDepth 100000 in
set_option maxHeartbeats 200000 in
theorem T_X10_step_155 {X : CX} (hX : Ok X cX10_step 8 RX10 none) (hdx : dX X = 2) {r : Hp} (x1 : Int32) (x2 : Int32) (x4 : Int32) (x5 : Int32) (x6 : Int32) (x7 : Int32) (t0 : Int32) (h : Hp) (hf : F_X10_step_155 x1 x2 x4 x5 x6 x7 t0 h = some r) : J X ((.inl none, r)) 155 [(0, .ref 2), (1, .int x1), (2, .int x2), (4, .int x4), (5, .int x5), (6, .int x6), (7, .int x7)] [.int t0, .ref 2] h := by
  unfold F_X10_step_155 at hf
  obtain ⟨h_1, e_2, hf⟩ := bndE hf
  refine J_putI hX dX10_step_155 fl_X10_19 fw_8_5 ob_2 rfl rfl rfl ?_
  refine J_nmh e_2 ?_
  refine J_aload_n hX 0 dX10_step_158 rfl rfl ?_
  refine J_iconst hX 0 dX10_step_159 rfl ?_
  obtain ⟨h_3, e_4, hf⟩ := bndE hf
  refine J_putI hX dX10_step_160 fl_X10_43 fw_8_6 ob_2 rfl rfl rfl ?_
  refine J_nmh e_4 ?_
  refine J_iload hX 3 dX10_step_163 rfl ?_
  rcases ifE hf with ⟨c_5, hf⟩ | ⟨c_5, hf⟩
  · refine J_if_neF hX 173 dX10_step_165 rfl c_5 ?_
    refine J_iload hX 4 dX10_step_168 rfl ?_
    rcases ifE hf with ⟨c_6, hf⟩ | ⟨c_6, hf⟩
    · refine J_if_eqT hX 233 dX10_step_170 rfl c_6 ?_
      refine J_iload_n hX 2 dX10_step_233 rfl rfl ?_
      refine J_iload_n hX 1 dX10_step_234 rfl rfl ?_
      rcases ifE hf with ⟨c_7, hf⟩ | ⟨c_7, hf⟩
      · refine J_icmp_geF hX 241 dX10_step_235 rfl c_7 ?_
        refine J_iinc hX (x2 + 1) 2 [(2, .int (x2 + 1)), (0, .ref 2), (1, .int x1), (4, .int x4), (5, .int x5), (6, .int x6), (7, .int x7)] dX10_step_238 rfl rfl rfl rfl ?_
        refine J_sub [1, 0] [(0, .ref 2), (2, .int (x2 + 1))] rfl ?_
        exact T_X10_step_241 hX hdx (x2 + 1) h_3 hf
      · refine J_icmp_geT hX 241 dX10_step_235 rfl c_7 ?_
        refine J_sub [0, 2] [(0, .ref 2), (2, .int x2)] rfl ?_
        exact T_X10_step_241 hX hdx x2 h_3 hf
    · refine J_if_eqF hX 233 dX10_step_170 rfl c_6 ?_
      refine J_sub [0, 1, 2, 5, 6] [(0, .ref 2), (1, .int x1), (2, .int x2), (6, .int x6), (7, .int x7)] rfl ?_
      exact T_X10_step_173 hX hdx x1 x6 x7 FU x2 h_3 hf
  · refine J_if_neT hX 173 dX10_step_165 rfl c_5 ?_
    refine J_sub [0, 1, 2, 5, 6] [(0, .ref 2), (1, .int x1), (2, .int x2), (6, .int x6), (7, .int x7)] rfl ?_
    exact T_X10_step_173 hX hdx x1 x6 x7 FU x2 h_3 hf
set_option maxRecDepth 100000 in
set_option maxHeartbeats 200000 in
theorem T_X10_step_129 {X : CX} (hX : Ok X cX10_step 8 RX10 none) (hdx : dX X = 2) {r : Hp} (x1 : Int32) (x2 : Int32) (x3 : Int32) (x4 : Int32) (x5 : Int32) (x6 : Int32) (t0 : Int32) (h : Hp) (hf : F_X10_step_129 x1 x2 x3 x4 x5 x6 t0 h = some r) : J X ((.inl none, r)) 129 [(0, .ref 2), (1, .int x1), (2, .int x2), (3, .int x3), (4, .int x4), (5, .int x5), (6, .int x6)] [.int t0] h := by
  unfold F_X10_step_129 at hf
  refine J_istore hX [(7, .int t0), (0, .ref 2), (1, .int x1), (2, .int x2), (3, .int x3), (4, .int x4), (5, .int x5), (6, .int x6)] dX10_step_129 rfl rfl ?_
  refine J_aload_n hX 1 dX10_step_131 rfl rfl ?_
  refine J_iload hX 5 dX10_step_132 rfl ?_
  rcases ifE hf with ⟨c_1, hf⟩ | ⟨c_1, hf⟩
  · refine J_if_eqT hX 143 dX10_step_134 rfl c_1 ?_
    refine J_iload hX 6 dX10_step_143 rfl ?_
    rcases ifE hf with ⟨c_2, hf⟩ | ⟨c_2, hf⟩
    · refine J_if_eqT hX 154 dX10_step_145 rfl c_2 ?_
      refine J_iload_n hX 4 dX10_step_154 rfl rfl ?_
      refine J_sub [1, 2, 3, 5, 6, 7, 0] [(0, .ref 2), (1, .int x1), (2, .int x2), (4, .int x4), (5, .int x5), (6, .int x6), (7, .int t0)] rfl ?_
      exact T_X10_step_155 hX hdx x1 x2 x4 x5 x6 t0 x3 h hf
    · refine J_if_eqF hX 154 dX10_step_145 rfl c_2 ?_
      refine J_sipush hX 257 dX10_step_148 rfl ?_
      refine J_goto hX 155 dX10_step_151 rfl ?_
      refine J_sub [1, 2, 3, 5, 6, 7, 0] [(0, .ref 2), (1, .int x1), (2, .int x2), (4, .int x4), (5, .int x5), (6, .int x6), (7, .int t0)] rfl ?_
      exact T_X10_step_155 hX hdx x1 x2 x4 x5 x6 t0 257 h hf
  · refine J_if_eqF hX 143 dX10_step_134 rfl c_1 ?_
    refine J_sipush hX 256 dX10_step_137 rfl ?_
    refine J_goto hX 155 dX10_step_140 rfl ?_
    refine J_sub [1, 2, 3, 5, 6, 7, 0] [(0, .ref 2), (1, .int x1), (2, .int x2), (4, .int x4), (5, .int x5), (6, .int x6), (7, .int t0)] rfl ?_
    exact T_X10_step_155 hX hdx x1 x2 x4 x5 x6 t0 256 h hf
set_option maxRecDepth 100000 in
set_option maxHeartbeats 200000 in
theorem T_X10_step_115 {X : CX} (hX : Ok X cX10_step 8 RX10 none) (hdx : dX X = 2) {r : Hp} (x1 : Int32) (x2 : Int32) (x3 : Int32) (x4 : Int32) (x5 : Int32) (t0 : Int32) (h : Hp) (hf : F_X10_step_115 x1 x2 x3 x4 x5 t0 h = some r) : J X ((.inl none, r)) 115 [(0, .ref 2), (1, .int x1), (2, .int x2), (3, .int x3), (4, .int x4), (5, .int x5)] [.int t0] h := by
  unfold F_X10_step_115 at hf
  refine J_istore hX [(6, .int t0), (0, .ref 2), (1, .int x1), (2, .int x2), (3, .int x3), (4, .int x4), (5, .int x5)] dX10_step_115 rfl rfl ?_
  refine J_iload hX 5 dX10_step_117 rfl ?_
  rcases ifE hf with ⟨c_1, hf⟩ | ⟨c_1, hf⟩
  · refine J_if_eqT hX 127 dX10_step_119 rfl c_1 ?_
    refine J_bipush hX 57 dX10_step_127 rfl ?_
    refine J_sub [1, 2, 3, 4, 5, 6, 0] [(0, .ref 2), (1, .int x1), (2, .int x2), (3, .int x3), (4, .int x4), (5, .int x5), (6, .int t0)] rfl ?_
    exact T_X10_step_129 hX hdx x1 x2 x3 x4 x5 t0 57 h hf
  · refine J_if_eqF hX 127 dX10_step_119 rfl c_1 ?_
    refine J_bipush hX 122 dX10_step_122 rfl ?_
    refine J_goto hX 129 dX10_step_124 rfl ?_
    refine J_sub [1, 2, 3, 4, 5, 6, 0] [(0, .ref 2), (1, .int x1), (2, .int x2), (3, .int x3), (4, .int x4), (5, .int x5), (6, .int t0)] rfl ?_
    exact T_X10_step_129 hX hdx x1 x2 x3 x4 x5 t0 122 h hf
set_option maxRecDepth 100000 in
set_option maxHeartbeats 200000 in
theorem T_X10_step_101 {X : CX} (hX : Ok X cX10_step 8 RX10 none) (hdx : dX X = 2) {r : Hp} (x1 : Int32) (x2 : Int32) (x3 : Int32) (x4 : Int32) (t0 : Int32) (h : Hp) (hf : F_X10_step_101 x1 x2 x3 x4 t0 h = some r) : J X ((.inl none, r)) 101 [(0, .ref 2), (1, .int x1), (2, .int x2), (3, .int x3), (4, .int x4)] [.int t0] h := by
  unfold F_X10_step_101 at hf
  refine J_istore hX [(5, .int t0), (0, .ref 2), (1, .int x1), (2, .int x2), (3, .int x3), (4, .int x4)] dX10_step_101 rfl rfl ?_
  refine J_iload hX 5 dX10_step_103 rfl ?_
  rcases ifE hf with ⟨c_1, hf⟩ | ⟨c_1, hf⟩
  · refine J_if_eqT hX 113 dX10_step_105 rfl c_1 ?_
    refine J_bipush hX 48 dX10_step_113 rfl ?_
    refine J_sub [1, 2, 3, 4, 5, 0] [(0, .ref 2), (1, .int x1), (2, .int x2), (3, .int x3), (4, .int x4), (5, .int t0)] rfl ?_
    exact T_X10_step_115 hX hdx x1 x2 x3 x4 t0 48 h hf
  · refine J_if_eqF hX 113 dX10_step_105 rfl c_1 ?_
    refine J_bipush hX 97 dX10_step_108 rfl ?_
    refine J_goto hX 115 dX10_step_110 rfl ?_
    refine J_sub [1, 2, 3, 4, 5, 0] [(0, .ref 2), (1, .int x1), (2, .int x2), (3, .int x3), (4, .int x4), (5, .int t0)] rfl ?_
    exact T_X10_step_115 hX hdx x1 x2 x3 x4 t0 97 h hf
set_option maxRecDepth 100000 in
set_option maxHeartbeats 200000 in
theorem T_X10_step_82 {X : CX} (hX : Ok X cX10_step 8 RX10 none) (hdx : dX X = 2) {r : Hp} (x1 : Int32) (x2 : Int32) (x3 : Int32) (t0 : Int32) (h : Hp) (hf : F_X10_step_82 x1 x2 x3 t0 h = some r) : J X ((.inl none, r)) 82 [(0, .ref 2), (1, .int x1), (2, .int x2), (3, .int x3)] [.int t0] h := by
  unfold F_X10_step_82 at hf
  refine J_istore hX [(4, .int t0), (0, .ref 2), (1, .int x1), (2, .int x2), (3, .int x3)] dX10_step_82 rfl rfl ?_
  refine J_iload_n hX 4 dX10_step_84 rfl rfl ?_
  refine J_bipush hX 48 dX10_step_85 rfl ?_
  rcases ifE hf with ⟨c_1, hf⟩ | ⟨c_1, hf⟩
  · refine J_icmp_ltT hX 100 dX10_step_87 rfl c_1 ?_
    refine J_iconst hX 0 dX10_step_100 rfl ?_
    refine J_sub [1, 2, 3, 4, 0] [(0, .ref 2), (1, .int x1), (2, .int x2), (3, .int x3), (4, .int t0)] rfl ?_
    exact T_X10_step_101 hX hdx x1 x2 x3 t0 0 h hf
  · refine J_icmp_ltF hX 100 dX10_step_87 rfl c_1 ?_
    refine J_iload_n hX 4 dX10_step_90 rfl rfl ?_
    refine J_bipush hX 57 dX10_step_91 rfl ?_
    rcases ifE hf with ⟨c_2, hf⟩ | ⟨c_2, hf⟩
    · refine J_icmp_gtT hX 100 dX10_step_93 rfl c_2 ?_
      refine J_iconst hX 0 dX10_step_100 rfl ?_
      refine J_sub [1, 2, 3, 4, 0] [(0, .ref 2), (1, .int x1), (2, .int x2), (3, .int x3), (4, .int t0)] rfl ?_
      exact T_X10_step_101 hX hdx x1 x2 x3 t0 0 h hf
    · refine J_icmp_gtF hX 100 dX10_step_93 rfl c_2 ?_
      refine J_iconst hX 1 dX10_step_96 rfl ?_
      refine J_goto hX 101 dX10_step_97 rfl ?_
      refine J_sub [1, 2, 3, 4, 0] [(0, .ref 2), (1, .int x1), (2, .int x2), (3, .int x3), (4, .int t0)] rfl ?_
      exact T_X10_step_101 hX hdx x1 x2 x3 t0 1 h hf
set_option maxRecDepth 100000 in
set_option maxHeartbeats 200000 in
theorem T_X10_step_64 {X : CX} (hX : Ok X cX10_step 8 RX10 none) (hdx : dX X = 2) {r : Hp} (x1 : Int32) (x2 : Int32) (t0 : Int32) (h : Hp) (hf : F_X10_step_64 x1 x2 t0 h = some r) : J X ((.inl none, r)) 64 [(0, .ref 2), (1, .int x1), (2, .int x2)] [.int t0] h := by
  unfold F_X10_step_64 at hf
  refine J_istore_n hX [(3, .int t0), (0, .ref 2), (1, .int x1), (2, .int x2)] dX10_step_64 rfl rfl rfl ?_
  refine J_iload_n hX 0 dX10_step_65 rfl rfl ?_
  refine J_bipush hX 97 dX10_step_66 rfl ?_
  rcases ifE hf with ⟨c_1, hf⟩ | ⟨c_1, hf⟩
  · refine J_icmp_ltT hX 81 dX10_step_68 rfl c_1 ?_
    refine J_iconst hX 0 dX10_step_81 rfl ?_
    refine J_sub [1, 2, 3, 0] [(0, .ref 2), (1, .int x1), (2, .int x2), (3, .int t0)] rfl ?_
    exact T_X10_step_82 hX hdx x1 x2 t0 0 h hf
  · refine J_icmp_ltF hX 81 dX10_step_68 rfl c_1 ?_
    refine J_iload_n hX 0 dX10_step_71 rfl rfl ?_
    refine J_bipush hX 122 dX10_step_72 rfl ?_
    rcases ifE hf with ⟨c_2, hf⟩ | ⟨c_2, hf⟩
    · refine J_icmp_gtT hX 81 dX10_step_74 rfl c_2 ?_
      refine J_iconst hX 0 dX10_step_81 rfl ?_
      refine J_sub [1, 2, 3, 0] [(0, .ref 2), (1, .int x1), (2, .int x2), (3, .int t0)] rfl ?_
      exact T_X10_step_82 hX hdx x1 x2 t0 0 h hf
    · refine J_icmp_gtF hX 81 dX10_step_74 rfl c_2 ?_
      refine J_iconst hX 1 dX10_step_77 rfl ?_
      refine J_goto hX 82 dX10_step_78 rfl ?_
      refine J_sub [1, 2, 3, 0] [(0, .ref 2), (1, .int x1), (2, .int x2), (3, .int t0)] rfl ?_
      exact T_X10_step_82 hX hdx x1 x2 t0 1 h hf
set_option maxRecDepth 100000 in
set_option maxHeartbeats 200000 in
theorem T_X10_step_44 {X : CX} (hX : Ok X cX10_step 8 RX10 none) (hdx : dX X = 2) {r : Hp} (x1 : Int32) (x2 : Int32) (h : Hp) (hf : F_X10_step_44 x1 x2 h = some r) : J X ((.inl none, r)) 44 [(0, .ref 2), (1, .int x1), (2, .int x2)] [] h := by
  unfold F_X10_step_44 at hf
  refine J_aload_n hX 0 dX10_step_44 rfl rfl ?_
  refine J_iload_n hX 2 dX10_step_45 rfl rfl ?_
  obtain ⟨h_1, e_2, hf⟩ := bndE hf
  refine J_putI hX dX10_step_46 fl_X10_40 fw_8_3 ob_2 rfl rfl rfl ?_
  refine J_nmh e_2 ?_
  refine J_iload_n hX 2 dX10_step_49 rfl rfl ?_
  refine J_iload_n hX 1 dX10_step_50 rfl rfl ?_
  rcases ifE hf with ⟨c_3, hf⟩ | ⟨c_3, hf⟩
  · refine J_icmp_geF hX 63 dX10_step_51 rfl c_3 ?_
    refine J_aload_n hX 0 dX10_step_54 rfl rfl ?_
    refine J_getR hX 3 dX10_step_55 fl_X10_9 ob_2 rfl rfl ?_
    refine J_iload_n hX 2 dX10_step_58 rfl rfl ?_
    obtain ⟨g_4, hf⟩ := gdE hf
    refine J_ald hX x2.toNatClampNeg dX10_step_59 ar_3 (Or.inl ⟨rfl, rfl⟩) g_4 rfl ?_
    refine J_goto hX 64 dX10_step_60 rfl ?_
    exact T_X10_step_64 hX hdx x1 x2 (h_1 3 x2.toNatClampNeg) h_1 hf
  · refine J_icmp_geT hX 63 dX10_step_51 rfl c_3 ?_
    refine J_iconst hX (-1) dX10_step_63 rfl ?_
    exact T_X10_step_64 hX hdx x1 x2 (-1) h_1 hf
set_option maxRecDepth 100000 in
set_option maxHeartbeats 200000 in
theorem T_X10_step_22_s {X : CX} (hX : Ok X cX10_step 8 RX10 none) (hdx : dX X = 2) {r : Hp} (x1 : Int32) (q_22 : Int32 → Hp → Option Hp) (hq_22 : ∀ (x2 : Int32) (h : Hp), q_22 x2 h = some r → J X ((.inl none, r)) 22 [(0, .ref 2), (1, .int x1), (2, .int x2)] [] h) (x2 : Int32) (h : Hp) (hf : S_X10_step_22 x1 q_22 x2 h = some r) : J X ((.inl none, r)) 22 [(0, .ref 2), (1, .int x1), (2, .int x2)] [] h := by
  unfold S_X10_step_22 at hf
  refine J_iload_n hX 2 dX10_step_22 rfl rfl ?_
  refine J_iload_n hX 1 dX10_step_23 rfl rfl ?_
  rcases ifE hf with ⟨c_1, hf⟩ | ⟨c_1, hf⟩
  · refine J_icmp_geF hX 44 dX10_step_24 rfl c_1 ?_
    refine J_aload_n hX 0 dX10_step_27 rfl rfl ?_
    refine J_getR hX 3 dX10_step_28 fl_X10_9 ob_2 rfl rfl ?_
    refine J_iload_n hX 2 dX10_step_31 rfl rfl ?_
    obtain ⟨g_2, hf⟩ := gdE hf
    refine J_ald hX x2.toNatClampNeg dX10_step_32 ar_3 (Or.inl ⟨rfl, rfl⟩) g_2 rfl ?_
    refine J_bipush hX 32 dX10_step_33 rfl ?_
    rcases ifE hf with ⟨c_3, hf⟩ | ⟨c_3, hf⟩
    · refine J_icmp_neF hX 44 dX10_step_35 rfl c_3 ?_
      refine J_iinc hX (x2 + 1) 2 [(2, .int (x2 + 1)), (0, .ref 2), (1, .int x1)] dX10_step_38 rfl rfl rfl rfl ?_
      refine J_goto hX 22 dX10_step_41 rfl ?_
      refine J_sub [1, 2, 0] [(0, .ref 2), (1, .int x1), (2, .int (x2 + 1))] rfl ?_
      exact hq_22 (x2 + 1) h hf
    · refine J_icmp_neT hX 44 dX10_step_35 rfl c_3 ?_
      exact T_X10_step_44 hX hdx x1 x2 h hf
  · refine J_icmp_geT hX 44 dX10_step_24 rfl c_1 ?_
    exact T_X10_step_44 hX hdx x1 x2 h hf
set_option maxRecDepth 100000 in
set_option maxHeartbeats 200000 in
theorem T_X10_step_22 {X : CX} (hX : Ok X cX10_step 8 RX10 none) (hdx : dX X = 2) {r : Hp} (x1 : Int32) : ∀ (n : Nat) (x2 : Int32) (h : Hp), F_X10_step_22 x1 n x2 h = some r → J X ((.inl none, r)) 22 [(0, .ref 2), (1, .int x1), (2, .int x2)] [] h := by
  intro n
  induction n with
  | zero => intro x2 h hf; exact nomatch hf
  | succ n ih => intro x2 h hf; exact T_X10_step_22_s hX hdx x1 _ (fun x2 h hf => ih x2 h hf) x2 h hf
set_option maxRecDepth 100000 in
set_option maxHeartbeats 200000 in
theorem T_X10_step_0 {X : CX} (hX : Ok X cX10_step 8 RX10 none) (hdx : dX X = 2) {r : Hp} (h : Hp) (hf : f_X10_step h = some r) : J X ((.inl none, r)) 0 [(0, .ref 2)] [] h := by
  unfold f_X10_step at hf
  refine J_aload_n hX 0 dX10_step_0 rfl rfl ?_
  refine J_getI hX dX10_step_1 fl_X10_22 ob_2 rfl ?_
  refine J_aload_n hX 0 dX10_step_4 rfl rfl ?_
  refine J_getR hX 3 dX10_step_5 fl_X10_9 ob_2 rfl rfl ?_
  refine J_alen hX 400 dX10_step_8 ar_3 (by decide) rfl ?_
  refine J_min hX dX10_step_9 mw_X10_31 (ltD hdx rfl) rfl ?_
  obtain ⟨x1_1, e_2, hf⟩ := bndE hf
  refine J_nm e_2 ?_
  refine J_istore_n hX [(1, .int x1_1), (0, .ref 2)] dX10_step_12 rfl rfl rfl ?_
  refine J_iconst hX 0 dX10_step_13 rfl ?_
  refine J_aload_n hX 1 dX10_step_14 rfl rfl ?_
  refine J_getI hX dX10_step_15 fl_X10_25 ob_2 rfl ?_
  refine J_max hX dX10_step_18 mw_X10_37 (ltD hdx rfl) rfl ?_
  obtain ⟨x2_3, e_4, hf⟩ := bndE hf
  refine J_nm e_4 ?_
  refine J_istore_n hX [(2, .int x2_3), (1, .int x1_1), (0, .ref 2)] dX10_step_21 rfl rfl rfl ?_
  refine J_sub [2, 1, 0] [(0, .ref 2), (1, .int x1_1), (2, .int x2_3)] rfl ?_
  exact T_X10_step_22 hX hdx x1_1 FU x2_3 h hf
set_option maxRecDepth 100000 in
set_option maxHeartbeats 200000 in
theorem C_X10_step {G : GX} (hG : GOk G) {h : Hp} {r : Hp} (hf : f_X10_step h = some r) : Ctr G 2 yX10_step cX10_step 8 none [.ref 2] h ((.inl none, r)) :=
  Ctr_of hG RX10 rfl (by decide) rfl (fun X _ hdx hX => T_X10_step_0 hX hdx h hf)
theorem dX10_open_0 : decode cX10_open 0 = .ok (.aload_n 0, 1) := by decide +kernel
theorem dX10_open_1 : decode cX10_open 1 = .ok (.iconst (-1), 1) := by decide +kernel
theorem dX10_open_2 : decode cX10_open 2 = .ok (.putfield 15, 3) := by decide +kernel
theorem dX10_open_5 : decode cX10_open 5 = .ok (.aload_n 0, 1) := by decide +kernel
theorem dX10_open_6 : decode cX10_open 6 = .ok (.iconst 0, 1) := by decide +kernel
theorem dX10_open_7 : decode cX10_open 7 = .ok (.putfield 25, 3) := by decide +kernel
theorem dX10_open_10 : decode cX10_open 10 = .ok (.aload_n 0, 1) := by decide +kernel
theorem dX10_open_11 : decode cX10_open 11 = .ok (.invokevirtual 28, 3) := by decide +kernel
theorem dX10_open_14 : decode cX10_open 14 = .ok (.return_, 1) := by decide +kernel
set_option maxRecDepth 100000 in
set_option maxHeartbeats 200000 in
theorem T_X10_open_0 {X : CX} (hX : Ok X cX10_open 1 RX10 none) (hdx : dX X = 3) {r : Hp} (h : Hp) (hf : f_X10_open h = some r) : J X ((.inl none, r)) 0 [(0, .ref 2)] [] h := by
  unfold f_X10_open at hf
  refine J_aload_n hX 0 dX10_open_0 rfl rfl ?_
  refine J_iconst hX (-1) dX10_open_1 rfl ?_
  obtain ⟨h_1, e_2, hf⟩ := bndE hf
  refine J_putI hX dX10_open_2 fl_X10_15 fw_8_2 ob_2 rfl rfl rfl ?_
  refine J_nmh e_2 ?_
  refine J_aload_n hX 0 dX10_open_5 rfl rfl ?_
  refine J_iconst hX 0 dX10_open_6 rfl ?_
  obtain ⟨h_3, e_4, hf⟩ := bndE hf
  refine J_putI hX dX10_open_7 fl_X10_25 fw_8_4 ob_2 rfl rfl rfl ?_
  refine J_nmh e_4 ?_
  refine J_aload_n hX 0 dX10_open_10 rfl rfl ?_
  obtain ⟨r_5, e_6, hf⟩ := bdE hf
  refine V_0 hX [] dX10_open_11 cw_X10_28 ob_2 rfl (C_X10_step (okG hX) e_6) (ltD hdx rfl) rfl rfl rfl rfl ?_
  exact E_Vi hX dX10_open_14 hf
set_option maxRecDepth 100000 in
set_option maxHeartbeats 200000 in
theorem C_X10_open {G : GX} (hG : GOk G) {h : Hp} {r : Hp} (hf : f_X10_open h = some r) : Ctr G 3 yX10_open cX10_open 1 none [.ref 2] h ((.inl none, r)) :=
  Ctr_of hG RX10 rfl (by decide) rfl (fun X _ hdx hX => T_X10_open_0 hX hdx h hf)
theorem dX10_isDone_0 : decode cX10_isDone 0 = .ok (.aload_n 0, 1) := by decide +kernel
theorem dX10_isDone_1 : decode cX10_isDone 1 = .ok (.getfield 19, 3) := by decide +kernel
theorem dX10_isDone_4 : decode cX10_isDone 4 = .ok (.iconst (-1), 1) := by decide +kernel
theorem dX10_isDone_5 : decode cX10_isDone 5 = .ok (.if_icmp .ne 7, 3) := by decide +kernel
theorem dX10_isDone_8 : decode cX10_isDone 8 = .ok (.iconst 1, 1) := by decide +kernel
theorem dX10_isDone_9 : decode cX10_isDone 9 = .ok (.goto 4, 3) := by decide +kernel
theorem dX10_isDone_12 : decode cX10_isDone 12 = .ok (.iconst 0, 1) := by decide +kernel
theorem dX10_isDone_13 : decode cX10_isDone 13 = .ok (.ireturn, 1) := by decide +kernel
set_option maxRecDepth 100000 in
set_option maxHeartbeats 200000 in
theorem T_X10_isDone_0 {X : CX} (hX : Ok X cX10_isDone 1 RX10 (some .boolean)) (hdx : dX X = 2) {r : Bool} (h : Hp) (hf : f_X10_isDone h = r) : J X ((.inl (some (.int (b2i r))), h)) 0 [(0, .ref 2)] [] h := by
  unfold f_X10_isDone at hf
  refine J_aload_n hX 0 dX10_isDone_0 rfl rfl ?_
  refine J_getI hX dX10_isDone_1 fl_X10_19 ob_2 rfl ?_
  refine J_iconst hX (-1) dX10_isDone_4 rfl ?_
  rcases ifE hf with ⟨c_1, hf⟩ | ⟨c_1, hf⟩
  · refine J_icmp_neF hX 12 dX10_isDone_5 rfl c_1 ?_
    refine J_iconst hX 1 dX10_isDone_8 rfl ?_
    refine J_goto hX 13 dX10_isDone_9 rfl ?_
    exact E_Zt hX dX10_isDone_13 rfl hf
  · refine J_icmp_neT hX 12 dX10_isDone_5 rfl c_1 ?_
    refine J_iconst hX 0 dX10_isDone_12 rfl ?_
    exact E_Zt hX dX10_isDone_13 rfl hf
set_option maxRecDepth 100000 in
set_option maxHeartbeats 200000 in
theorem C_X10_isDone {G : GX} (hG : GOk G) {h : Hp} {r : Bool} (hf : f_X10_isDone h = r) : Ctr G 2 yX10_isDone cX10_isDone 1 (some .boolean) [.ref 2] h ((.inl (some (.int (b2i r))), h)) :=
  Ctr_of hG RX10 rfl (by decide) rfl (fun X _ hdx hX => T_X10_isDone_0 hX hdx h hf)
theorem dX10_wordOf_0 : decode cX10_wordOf 0 = .ok (.aload_n 0, 1) := by decide +kernel
theorem dX10_wordOf_1 : decode cX10_wordOf 1 = .ok (.getfield 19, 3) := by decide +kernel
theorem dX10_wordOf_4 : decode cX10_wordOf 4 = .ok (.sipush 256, 3) := by decide +kernel
theorem dX10_wordOf_7 : decode cX10_wordOf 7 = .ok (.if_icmp .eq 5, 3) := by decide +kernel
theorem dX10_wordOf_10 : decode cX10_wordOf 10 = .ok (.iconst (-1), 1) := by decide +kernel
theorem dX10_wordOf_11 : decode cX10_wordOf 11 = .ok (.ireturn, 1) := by decide +kernel
theorem dX10_wordOf_12 : decode cX10_wordOf 12 = .ok (.iconst 0, 1) := by decide +kernel
theorem dX10_wordOf_13 : decode cX10_wordOf 13 = .ok (.istore_n 2, 1) := by decide +kernel
theorem dX10_wordOf_14 : decode cX10_wordOf 14 = .ok (.aload_n 0, 1) := by decide +kernel
theorem dX10_wordOf_15 : decode cX10_wordOf 15 = .ok (.getfield 40, 3) := by decide +kernel
theorem dX10_wordOf_18 : decode cX10_wordOf 18 = .ok (.istore_n 3, 1) := by decide +kernel
theorem dX10_wordOf_19 : decode cX10_wordOf 19 = .ok (.iconst 1, 1) := by decide +kernel
theorem dX10_wordOf_20 : decode cX10_wordOf 20 = .ok (.istore 4, 2) := by decide +kernel
theorem dX10_wordOf_22 : decode cX10_wordOf 22 = .ok (.iconst 0, 1) := by decide +kernel
theorem dX10_wordOf_23 : decode cX10_wordOf 23 = .ok (.istore 5, 2) := by decide +kernel
theorem dX10_wordOf_25 : decode cX10_wordOf 25 = .ok (.iload 5, 2) := by decide +kernel
theorem dX10_wordOf_27 : decode cX10_wordOf 27 = .ok (.aload_n 1, 1) := by decide +kernel
theorem dX10_wordOf_28 : decode cX10_wordOf 28 = .ok (.invokevirtual 46, 3) := by decide +kernel
theorem dX10_wordOf_31 : decode cX10_wordOf 31 = .ok (.if_icmp .gt 114, 3) := by decide +kernel
theorem dX10_wordOf_34 : decode cX10_wordOf 34 = .ok (.iload 5, 2) := by decide +kernel
theorem dX10_wordOf_36 : decode cX10_wordOf 36 = .ok (.aload_n 1, 1) := by decide +kernel
theorem dX10_wordOf_37 : decode cX10_wordOf 37 = .ok (.invokevirtual 46, 3) := by decide +kernel
theorem dX10_wordOf_40 : decode cX10_wordOf 40 = .ok (.if_icmp .ge 12, 3) := by decide +kernel
theorem dX10_wordOf_43 : decode cX10_wordOf 43 = .ok (.aload_n 1, 1) := by decide +kernel
theorem dX10_wordOf_44 : decode cX10_wordOf 44 = .ok (.iload 5, 2) := by decide +kernel
theorem dX10_wordOf_46 : decode cX10_wordOf 46 = .ok (.invokevirtual 51, 3) := by decide +kernel
theorem dX10_wordOf_49 : decode cX10_wordOf 49 = .ok (.goto 5, 3) := by decide +kernel
theorem dX10_wordOf_52 : decode cX10_wordOf 52 = .ok (.bipush 32, 2) := by decide +kernel
theorem dX10_wordOf_54 : decode cX10_wordOf 54 = .ok (.istore 6, 2) := by decide +kernel
theorem dX10_wordOf_56 : decode cX10_wordOf 56 = .ok (.iload 6, 2) := by decide +kernel
theorem dX10_wordOf_58 : decode cX10_wordOf 58 = .ok (.bipush 32, 2) := by decide +kernel
theorem dX10_wordOf_60 : decode cX10_wordOf 60 = .ok (.if_icmp .eq 53, 3) := by decide +kernel
theorem dX10_wordOf_63 : decode cX10_wordOf 63 = .ok (.iload 4, 2) := by decide +kernel
theorem dX10_wordOf_65 : decode cX10_wordOf 65 = .ok (.ifCond .eq 39, 3) := by decide +kernel
theorem dX10_wordOf_68 : decode cX10_wordOf 68 = .ok (.iload_n 3, 1) := by decide +kernel
theorem dX10_wordOf_69 : decode cX10_wordOf 69 = .ok (.ifCond .lt 35, 3) := by decide +kernel
theorem dX10_wordOf_72 : decode cX10_wordOf 72 = .ok (.iload_n 3, 1) := by decide +kernel
theorem dX10_wordOf_73 : decode cX10_wordOf 73 = .ok (.aload_n 0, 1) := by decide +kernel
theorem dX10_wordOf_74 : decode cX10_wordOf 74 = .ok (.getfield 25, 3) := by decide +kernel
theorem dX10_wordOf_77 : decode cX10_wordOf 77 = .ok (.if_icmp .ge 27, 3) := by decide +kernel
theorem dX10_wordOf_80 : decode cX10_wordOf 80 = .ok (.iload_n 3, 1) := by decide +kernel
theorem dX10_wordOf_81 : decode cX10_wordOf 81 = .ok (.aload_n 0, 1) := by decide +kernel
theorem dX10_wordOf_82 : decode cX10_wordOf 82 = .ok (.getfield 9, 3) := by decide +kernel
theorem dX10_wordOf_85 : decode cX10_wordOf 85 = .ok (.arraylength, 1) := by decide +kernel
theorem dX10_wordOf_86 : decode cX10_wordOf 86 = .ok (.if_icmp .ge 18, 3) := by decide +kernel
theorem dX10_wordOf_89 : decode cX10_wordOf 89 = .ok (.aload_n 0, 1) := by decide +kernel
theorem dX10_wordOf_90 : decode cX10_wordOf 90 = .ok (.getfield 9, 3) := by decide +kernel
theorem dX10_wordOf_93 : decode cX10_wordOf 93 = .ok (.iload_n 3, 1) := by decide +kernel
theorem dX10_wordOf_94 : decode cX10_wordOf 94 = .ok (.iaload, 1) := by decide +kernel
theorem dX10_wordOf_95 : decode cX10_wordOf 95 = .ok (.iload 6, 2) := by decide +kernel
theorem dX10_wordOf_97 : decode cX10_wordOf 97 = .ok (.if_icmp .ne 7, 3) := by decide +kernel
theorem dX10_wordOf_100 : decode cX10_wordOf 100 = .ok (.iconst 1, 1) := by decide +kernel
theorem dX10_wordOf_101 : decode cX10_wordOf 101 = .ok (.goto 4, 3) := by decide +kernel
theorem dX10_wordOf_104 : decode cX10_wordOf 104 = .ok (.iconst 0, 1) := by decide +kernel
theorem dX10_wordOf_105 : decode cX10_wordOf 105 = .ok (.istore 4, 2) := by decide +kernel
theorem dX10_wordOf_107 : decode cX10_wordOf 107 = .ok (.iinc 3 1, 3) := by decide +kernel
theorem dX10_wordOf_110 : decode cX10_wordOf 110 = .ok (.goto 29, 3) := by decide +kernel
theorem dX10_wordOf_113 : decode cX10_wordOf 113 = .ok (.iload 4, 2) := by decide +kernel
theorem dX10_wordOf_115 : decode cX10_wordOf 115 = .ok (.ifCond .eq 13, 3) := by decide +kernel
theorem dX10_wordOf_118 : decode cX10_wordOf 118 = .ok (.iload_n 3, 1) := by decide +kernel
theorem dX10_wordOf_119 : decode cX10_wordOf 119 = .ok (.aload_n 0, 1) := by decide +kernel
theorem dX10_wordOf_120 : decode cX10_wordOf 120 = .ok (.getfield 25, 3) := by decide +kernel
theorem dX10_wordOf_123 : decode cX10_wordOf 123 = .ok (.if_icmp .ne 5, 3) := by decide +kernel
theorem dX10_wordOf_126 : decode cX10_wordOf 126 = .ok (.iload_n 2, 1) := by decide +kernel
theorem dX10_wordOf_127 : decode cX10_wordOf 127 = .ok (.ireturn, 1) := by decide +kernel
theorem dX10_wordOf_128 : decode cX10_wordOf 128 = .ok (.iinc 2 1, 3) := by decide +kernel
theorem dX10_wordOf_131 : decode cX10_wordOf 131 = .ok (.aload_n 0, 1) := by decide +kernel
theorem dX10_wordOf_132 : decode cX10_wordOf 132 = .ok (.getfield 40, 3) := by decide +kernel
theorem dX10_wordOf_135 : decode cX10_wordOf 135 = .ok (.istore_n 3, 1) := by decide +kernel
theorem dX10_wordOf_136 : decode cX10_wordOf 136 = .ok (.iconst 1, 1) := by decide +kernel
theorem dX10_wordOf_137 : decode cX10_wordOf 137 = .ok (.istore 4, 2) := by decide +kernel
theorem dX10_wordOf_139 : decode cX10_wordOf 139 = .ok (.iinc 5 1, 3) := by decide +kernel
theorem dX10_wordOf_142 : decode cX10_wordOf 142 = .ok (.goto (-117), 3) := by decide +kernel
theorem dX10_wordOf_145 : decode cX10_wordOf 145 = .ok (.iconst (-1), 1) := by decide +kernel
theorem dX10_wordOf_146 : decode cX10_wordOf 146 = .ok (.ireturn, 1) := by decide +kernel
set_option maxRecDepth 100000 in
set_option maxHeartbeats 200000 in
theorem T_X10_wordOf_128 {X : CX} (hX : Ok X cX10_wordOf 7 RX10 (some .int)) (hdx : dX X = 8) {r : Int32} (h : Hp) (k1 : Nat) (hk1 : isStr k1) (x2 : Int32) (x5 : Int32) (q_25 : Int32 → Int32 → Int32 → Int32 → Option Int32) (hq_25 : ∀ (x2 : Int32) (x3 : Int32) (x4 : Int32) (x5 : Int32), q_25 x2 x3 x4 x5 = some r → J X ((.inl (some (.int r)), h)) 25 [(0, .ref 2), (1, .ref k1), (2, .int x2), (3, .int x3), (4, .int x4), (5, .int x5)] [] h) (hf : F_X10_wordOf_128 q_25 h k1 x2 x5 = some r) : J X ((.inl (some (.int r)), h)) 128 [(0, .ref 2), (1, .ref k1), (2, .int x2), (5, .int x5)] [] h := by
  unfold F_X10_wordOf_128 at hf
  refine J_iinc hX (x2 + 1) 2 [(2, .int (x2 + 1)), (0, .ref 2), (1, .ref k1), (5, .int x5)] dX10_wordOf_128 rfl rfl rfl rfl ?_
  refine J_aload_n hX 1 dX10_wordOf_131 rfl rfl ?_
  refine J_getI hX dX10_wordOf_132 fl_X10_40 ob_2 rfl ?_
  refine J_istore_n hX [(3, .int (h 2 3)), (2, .int (x2 + 1)), (0, .ref 2), (1, .ref k1), (5, .int x5)] dX10_wordOf_135 rfl rfl rfl ?_
  refine J_iconst hX 1 dX10_wordOf_136 rfl ?_
  refine J_istore hX [(4, .int 1), (3, .int (h 2 3)), (2, .int (x2 + 1)), (0, .ref 2), (1, .ref k1), (5, .int x5)] dX10_wordOf_137 rfl rfl ?_
  refine J_iinc hX (x5 + 1) 5 [(5, .int (x5 + 1)), (4, .int 1), (3, .int (h 2 3)), (2, .int (x2 + 1)), (0, .ref 2), (1, .ref k1)] dX10_wordOf_139 rfl rfl rfl rfl ?_
  refine J_goto hX 25 dX10_wordOf_142 rfl ?_
  refine J_sub [4, 5, 3, 2, 1, 0] [(0, .ref 2), (1, .ref k1), (2, .int (x2 + 1)), (3, .int (h 2 3)), (4, .int 1), (5, .int (x5 + 1))] rfl ?_
  exact hq_25 (x2 + 1) (h 2 3) 1 (x5 + 1) hf
set_option maxRecDepth 100000 in
set_option maxHeartbeats 200000 in
theorem T_X10_wordOf_54 {X : CX} (hX : Ok X cX10_wordOf 7 RX10 (some .int)) (hdx : dX X = 8) {r : Int32} (h : Hp) (k1 : Nat) (hk1 : isStr k1) (x2 : Int32) (x3 : Int32) (x4 : Int32) (x5 : Int32) (t0 : Int32) (q_25 : Int32 → Int32 → Int32 → Int32 → Option Int32) (hq_25 : ∀ (x2 : Int32) (x3 : Int32) (x4 : Int32) (x5 : Int32), q_25 x2 x3 x4 x5 = some r → J X ((.inl (some (.int r)), h)) 25 [(0, .ref 2), (1, .ref k1), (2, .int x2), (3, .int x3), (4, .int x4), (5, .int x5)] [] h) (hf : F_X10_wordOf_54 q_25 h k1 x2 x3 x4 x5 t0 = some r) : J X ((.inl (some (.int r)), h)) 54 [(0, .ref 2), (1, .ref k1), (2, .int x2), (3, .int x3), (4, .int x4), (5, .int x5)] [.int t0] h := by
  unfold F_X10_wordOf_54 at hf
  refine J_istore hX [(6, .int t0), (0, .ref 2), (1, .ref k1), (2, .int x2), (3, .int x3), (4, .int x4), (5, .int x5)] dX10_wordOf_54 rfl rfl ?_
  refine J_iload hX 0 dX10_wordOf_56 rfl ?_
  refine J_bipush hX 32 dX10_wordOf_58 rfl ?_
  rcases ifE hf with ⟨c_1, hf⟩ | ⟨c_1, hf⟩
  · refine J_icmp_eqT hX 113 dX10_wordOf_60 rfl c_1 ?_
    refine J_iload hX 5 dX10_wordOf_113 rfl ?_
    rcases ifE hf with ⟨c_2, hf⟩ | ⟨c_2, hf⟩
    · refine J_if_eqT hX 128 dX10_wordOf_115 rfl c_2 ?_
      refine J_sub [1, 2, 3, 6] [(0, .ref 2), (1, .ref k1), (2, .int x2), (5, .int x5)] rfl ?_
      exact T_X10_wordOf_128 hX hdx h k1 hk1 x2 x5 q_25 hq_25 hf
    · refine J_if_eqF hX 128 dX10_wordOf_115 rfl c_2 ?_
      refine J_iload_n hX 4 dX10_wordOf_118 rfl rfl ?_
      refine J_aload_n hX 1 dX10_wordOf_119 rfl rfl ?_
      refine J_getI hX dX10_wordOf_120 fl_X10_25 ob_2 rfl ?_
      rcases ifE hf with ⟨c_3, hf⟩ | ⟨c_3, hf⟩
      · refine J_icmp_neF hX 128 dX10_wordOf_123 rfl c_3 ?_
        refine J_iload_n hX 3 dX10_wordOf_126 rfl rfl ?_
        exact E_Ip hX dX10_wordOf_127 hf
      · refine J_icmp_neT hX 128 dX10_wordOf_123 rfl c_3 ?_
        refine J_sub [1, 2, 3, 6] [(0, .ref 2), (1, .ref k1), (2, .int x2), (5, .int x5)] rfl ?_
        exact T_X10_wordOf_128 hX hdx h k1 hk1 x2 x5 q_25 hq_25 hf
  · refine J_icmp_eqF hX 113 dX10_wordOf_60 rfl c_1 ?_
    refine J_iload hX 5 dX10_wordOf_63 rfl ?_
    rcases ifE hf with ⟨c_4, hf⟩ | ⟨c_4, hf⟩
    · refine J_if_eqT hX 104 dX10_wordOf_65 rfl c_4 ?_
      refine J_iconst hX 0 dX10_wordOf_104 rfl ?_
      refine J_istore hX [(4, .int 0), (6, .int t0), (0, .ref 2), (1, .ref k1), (2, .int x2), (3, .int x3), (5, .int x5)] dX10_wordOf_105 rfl rfl ?_
      refine J_iinc hX (x3 + 1) 5 [(3, .int (x3 + 1)), (4, .int 0), (6, .int t0), (0, .ref 2), (1, .ref k1), (2, .int x2), (5, .int x5)] dX10_wordOf_107 rfl rfl rfl rfl ?_
      refine J_goto hX 139 dX10_wordOf_110 rfl ?_
      refine J_iinc hX (x5 + 1) 6 [(5, .int (x5 + 1)), (3, .int (x3 + 1)), (4, .int 0), (6, .int t0), (0, .ref 2), (1, .ref k1), (2, .int x2)] dX10_wordOf_139 rfl rfl rfl rfl ?_
      refine J_goto hX 25 dX10_wordOf_142 rfl ?_
      refine J_sub [4, 5, 6, 1, 2, 0] [(0, .ref 2), (1, .ref k1), (2, .int x2), (3, .int (x3 + 1)), (4, .int 0), (5, .int (x5 + 1))] rfl ?_
      exact hq_25 x2 (x3 + 1) 0 (x5 + 1) hf
    · refine J_if_eqF hX 104 dX10_wordOf_65 rfl c_4 ?_
      refine J_iload_n hX 4 dX10_wordOf_68 rfl rfl ?_
      rcases ifE hf with ⟨c_5, hf⟩ | ⟨c_5, hf⟩
      · refine J_if_ltT hX 104 dX10_wordOf_69 rfl c_5 ?_
        refine J_iconst hX 0 dX10_wordOf_104 rfl ?_
        refine J_istore hX [(4, .int 0), (6, .int t0), (0, .ref 2), (1, .ref k1), (2, .int x2), (3, .int x3), (5, .int x5)] dX10_wordOf_105 rfl rfl ?_
        refine J_iinc hX (x3 + 1) 5 [(3, .int (x3 + 1)), (4, .int 0), (6, .int t0), (0, .ref 2), (1, .ref k1), (2, .int x2), (5, .int x5)] dX10_wordOf_107 rfl rfl rfl rfl ?_
        refine J_goto hX 139 dX10_wordOf_110 rfl ?_
        refine J_iinc hX (x5 + 1) 6 [(5, .int (x5 + 1)), (3, .int (x3 + 1)), (4, .int 0), (6, .int t0), (0, .ref 2), (1, .ref k1), (2, .int x2)] dX10_wordOf_139 rfl rfl rfl rfl ?_
        refine J_goto hX 25 dX10_wordOf_142 rfl ?_
        refine J_sub [4, 5, 6, 1, 2, 0] [(0, .ref 2), (1, .ref k1), (2, .int x2), (3, .int (x3 + 1)), (4, .int 0), (5, .int (x5 + 1))] rfl ?_
        exact hq_25 x2 (x3 + 1) 0 (x5 + 1) hf
      · refine J_if_ltF hX 104 dX10_wordOf_69 rfl c_5 ?_
        refine J_iload_n hX 4 dX10_wordOf_72 rfl rfl ?_
        refine J_aload_n hX 1 dX10_wordOf_73 rfl rfl ?_
        refine J_getI hX dX10_wordOf_74 fl_X10_25 ob_2 rfl ?_
        rcases ifE hf with ⟨c_6, hf⟩ | ⟨c_6, hf⟩
        · refine J_icmp_geF hX 104 dX10_wordOf_77 rfl c_6 ?_
          refine J_iload_n hX 4 dX10_wordOf_80 rfl rfl ?_
          refine J_aload_n hX 1 dX10_wordOf_81 rfl rfl ?_
          refine J_getR hX 3 dX10_wordOf_82 fl_X10_9 ob_2 rfl rfl ?_
          refine J_alen hX 400 dX10_wordOf_85 ar_3 (by decide) rfl ?_
          rcases ifE hf with ⟨c_7, hf⟩ | ⟨c_7, hf⟩
          · refine J_icmp_geF hX 104 dX10_wordOf_86 rfl c_7 ?_
            refine J_aload_n hX 1 dX10_wordOf_89 rfl rfl ?_
            refine J_getR hX 3 dX10_wordOf_90 fl_X10_9 ob_2 rfl rfl ?_
            refine J_iload_n hX 4 dX10_wordOf_93 rfl rfl ?_
            obtain ⟨g_8, hf⟩ := gdE hf
            refine J_ald hX x3.toNatClampNeg dX10_wordOf_94 ar_3 (Or.inl ⟨rfl, rfl⟩) g_8 rfl ?_
            refine J_iload hX 0 dX10_wordOf_95 rfl ?_
            rcases ifE hf with ⟨c_9, hf⟩ | ⟨c_9, hf⟩
            · refine J_icmp_neF hX 104 dX10_wordOf_97 rfl c_9 ?_
              refine J_iconst hX 1 dX10_wordOf_100 rfl ?_
              refine J_goto hX 105 dX10_wordOf_101 rfl ?_
              refine J_istore hX [(4, .int 1), (6, .int t0), (0, .ref 2), (1, .ref k1), (2, .int x2), (3, .int x3), (5, .int x5)] dX10_wordOf_105 rfl rfl ?_
              refine J_iinc hX (x3 + 1) 5 [(3, .int (x3 + 1)), (4, .int 1), (6, .int t0), (0, .ref 2), (1, .ref k1), (2, .int x2), (5, .int x5)] dX10_wordOf_107 rfl rfl rfl rfl ?_
              refine J_goto hX 139 dX10_wordOf_110 rfl ?_
              refine J_iinc hX (x5 + 1) 6 [(5, .int (x5 + 1)), (3, .int (x3 + 1)), (4, .int 1), (6, .int t0), (0, .ref 2), (1, .ref k1), (2, .int x2)] dX10_wordOf_139 rfl rfl rfl rfl ?_
              refine J_goto hX 25 dX10_wordOf_142 rfl ?_
              refine J_sub [4, 5, 6, 1, 2, 0] [(0, .ref 2), (1, .ref k1), (2, .int x2), (3, .int (x3 + 1)), (4, .int 1), (5, .int (x5 + 1))] rfl ?_
              exact hq_25 x2 (x3 + 1) 1 (x5 + 1) hf
            · refine J_icmp_neT hX 104 dX10_wordOf_97 rfl c_9 ?_
              refine J_iconst hX 0 dX10_wordOf_104 rfl ?_
              refine J_istore hX [(4, .int 0), (6, .int t0), (0, .ref 2), (1, .ref k1), (2, .int x2), (3, .int x3), (5, .int x5)] dX10_wordOf_105 rfl rfl ?_
              refine J_iinc hX (x3 + 1) 5 [(3, .int (x3 + 1)), (4, .int 0), (6, .int t0), (0, .ref 2), (1, .ref k1), (2, .int x2), (5, .int x5)] dX10_wordOf_107 rfl rfl rfl rfl ?_
              refine J_goto hX 139 dX10_wordOf_110 rfl ?_
              refine J_iinc hX (x5 + 1) 6 [(5, .int (x5 + 1)), (3, .int (x3 + 1)), (4, .int 0), (6, .int t0), (0, .ref 2), (1, .ref k1), (2, .int x2)] dX10_wordOf_139 rfl rfl rfl rfl ?_
              refine J_goto hX 25 dX10_wordOf_142 rfl ?_
              refine J_sub [4, 5, 6, 1, 2, 0] [(0, .ref 2), (1, .ref k1), (2, .int x2), (3, .int (x3 + 1)), (4, .int 0), (5, .int (x5 + 1))] rfl ?_
              exact hq_25 x2 (x3 + 1) 0 (x5 + 1) hf
          · refine J_icmp_geT hX 104 dX10_wordOf_86 rfl c_7 ?_
            refine J_iconst hX 0 dX10_wordOf_104 rfl ?_
            refine J_istore hX [(4, .int 0), (6, .int t0), (0, .ref 2), (1, .ref k1), (2, .int x2), (3, .int x3), (5, .int x5)] dX10_wordOf_105 rfl rfl ?_
            refine J_iinc hX (x3 + 1) 5 [(3, .int (x3 + 1)), (4, .int 0), (6, .int t0), (0, .ref 2), (1, .ref k1), (2, .int x2), (5, .int x5)] dX10_wordOf_107 rfl rfl rfl rfl ?_
            refine J_goto hX 139 dX10_wordOf_110 rfl ?_
            refine J_iinc hX (x5 + 1) 6 [(5, .int (x5 + 1)), (3, .int (x3 + 1)), (4, .int 0), (6, .int t0), (0, .ref 2), (1, .ref k1), (2, .int x2)] dX10_wordOf_139 rfl rfl rfl rfl ?_
            refine J_goto hX 25 dX10_wordOf_142 rfl ?_
            refine J_sub [4, 5, 6, 1, 2, 0] [(0, .ref 2), (1, .ref k1), (2, .int x2), (3, .int (x3 + 1)), (4, .int 0), (5, .int (x5 + 1))] rfl ?_
            exact hq_25 x2 (x3 + 1) 0 (x5 + 1) hf
        · refine J_icmp_geT hX 104 dX10_wordOf_77 rfl c_6 ?_
          refine J_iconst hX 0 dX10_wordOf_104 rfl ?_
          refine J_istore hX [(4, .int 0), (6, .int t0), (0, .ref 2), (1, .ref k1), (2, .int x2), (3, .int x3), (5, .int x5)] dX10_wordOf_105 rfl rfl ?_
          refine J_iinc hX (x3 + 1) 5 [(3, .int (x3 + 1)), (4, .int 0), (6, .int t0), (0, .ref 2), (1, .ref k1), (2, .int x2), (5, .int x5)] dX10_wordOf_107 rfl rfl rfl rfl ?_
          refine J_goto hX 139 dX10_wordOf_110 rfl ?_
          refine J_iinc hX (x5 + 1) 6 [(5, .int (x5 + 1)), (3, .int (x3 + 1)), (4, .int 0), (6, .int t0), (0, .ref 2), (1, .ref k1), (2, .int x2)] dX10_wordOf_139 rfl rfl rfl rfl ?_
          refine J_goto hX 25 dX10_wordOf_142 rfl ?_
          refine J_sub [4, 5, 6, 1, 2, 0] [(0, .ref 2), (1, .ref k1), (2, .int x2), (3, .int (x3 + 1)), (4, .int 0), (5, .int (x5 + 1))] rfl ?_
          exact hq_25 x2 (x3 + 1) 0 (x5 + 1) hf
set_option maxRecDepth 100000 in
set_option maxHeartbeats 200000 in
theorem T_X10_wordOf_25_s {X : CX} (hX : Ok X cX10_wordOf 7 RX10 (some .int)) (hdx : dX X = 8) {r : Int32} (h : Hp) (k1 : Nat) (hk1 : isStr k1) (q_25 : Int32 → Int32 → Int32 → Int32 → Option Int32) (hq_25 : ∀ (x2 : Int32) (x3 : Int32) (x4 : Int32) (x5 : Int32), q_25 x2 x3 x4 x5 = some r → J X ((.inl (some (.int r)), h)) 25 [(0, .ref 2), (1, .ref k1), (2, .int x2), (3, .int x3), (4, .int x4), (5, .int x5)] [] h) (x2 : Int32) (x3 : Int32) (x4 : Int32) (x5 : Int32) (hf : S_X10_wordOf_25 h k1 q_25 x2 x3 x4 x5 = some r) : J X ((.inl (some (.int r)), h)) 25 [(0, .ref 2), (1, .ref k1), (2, .int x2), (3, .int x3), (4, .int x4), (5, .int x5)] [] h := by
  unfold S_X10_wordOf_25 at hf
  refine J_iload hX 5 dX10_wordOf_25 rfl ?_
  refine J_aload_n hX 1 dX10_wordOf_27 rfl rfl ?_
  refine J_strLen hX dX10_wordOf_28 hk1 cw_X10_46 (ltD hdx rfl) rfl ?_
  rcases ifE hf with ⟨c_1, hf⟩ | ⟨c_1, hf⟩
  · refine J_icmp_gtT hX 145 dX10_wordOf_31 rfl c_1 ?_
    refine J_iconst hX (-1) dX10_wordOf_145 rfl ?_
    exact E_Ip hX dX10_wordOf_146 hf
  · refine J_icmp_gtF hX 145 dX10_wordOf_31 rfl c_1 ?_
    refine J_iload hX 5 dX10_wordOf_34 rfl ?_
    refine J_aload_n hX 1 dX10_wordOf_36 rfl rfl ?_
    refine J_strLen hX dX10_wordOf_37 hk1 cw_X10_46 (ltD hdx rfl) rfl ?_
    rcases ifE hf with ⟨c_2, hf⟩ | ⟨c_2, hf⟩
    · refine J_icmp_geF hX 52 dX10_wordOf_40 rfl c_2 ?_
      refine J_aload_n hX 1 dX10_wordOf_43 rfl rfl ?_
      refine J_iload hX 5 dX10_wordOf_44 rfl ?_
      obtain ⟨g_3, hf⟩ := gdE hf
      refine J_strAt hX dX10_wordOf_46 hk1 g_3 cw_X10_51 (ltD hdx rfl) rfl ?_
      refine J_goto hX 54 dX10_wordOf_49 rfl ?_
      exact T_X10_wordOf_54 hX hdx h k1 hk1 x2 x3 x4 x5 (sAt k1 x5.toNatClampNeg) q_25 hq_25 hf
    · refine J_icmp_geT hX 52 dX10_wordOf_40 rfl c_2 ?_
      refine J_bipush hX 32 dX10_wordOf_52 rfl ?_
      exact T_X10_wordOf_54 hX hdx h k1 hk1 x2 x3 x4 x5 32 q_25 hq_25 hf
set_option maxRecDepth 100000 in
set_option maxHeartbeats 200000 in
theorem T_X10_wordOf_25 {X : CX} (hX : Ok X cX10_wordOf 7 RX10 (some .int)) (hdx : dX X = 8) {r : Int32} (h : Hp) (k1 : Nat) (hk1 : isStr k1) : ∀ (n : Nat) (x2 : Int32) (x3 : Int32) (x4 : Int32) (x5 : Int32), F_X10_wordOf_25 h k1 n x2 x3 x4 x5 = some r → J X ((.inl (some (.int r)), h)) 25 [(0, .ref 2), (1, .ref k1), (2, .int x2), (3, .int x3), (4, .int x4), (5, .int x5)] [] h := by
  intro n
  induction n with
  | zero => intro x2 x3 x4 x5 hf; exact nomatch hf
  | succ n ih => intro x2 x3 x4 x5 hf; exact T_X10_wordOf_25_s hX hdx h k1 hk1 _ (fun x2 x3 x4 x5 hf => ih x2 x3 x4 x5 hf) x2 x3 x4 x5 hf
set_option maxRecDepth 100000 in
set_option maxHeartbeats 200000 in
theorem T_X10_wordOf_0 {X : CX} (hX : Ok X cX10_wordOf 7 RX10 (some .int)) (hdx : dX X = 8) {r : Int32} (k1 : Nat) (hk1 : isStr k1) (h : Hp) (hf : f_X10_wordOf k1 h = some r) : J X ((.inl (some (.int r)), h)) 0 [(0, .ref 2), (1, .ref k1)] [] h := by
  unfold f_X10_wordOf at hf
  refine J_aload_n hX 0 dX10_wordOf_0 rfl rfl ?_
  refine J_getI hX dX10_wordOf_1 fl_X10_19 ob_2 rfl ?_
  refine J_sipush hX 256 dX10_wordOf_4 rfl ?_
  rcases ifE hf with ⟨c_1, hf⟩ | ⟨c_1, hf⟩
  · refine J_icmp_eqT hX 12 dX10_wordOf_7 rfl c_1 ?_
    refine J_iconst hX 0 dX10_wordOf_12 rfl ?_
    refine J_istore_n hX [(2, .int 0), (0, .ref 2), (1, .ref k1)] dX10_wordOf_13 rfl rfl rfl ?_
    refine J_aload_n hX 1 dX10_wordOf_14 rfl rfl ?_
    refine J_getI hX dX10_wordOf_15 fl_X10_40 ob_2 rfl ?_
    refine J_istore_n hX [(3, .int (h 2 3)), (2, .int 0), (0, .ref 2), (1, .ref k1)] dX10_wordOf_18 rfl rfl rfl ?_
    refine J_iconst hX 1 dX10_wordOf_19 rfl ?_
    refine J_istore hX [(4, .int 1), (3, .int (h 2 3)), (2, .int 0), (0, .ref 2), (1, .ref k1)] dX10_wordOf_20 rfl rfl ?_
    refine J_iconst hX 0 dX10_wordOf_22 rfl ?_
    refine J_istore hX [(5, .int 0), (4, .int 1), (3, .int (h 2 3)), (2, .int 0), (0, .ref 2), (1, .ref k1)] dX10_wordOf_23 rfl rfl ?_
    refine J_sub [4, 5, 3, 2, 1, 0] [(0, .ref 2), (1, .ref k1), (2, .int 0), (3, .int (h 2 3)), (4, .int 1), (5, .int 0)] rfl ?_
    exact T_X10_wordOf_25 hX hdx h k1 hk1 FU 0 (h 2 3) 1 0 hf
  · refine J_icmp_eqF hX 12 dX10_wordOf_7 rfl c_1 ?_
    refine J_iconst hX (-1) dX10_wordOf_10 rfl ?_
    exact E_Ip hX dX10_wordOf_11 hf
set_option maxRecDepth 100000 in
set_option maxHeartbeats 200000 in
theorem C_X10_wordOf {G : GX} (hG : GOk G) {k1 : Nat} {h : Hp} {r : Int32} (hk1 : isStr k1) (hf : f_X10_wordOf k1 h = some r) : Ctr G 8 yX10_wordOf cX10_wordOf 7 (some .int) [.ref 2, .ref k1] h ((.inl (some (.int r)), h)) :=
  Ctr_of hG RX10 rfl (by decide) rfl (fun X _ hdx hX => T_X10_wordOf_0 hX hdx k1 hk1 h hf)
theorem dX10_take_0 : decode cX10_take 0 = .ok (.aload_n 0, 1) := by decide +kernel
theorem dX10_take_1 : decode cX10_take 1 = .ok (.aload_n 1, 1) := by decide +kernel
theorem dX10_take_2 : decode cX10_take 2 = .ok (.invokevirtual 55, 3) := by decide +kernel
theorem dX10_take_5 : decode cX10_take 5 = .ok (.istore_n 2, 1) := by decide +kernel
theorem dX10_take_6 : decode cX10_take 6 = .ok (.iload_n 2, 1) := by decide +kernel
theorem dX10_take_7 : decode cX10_take 7 = .ok (.iconst (-1), 1) := by decide +kernel
theorem dX10_take_8 : decode cX10_take 8 = .ok (.if_icmp .eq 7, 3) := by decide +kernel
theorem dX10_take_11 : decode cX10_take 11 = .ok (.aload_n 0, 1) := by decide +kernel
theorem dX10_take_12 : decode cX10_take 12 = .ok (.invokevirtual 28, 3) := by decide +kernel
theorem dX10_take_15 : decode cX10_take 15 = .ok (.iload_n 2, 1) := by decide +kernel
theorem dX10_take_16 : decode cX10_take 16 = .ok (.ireturn, 1) := by decide +kernel
set_option maxRecDepth 100000 in
set_option maxHeartbeats 200000 in
theorem T_X10_take_0 {X : CX} (hX : Ok X cX10_take 3 RX10 (some .int)) (hdx : dX X = 9) {r : Int32 × Hp} (k1 : Nat) (hk1 : isStr k1) (h : Hp) (hf : f_X10_take k1 h = some r) : J X ((.inl (some (.int r.1)), r.2)) 0 [(0, .ref 2), (1, .ref k1)] [] h := by
  unfold f_X10_take at hf
  refine J_aload_n hX 0 dX10_take_0 rfl rfl ?_
  refine J_aload_n hX 1 dX10_take_1 rfl rfl ?_
  obtain ⟨r_1, e_2, hf⟩ := bdE hf
  refine V_1 hX [.ref k1] dX10_take_2 cw_X10_55 ob_2 rfl (C_X10_wordOf (okG hX) hk1 e_2) (ltD hdx rfl) rfl rfl rfl rfl ?_
  refine J_istore_n hX [(2, .int r_1), (0, .ref 2), (1, .ref k1)] dX10_take_5 rfl rfl rfl ?_
  refine J_iload_n hX 0 dX10_take_6 rfl rfl ?_
  refine J_iconst hX (-1) dX10_take_7 rfl ?_
  rcases ifE hf with ⟨c_3, hf⟩ | ⟨c_3, hf⟩
  · refine J_icmp_eqT hX 15 dX10_take_8 rfl c_3 ?_
    refine J_iload_n hX 0 dX10_take_15 rfl rfl ?_
    exact E_Ii hX dX10_take_16 hf
  · refine J_icmp_eqF hX 15 dX10_take_8 rfl c_3 ?_
    refine J_aload_n hX 1 dX10_take_11 rfl rfl ?_
    obtain ⟨r_4, e_5, hf⟩ := bdE hf
    refine V_0 hX [] dX10_take_12 cw_X10_28 ob_2 rfl (C_X10_step (okG hX) e_5) (ltD hdx rfl) rfl rfl rfl rfl ?_
    refine J_iload_n hX 0 dX10_take_15 rfl rfl ?_
    exact E_Ii hX dX10_take_16 hf
set_option maxRecDepth 100000 in
set_option maxHeartbeats 200000 in
theorem C_X10_take {G : GX} (hG : GOk G) {k1 : Nat} {h : Hp} {r : Int32 × Hp} (hk1 : isStr k1) (hf : f_X10_take k1 h = some r) : Ctr G 9 yX10_take cX10_take 3 (some .int) [.ref 2, .ref k1] h ((.inl (some (.int r.1)), r.2)) :=
  Ctr_of hG RX10 rfl (by decide) rfl (fun X _ hdx hX => T_X10_take_0 hX hdx k1 hk1 h hf)
theorem dX10_fail_0 : decode cX10_fail 0 = .ok (.aload_n 0, 1) := by decide +kernel
theorem dX10_fail_1 : decode cX10_fail 1 = .ok (.aload_n 0, 1) := by decide +kernel
theorem dX10_fail_2 : decode cX10_fail 2 = .ok (.getfield 40, 3) := by decide +kernel
theorem dX10_fail_5 : decode cX10_fail 5 = .ok (.putfield 15, 3) := by decide +kernel
theorem dX10_fail_8 : decode cX10_fail 8 = .ok (.iconst 0, 1) := by decide +kernel
theorem dX10_fail_9 : decode cX10_fail 9 = .ok (.ireturn, 1) := by decide +kernel
set_option maxRecDepth 100000 in
set_option maxHeartbeats 200000 in
theorem T_X10_fail_0 {X : CX} (hX : Ok X cX10_fail 1 RX10 (some .boolean)) (hdx : dX X = 2) {r : Bool × Hp} (h : Hp) (hf : f_X10_fail h = some r) : J X ((.inl (some (.int (b2i r.1))), r.2)) 0 [(0, .ref 2)] [] h := by
  unfold f_X10_fail at hf
  refine J_aload_n hX 0 dX10_fail_0 rfl rfl ?_
  refine J_aload_n hX 0 dX10_fail_1 rfl rfl ?_
  refine J_getI hX dX10_fail_2 fl_X10_40 ob_2 rfl ?_
  obtain ⟨h_1, e_2, hf⟩ := bndE hf
  refine J_putI hX dX10_fail_5 fl_X10_15 fw_8_2 ob_2 rfl rfl rfl ?_
  refine J_nmh e_2 ?_
  refine J_iconst hX 0 dX10_fail_8 rfl ?_
  exact E_Zi hX dX10_fail_9 rfl hf
set_option maxRecDepth 100000 in
set_option maxHeartbeats 200000 in
theorem C_X10_fail {G : GX} (hG : GOk G) {h : Hp} {r : Bool × Hp} (hf : f_X10_fail h = some r) : Ctr G 2 yX10_fail cX10_fail 1 (some .boolean) [.ref 2] h ((.inl (some (.int (b2i r.1))), r.2)) :=
  Ctr_of hG RX10 rfl (by decide) rfl (fun X _ hdx hX => T_X10_fail_0 hX hdx h hf)
theorem dX10_needs_0 : decode cX10_needs 0 = .ok (.aload_n 0, 1) := by decide +kernel
theorem dX10_needs_1 : decode cX10_needs 1 = .ok (.aload_n 1, 1) := by decide +kernel
theorem dX10_needs_2 : decode cX10_needs 2 = .ok (.invokevirtual 59, 3) := by decide +kernel
theorem dX10_needs_5 : decode cX10_needs 5 = .ok (.iconst (-1), 1) := by decide +kernel
theorem dX10_needs_6 : decode cX10_needs 6 = .ok (.if_icmp .ne 10, 3) := by decide +kernel
theorem dX10_needs_9 : decode cX10_needs 9 = .ok (.aload_n 0, 1) := by decide +kernel
theorem dX10_needs_10 : decode cX10_needs 10 = .ok (.invokevirtual 62, 3) := by decide +kernel
theorem dX10_needs_13 : decode cX10_needs 13 = .ok (.ifCond .eq 7, 3) := by decide +kernel
theorem dX10_needs_16 : decode cX10_needs 16 = .ok (.iconst 1, 1) := by decide +kernel
theorem dX10_needs_17 : decode cX10_needs 17 = .ok (.goto 4, 3) := by decide +kernel
theorem dX10_needs_20 : decode cX10_needs 20 = .ok (.iconst 0, 1) := by decide +kernel
theorem dX10_needs_21 : decode cX10_needs 21 = .ok (.ireturn, 1) := by decide +kernel
set_option maxRecDepth 100000 in
set_option maxHeartbeats 200000 in
theorem T_X10_needs_0 {X : CX} (hX : Ok X cX10_needs 2 RX10 (some .boolean)) (hdx : dX X = 10) {r : Bool × Hp} (k1 : Nat) (hk1 : isStr k1) (h : Hp) (hf : f_X10_needs k1 h = some r) : J X ((.inl (some (.int (b2i r.1))), r.2)) 0 [(0, .ref 2), (1, .ref k1)] [] h := by
  unfold f_X10_needs at hf
  refine J_aload_n hX 0 dX10_needs_0 rfl rfl ?_
  refine J_aload_n hX 1 dX10_needs_1 rfl rfl ?_
  obtain ⟨r_1, e_2, hf⟩ := bdE hf
  refine V_1 hX [.ref k1] dX10_needs_2 cw_X10_59 ob_2 rfl (C_X10_take (okG hX) hk1 e_2) (ltD hdx rfl) rfl rfl rfl rfl ?_
  refine J_iconst hX (-1) dX10_needs_5 rfl ?_
  rcases ifE hf with ⟨c_3, hf⟩ | ⟨c_3, hf⟩
  · refine J_icmp_neF hX 16 dX10_needs_6 rfl c_3 ?_
    refine J_aload_n hX 0 dX10_needs_9 rfl rfl ?_
    obtain ⟨r_4, e_5, hf⟩ := bdE hf
    refine V_1 hX [] dX10_needs_10 cw_X10_62 ob_2 rfl (C_X10_fail (okG hX) e_5) (ltD hdx rfl) rfl rfl rfl rfl ?_
    rcases ifE hf with ⟨c_6, hf⟩ | ⟨c_6, hf⟩
    · refine J_if_eqF hX 20 dX10_needs_13 rfl (b2iT c_6) ?_
      refine J_iconst hX 1 dX10_needs_16 rfl ?_
      refine J_goto hX 21 dX10_needs_17 rfl ?_
      exact E_Zi hX dX10_needs_21 rfl hf
    · refine J_if_eqT hX 20 dX10_needs_13 rfl (b2iF c_6) ?_
      refine J_iconst hX 0 dX10_needs_20 rfl ?_
      exact E_Zi hX dX10_needs_21 rfl hf
  · refine J_icmp_neT hX 16 dX10_needs_6 rfl c_3 ?_
    refine J_iconst hX 1 dX10_needs_16 rfl ?_
    refine J_goto hX 21 dX10_needs_17 rfl ?_
    exact E_Zi hX dX10_needs_21 rfl hf
set_option maxRecDepth 100000 in
set_option maxHeartbeats 200000 in
theorem C_X10_needs {G : GX} (hG : GOk G) {k1 : Nat} {h : Hp} {r : Bool × Hp} (hk1 : isStr k1) (hf : f_X10_needs k1 h = some r) : Ctr G 10 yX10_needs cX10_needs 2 (some .boolean) [.ref 2, .ref k1] h ((.inl (some (.int (b2i r.1))), r.2)) :=
  Ctr_of hG RX10 rfl (by decide) rfl (fun X _ hdx hX => T_X10_needs_0 hX hdx k1 hk1 h hf)
theorem dX10_numberAhead_0 : decode cX10_numberAhead 0 = .ok (.aload_n 0, 1) := by decide +kernel
theorem dX10_numberAhead_1 : decode cX10_numberAhead 1 = .ok (.getfield 19, 3) := by decide +kernel
theorem dX10_numberAhead_4 : decode cX10_numberAhead 4 = .ok (.sipush 257, 3) := by decide +kernel
theorem dX10_numberAhead_7 : decode cX10_numberAhead 7 = .ok (.if_icmp .ne 36, 3) := by decide +kernel
theorem dX10_numberAhead_10 : decode cX10_numberAhead 10 = .ok (.aload_n 0, 1) := by decide +kernel
theorem dX10_numberAhead_11 : decode cX10_numberAhead 11 = .ok (.getfield 25, 3) := by decide +kernel
theorem dX10_numberAhead_14 : decode cX10_numberAhead 14 = .ok (.aload_n 0, 1) := by decide +kernel
theorem dX10_numberAhead_15 : decode cX10_numberAhead 15 = .ok (.getfield 40, 3) := by decide +kernel
theorem dX10_numberAhead_18 : decode cX10_numberAhead 18 = .ok (.isub, 1) := by decide +kernel
theorem dX10_numberAhead_19 : decode cX10_numberAhead 19 = .ok (.iconst 3, 1) := by decide +kernel
theorem dX10_numberAhead_20 : decode cX10_numberAhead 20 = .ok (.if_icmp .gt 23, 3) := by decide +kernel
theorem dX10_numberAhead_23 : decode cX10_numberAhead 23 = .ok (.aload_n 0, 1) := by decide +kernel
theorem dX10_numberAhead_24 : decode cX10_numberAhead 24 = .ok (.getfield 43, 3) := by decide +kernel
theorem dX10_numberAhead_27 : decode cX10_numberAhead 27 = .ok (.iload_n 1, 1) := by decide +kernel
theorem dX10_numberAhead_28 : decode cX10_numberAhead 28 = .ok (.if_icmp .lt 15, 3) := by decide +kernel
theorem dX10_numberAhead_31 : decode cX10_numberAhead 31 = .ok (.aload_n 0, 1) := by decide +kernel
theorem dX10_numberAhead_32 : decode cX10_numberAhead 32 = .ok (.getfield 43, 3) := by decide +kernel
theorem dX10_numberAhead_35 : decode cX10_numberAhead 35 = .ok (.iload_n 2, 1) := by decide +kernel
theorem dX10_numberAhead_36 : decode cX10_numberAhead 36 = .ok (.if_icmp .gt 7, 3) := by decide +kernel
theorem dX10_numberAhead_39 : decode cX10_numberAhead 39 = .ok (.iconst 1, 1) := by decide +kernel
theorem dX10_numberAhead_40 : decode cX10_numberAhead 40 = .ok (.goto 4, 3) := by decide +kernel
theorem dX10_numberAhead_43 : decode cX10_numberAhead 43 = .ok (.iconst 0, 1) := by decide +kernel
theorem dX10_numberAhead_44 : decode cX10_numberAhead 44 = .ok (.istore_n 3, 1) := by decide +kernel
theorem dX10_numberAhead_45 : decode cX10_numberAhead 45 = .ok (.iload_n 3, 1) := by decide +kernel
theorem dX10_numberAhead_46 : decode cX10_numberAhead 46 = .ok (.ifCond .eq 10, 3) := by decide +kernel
theorem dX10_numberAhead_49 : decode cX10_numberAhead 49 = .ok (.aload_n 0, 1) := by decide +kernel
theorem dX10_numberAhead_50 : decode cX10_numberAhead 50 = .ok (.getfield 43, 3) := by decide +kernel
theorem dX10_numberAhead_53 : decode cX10_numberAhead 53 = .ok (.goto 4, 3) := by decide +kernel
theorem dX10_numberAhead_56 : decode cX10_numberAhead 56 = .ok (.iconst (-1), 1) := by decide +kernel
theorem dX10_numberAhead_57 : decode cX10_numberAhead 57 = .ok (.ireturn, 1) := by decide +kernel
set_option maxRecDepth 100000 in
set_option maxHeartbeats 200000 in
theorem T_X10_numberAhead_44 {X : CX} (hX : Ok X cX10_numberAhead 4 RX10 (some .int)) (hdx : dX X = 2) {r : Int32} (h : Hp) (t0 : Int32) (hf : F_X10_numberAhead_44 h t0 = r) : J X ((.inl (some (.int r)), h)) 44 [(0, .ref 2)] [.int t0] h := by
  unfold F_X10_numberAhead_44 at hf
  refine J_istore_n hX [(3, .int t0), (0, .ref 2)] dX10_numberAhead_44 rfl rfl rfl ?_
  refine J_iload_n hX 0 dX10_numberAhead_45 rfl rfl ?_
  rcases ifE hf with ⟨c_1, hf⟩ | ⟨c_1, hf⟩
  · refine J_if_eqT hX 56 dX10_numberAhead_46 rfl c_1 ?_
    refine J_iconst hX (-1) dX10_numberAhead_56 rfl ?_
    exact E_It hX dX10_numberAhead_57 hf
  · refine J_if_eqF hX 56 dX10_numberAhead_46 rfl c_1 ?_
    refine J_aload_n hX 1 dX10_numberAhead_49 rfl rfl ?_
    refine J_getI hX dX10_numberAhead_50 fl_X10_43 ob_2 rfl ?_
    refine J_goto hX 57 dX10_numberAhead_53 rfl ?_
    exact E_It hX dX10_numberAhead_57 hf
set_option maxRecDepth 100000 in
set_option maxHeartbeats 200000 in
theorem T_X10_numberAhead_0 {X : CX} (hX : Ok X cX10_numberAhead 4 RX10 (some .int)) (hdx : dX X = 2) {r : Int32} (x1 : Int32) (x2 : Int32) (h : Hp) (hf : f_X10_numberAhead x1 x2 h = r) : J X ((.inl (some (.int r)), h)) 0 [(0, .ref 2), (1, .int x1), (2, .int x2)] [] h := by
  unfold f_X10_numberAhead at hf
  refine J_aload_n hX 0 dX10_numberAhead_0 rfl rfl ?_
  refine J_getI hX dX10_numberAhead_1 fl_X10_19 ob_2 rfl ?_
  refine J_sipush hX 257 dX10_numberAhead_4 rfl ?_
  rcases ifE hf with ⟨c_1, hf⟩ | ⟨c_1, hf⟩
  · refine J_icmp_neF hX 43 dX10_numberAhead_7 rfl c_1 ?_
    refine J_aload_n hX 0 dX10_numberAhead_10 rfl rfl ?_
    refine J_getI hX dX10_numberAhead_11 fl_X10_25 ob_2 rfl ?_
    refine J_aload_n hX 0 dX10_numberAhead_14 rfl rfl ?_
    refine J_getI hX dX10_numberAhead_15 fl_X10_40 ob_2 rfl ?_
    refine J_isub hX dX10_numberAhead_18 ?_
    refine J_iconst hX 3 dX10_numberAhead_19 rfl ?_
    rcases ifE hf with ⟨c_2, hf⟩ | ⟨c_2, hf⟩
    · refine J_icmp_gtT hX 43 dX10_numberAhead_20 rfl c_2 ?_
      refine J_iconst hX 0 dX10_numberAhead_43 rfl ?_
      refine J_sub [0] [(0, .ref 2)] rfl ?_
      exact T_X10_numberAhead_44 hX hdx h 0 hf
    · refine J_icmp_gtF hX 43 dX10_numberAhead_20 rfl c_2 ?_
      refine J_aload_n hX 0 dX10_numberAhead_23 rfl rfl ?_
      refine J_getI hX dX10_numberAhead_24 fl_X10_43 ob_2 rfl ?_
      refine J_iload_n hX 1 dX10_numberAhead_27 rfl rfl ?_
      rcases ifE hf with ⟨c_3, hf⟩ | ⟨c_3, hf⟩
      · refine J_icmp_ltT hX 43 dX10_numberAhead_28 rfl c_3 ?_
        refine J_iconst hX 0 dX10_numberAhead_43 rfl ?_
        refine J_sub [0] [(0, .ref 2)] rfl ?_
        exact T_X10_numberAhead_44 hX hdx h 0 hf
      · refine J_icmp_ltF hX 43 dX10_numberAhead_28 rfl c_3 ?_
        refine J_aload_n hX 0 dX10_numberAhead_31 rfl rfl ?_
        refine J_getI hX dX10_numberAhead_32 fl_X10_43 ob_2 rfl ?_
        refine J_iload_n hX 2 dX10_numberAhead_35 rfl rfl ?_
        rcases ifE hf with ⟨c_4, hf⟩ | ⟨c_4, hf⟩
        · refine J_icmp_gtT hX 43 dX10_numberAhead_36 rfl c_4 ?_
          refine J_iconst hX 0 dX10_numberAhead_43 rfl ?_
          refine J_sub [0] [(0, .ref 2)] rfl ?_
          exact T_X10_numberAhead_44 hX hdx h 0 hf
        · refine J_icmp_gtF hX 43 dX10_numberAhead_36 rfl c_4 ?_
          refine J_iconst hX 1 dX10_numberAhead_39 rfl ?_
          refine J_goto hX 44 dX10_numberAhead_40 rfl ?_
          refine J_sub [0] [(0, .ref 2)] rfl ?_
          exact T_X10_numberAhead_44 hX hdx h 1 hf
  · refine J_icmp_neT hX 43 dX10_numberAhead_7 rfl c_1 ?_
    refine J_iconst hX 0 dX10_numberAhead_43 rfl ?_
    refine J_sub [0] [(0, .ref 2)] rfl ?_
    exact T_X10_numberAhead_44 hX hdx h 0 hf
set_option maxRecDepth 100000 in
set_option maxHeartbeats 200000 in
theorem C_X10_numberAhead {G : GX} (hG : GOk G) {x1 : Int32} {x2 : Int32} {h : Hp} {r : Int32} (hf : f_X10_numberAhead x1 x2 h = r) : Ctr G 2 yX10_numberAhead cX10_numberAhead 4 (some .int) [.ref 2, .int x1, .int x2] h ((.inl (some (.int r)), h)) :=
  Ctr_of hG RX10 rfl (by decide) rfl (fun X _ hdx hX => T_X10_numberAhead_0 hX hdx x1 x2 h hf)
theorem dX10_takeNumber_0 : decode cX10_takeNumber 0 = .ok (.aload_n 0, 1) := by decide +kernel
theorem dX10_takeNumber_1 : decode cX10_takeNumber 1 = .ok (.iload_n 1, 1) := by decide +kernel
theorem dX10_takeNumber_2 : decode cX10_takeNumber 2 = .ok (.iload_n 2, 1) := by decide +kernel
theorem dX10_takeNumber_3 : decode cX10_takeNumber 3 = .ok (.invokevirtual 66, 3) := by decide +kernel
theorem dX10_takeNumber_6 : decode cX10_takeNumber 6 = .ok (.istore_n 3, 1) := by decide +kernel
theorem dX10_takeNumber_7 : decode cX10_takeNumber 7 = .ok (.iload_n 3, 1) := by decide +kernel
theorem dX10_takeNumber_8 : decode cX10_takeNumber 8 = .ok (.iconst (-1), 1) := by decide +kernel
theorem dX10_takeNumber_9 : decode cX10_takeNumber 9 = .ok (.if_icmp .ne 10, 3) := by decide +kernel
theorem dX10_takeNumber_12 : decode cX10_takeNumber 12 = .ok (.aload_n 0, 1) := by decide +kernel
theorem dX10_takeNumber_13 : decode cX10_takeNumber 13 = .ok (.invokevirtual 62, 3) := by decide +kernel
theorem dX10_takeNumber_16 : decode cX10_takeNumber 16 = .ok (.pop, 1) := by decide +kernel
theorem dX10_takeNumber_17 : decode cX10_takeNumber 17 = .ok (.iconst (-1), 1) := by decide +kernel
theorem dX10_takeNumber_18 : decode cX10_takeNumber 18 = .ok (.ireturn, 1) := by decide +kernel
theorem dX10_takeNumber_19 : decode cX10_takeNumber 19 = .ok (.aload_n 0, 1) := by decide +kernel
theorem dX10_takeNumber_20 : decode cX10_takeNumber 20 = .ok (.invokevirtual 28, 3) := by decide +kernel
theorem dX10_takeNumber_23 : decode cX10_takeNumber 23 = .ok (.iload_n 3, 1) := by decide +kernel
theorem dX10_takeNumber_24 : decode cX10_takeNumber 24 = .ok (.ireturn, 1) := by decide +kernel
set_option maxRecDepth 100000 in
set_option maxHeartbeats 200000 in
theorem T_X10_takeNumber_0 {X : CX} (hX : Ok X cX10_takeNumber 4 RX10 (some .int)) (hdx : dX X = 3) {r : Int32 × Hp} (x1 : Int32) (x2 : Int32) (h : Hp) (hf : f_X10_takeNumber x1 x2 h = some r) : J X ((.inl (some (.int r.1)), r.2)) 0 [(0, .ref 2), (1, .int x1), (2, .int x2)] [] h := by
  unfold f_X10_takeNumber at hf
  refine J_aload_n hX 0 dX10_takeNumber_0 rfl rfl ?_
  refine J_iload_n hX 1 dX10_takeNumber_1 rfl rfl ?_
  refine J_iload_n hX 2 dX10_takeNumber_2 rfl rfl ?_
  refine V_1 hX [.int x1, .int x2] dX10_takeNumber_3 cw_X10_66 ob_2 rfl (C_X10_numberAhead (okG hX) rfl) (ltD hdx rfl) rfl rfl rfl rfl ?_
  obtain ⟨x3_1, e_2, hf⟩ := bndE hf
  refine J_nm e_2 ?_
  refine J_istore_n hX [(3, .int x3_1), (0, .ref 2), (1, .int x1), (2, .int x2)] dX10_takeNumber_6 rfl rfl rfl ?_
  refine J_iload_n hX 0 dX10_takeNumber_7 rfl rfl ?_
  refine J_iconst hX (-1) dX10_takeNumber_8 rfl ?_
  rcases ifE hf with ⟨c_3, hf⟩ | ⟨c_3, hf⟩
  · refine J_icmp_neF hX 19 dX10_takeNumber_9 rfl c_3 ?_
    refine J_aload_n hX 1 dX10_takeNumber_12 rfl rfl ?_
    obtain ⟨r_4, e_5, hf⟩ := bdE hf
    refine V_1 hX [] dX10_takeNumber_13 cw_X10_62 ob_2 rfl (C_X10_fail (okG hX) e_5) (ltD hdx rfl) rfl rfl rfl rfl ?_
    refine J_pop hX dX10_takeNumber_16 rfl ?_
    refine J_iconst hX (-1) dX10_takeNumber_17 rfl ?_
    exact E_Ii hX dX10_takeNumber_18 hf
  · refine J_icmp_neT hX 19 dX10_takeNumber_9 rfl c_3 ?_
    refine J_aload_n hX 1 dX10_takeNumber_19 rfl rfl ?_
    obtain ⟨r_6, e_7, hf⟩ := bdE hf
    refine V_0 hX [] dX10_takeNumber_20 cw_X10_28 ob_2 rfl (C_X10_step (okG hX) e_7) (ltD hdx rfl) rfl rfl rfl rfl ?_
    refine J_iload_n hX 0 dX10_takeNumber_23 rfl rfl ?_
    exact E_Ii hX dX10_takeNumber_24 hf
set_option maxRecDepth 100000 in
set_option maxHeartbeats 200000 in
theorem C_X10_takeNumber {G : GX} (hG : GOk G) {x1 : Int32} {x2 : Int32} {h : Hp} {r : Int32 × Hp} (hf : f_X10_takeNumber x1 x2 h = some r) : Ctr G 3 yX10_takeNumber cX10_takeNumber 4 (some .int) [.ref 2, .int x1, .int x2] h ((.inl (some (.int r.1)), r.2)) :=
  Ctr_of hG RX10 rfl (by decide) rfl (fun X _ hdx hX => T_X10_takeNumber_0 hX hdx x1 x2 h hf)
theorem dX10_takes_0 : decode cX10_takes 0 = .ok (.aload_n 0, 1) := by decide +kernel
theorem dX10_takes_1 : decode cX10_takes 1 = .ok (.aload_n 1, 1) := by decide +kernel
theorem dX10_takes_2 : decode cX10_takes 2 = .ok (.invokevirtual 59, 3) := by decide +kernel
theorem dX10_takes_5 : decode cX10_takes 5 = .ok (.iconst (-1), 1) := by decide +kernel
theorem dX10_takes_6 : decode cX10_takes 6 = .ok (.if_icmp .eq 7, 3) := by decide +kernel
theorem dX10_takes_9 : decode cX10_takes 9 = .ok (.iconst 1, 1) := by decide +kernel
theorem dX10_takes_10 : decode cX10_takes 10 = .ok (.goto 4, 3) := by decide +kernel
theorem dX10_takes_13 : decode cX10_takes 13 = .ok (.iconst 0, 1) := by decide +kernel
theorem dX10_takes_14 : decode cX10_takes 14 = .ok (.ireturn, 1) := by decide +kernel
set_option maxRecDepth 100000 in
set_option maxHeartbeats 200000 in
theorem T_X10_takes_0 {X : CX} (hX : Ok X cX10_takes 2 RX10 (some .boolean)) (hdx : dX X = 10) {r : Bool × Hp} (k1 : Nat) (hk1 : isStr k1) (h : Hp) (hf : f_X10_takes k1 h = some r) : J X ((.inl (some (.int (b2i r.1))), r.2)) 0 [(0, .ref 2), (1, .ref k1)] [] h := by
  unfold f_X10_takes at hf
  refine J_aload_n hX 0 dX10_takes_0 rfl rfl ?_
  refine J_aload_n hX 1 dX10_takes_1 rfl rfl ?_
  obtain ⟨r_1, e_2, hf⟩ := bdE hf
  refine V_1 hX [.ref k1] dX10_takes_2 cw_X10_59 ob_2 rfl (C_X10_take (okG hX) hk1 e_2) (ltD hdx rfl) rfl rfl rfl rfl ?_
  refine J_iconst hX (-1) dX10_takes_5 rfl ?_
  rcases ifE hf with ⟨c_3, hf⟩ | ⟨c_3, hf⟩
  · refine J_icmp_eqT hX 13 dX10_takes_6 rfl c_3 ?_
    refine J_iconst hX 0 dX10_takes_13 rfl ?_
    exact E_Zi hX dX10_takes_14 rfl hf
  · refine J_icmp_eqF hX 13 dX10_takes_6 rfl c_3 ?_
    refine J_iconst hX 1 dX10_takes_9 rfl ?_
    refine J_goto hX 14 dX10_takes_10 rfl ?_
    exact E_Zi hX dX10_takes_14 rfl hf
set_option maxRecDepth 100000 in
set_option maxHeartbeats 200000 in
theorem C_X10_takes {G : GX} (hG : GOk G) {k1 : Nat} {h : Hp} {r : Bool × Hp} (hk1 : isStr k1) (hf : f_X10_takes k1 h = some r) : Ctr G 10 yX10_takes cX10_takes 2 (some .boolean) [.ref 2, .ref k1] h ((.inl (some (.int (b2i r.1))), r.2)) :=
  Ctr_of hG RX10 rfl (by decide) rfl (fun X _ hdx hX => T_X10_takes_0 hX hdx k1 hk1 h hf)
theorem dX2_readHouse_0 : decode cX2_readHouse 0 = .ok (.aload_n 0, 1) := by decide +kernel
theorem dX2_readHouse_1 : decode cX2_readHouse 1 = .ok (.ldc 78, 2) := by decide +kernel
theorem dX2_readHouse_3 : decode cX2_readHouse 3 = .ok (.invokevirtual 80, 3) := by decide +kernel
theorem dX2_readHouse_6 : decode cX2_readHouse 6 = .ok (.ifCond .eq 13, 3) := by decide +kernel
theorem dX2_readHouse_9 : decode cX2_readHouse 9 = .ok (.aload_n 0, 1) := by decide +kernel
theorem dX2_readHouse_10 : decode cX2_readHouse 10 = .ok (.iconst 1, 1) := by decide +kernel
theorem dX2_readHouse_11 : decode cX2_readHouse 11 = .ok (.bipush 99, 2) := by decide +kernel
theorem dX2_readHouse_13 : decode cX2_readHouse 13 = .ok (.invokevirtual 62, 3) := by decide +kernel
theorem dX2_readHouse_16 : decode cX2_readHouse 16 = .ok (.goto 4, 3) := by decide +kernel
theorem dX2_readHouse_19 : decode cX2_readHouse 19 = .ok (.iconst (-1), 1) := by decide +kernel
theorem dX2_readHouse_20 : decode cX2_readHouse 20 = .ok (.istore_n 2, 1) := by decide +kernel
theorem dX2_readHouse_21 : decode cX2_readHouse 21 = .ok (.iload_n 2, 1) := by decide +kernel
theorem dX2_readHouse_22 : decode cX2_readHouse 22 = .ok (.iconst (-1), 1) := by decide +kernel
theorem dX2_readHouse_23 : decode cX2_readHouse 23 = .ok (.if_icmp .ne 5, 3) := by decide +kernel
theorem dX2_readHouse_26 : decode cX2_readHouse 26 = .ok (.iconst 0, 1) := by decide +kernel
theorem dX2_readHouse_27 : decode cX2_readHouse 27 = .ok (.ireturn, 1) := by decide +kernel
theorem dX2_readHouse_28 : decode cX2_readHouse 28 = .ok (.aload_n 0, 1) := by decide +kernel
theorem dX2_readHouse_29 : decode cX2_readHouse 29 = .ok (.ldc 84, 2) := by decide +kernel
theorem dX2_readHouse_31 : decode cX2_readHouse 31 = .ok (.invokevirtual 80, 3) := by decide +kernel
theorem dX2_readHouse_34 : decode cX2_readHouse 34 = .ok (.ifCond .eq 14, 3) := by decide +kernel
theorem dX2_readHouse_37 : decode cX2_readHouse 37 = .ok (.aload_n 0, 1) := by decide +kernel
theorem dX2_readHouse_38 : decode cX2_readHouse 38 = .ok (.iconst 0, 1) := by decide +kernel
theorem dX2_readHouse_39 : decode cX2_readHouse 39 = .ok (.sipush 999, 3) := by decide +kernel
theorem dX2_readHouse_42 : decode cX2_readHouse 42 = .ok (.invokevirtual 62, 3) := by decide +kernel
theorem dX2_readHouse_45 : decode cX2_readHouse 45 = .ok (.goto 4, 3) := by decide +kernel
theorem dX2_readHouse_48 : decode cX2_readHouse 48 = .ok (.iconst (-1), 1) := by decide +kernel
theorem dX2_readHouse_49 : decode cX2_readHouse 49 = .ok (.istore_n 3, 1) := by decide +kernel
theorem dX2_readHouse_50 : decode cX2_readHouse 50 = .ok (.iload_n 3, 1) := by decide +kernel
theorem dX2_readHouse_51 : decode cX2_readHouse 51 = .ok (.iconst (-1), 1) := by decide +kernel
theorem dX2_readHouse_52 : decode cX2_readHouse 52 = .ok (.if_icmp .ne 5, 3) := by decide +kernel
theorem dX2_readHouse_55 : decode cX2_readHouse 55 = .ok (.iconst 0, 1) := by decide +kernel
theorem dX2_readHouse_56 : decode cX2_readHouse 56 = .ok (.ireturn, 1) := by decide +kernel
theorem dX2_readHouse_57 : decode cX2_readHouse 57 = .ok (.aload_n 0, 1) := by decide +kernel
theorem dX2_readHouse_58 : decode cX2_readHouse 58 = .ok (.ldc 86, 2) := by decide +kernel
theorem dX2_readHouse_60 : decode cX2_readHouse 60 = .ok (.invokevirtual 88, 3) := by decide +kernel
theorem dX2_readHouse_63 : decode cX2_readHouse 63 = .ok (.ifCond .eq 13, 3) := by decide +kernel
theorem dX2_readHouse_66 : decode cX2_readHouse 66 = .ok (.aload_n 0, 1) := by decide +kernel
theorem dX2_readHouse_67 : decode cX2_readHouse 67 = .ok (.iconst 0, 1) := by decide +kernel
theorem dX2_readHouse_68 : decode cX2_readHouse 68 = .ok (.bipush 9, 2) := by decide +kernel
theorem dX2_readHouse_70 : decode cX2_readHouse 70 = .ok (.invokevirtual 62, 3) := by decide +kernel
theorem dX2_readHouse_73 : decode cX2_readHouse 73 = .ok (.goto 4, 3) := by decide +kernel
theorem dX2_readHouse_76 : decode cX2_readHouse 76 = .ok (.iconst 0, 1) := by decide +kernel
theorem dX2_readHouse_77 : decode cX2_readHouse 77 = .ok (.istore 4, 2) := by decide +kernel
theorem dX2_readHouse_79 : decode cX2_readHouse 79 = .ok (.iload 4, 2) := by decide +kernel
theorem dX2_readHouse_81 : decode cX2_readHouse 81 = .ok (.iconst (-1), 1) := by decide +kernel
theorem dX2_readHouse_82 : decode cX2_readHouse 82 = .ok (.if_icmp .ne 5, 3) := by decide +kernel
theorem dX2_readHouse_85 : decode cX2_readHouse 85 = .ok (.iconst 0, 1) := by decide +kernel
theorem dX2_readHouse_86 : decode cX2_readHouse 86 = .ok (.ireturn, 1) := by decide +kernel
theorem dX2_readHouse_87 : decode cX2_readHouse 87 = .ok (.aload_n 0, 1) := by decide +kernel
theorem dX2_readHouse_88 : decode cX2_readHouse 88 = .ok (.ldc 91, 2) := by decide +kernel
theorem dX2_readHouse_90 : decode cX2_readHouse 90 = .ok (.invokevirtual 88, 3) := by decide +kernel
theorem dX2_readHouse_93 : decode cX2_readHouse 93 = .ok (.ifCond .eq 13, 3) := by decide +kernel
theorem dX2_readHouse_96 : decode cX2_readHouse 96 = .ok (.aload_n 0, 1) := by decide +kernel
theorem dX2_readHouse_97 : decode cX2_readHouse 97 = .ok (.iconst 0, 1) := by decide +kernel
theorem dX2_readHouse_98 : decode cX2_readHouse 98 = .ok (.bipush 99, 2) := by decide +kernel
theorem dX2_readHouse_100 : decode cX2_readHouse 100 = .ok (.invokevirtual 62, 3) := by decide +kernel
theorem dX2_readHouse_103 : decode cX2_readHouse 103 = .ok (.goto 4, 3) := by decide +kernel
theorem dX2_readHouse_106 : decode cX2_readHouse 106 = .ok (.iconst 0, 1) := by decide +kernel
theorem dX2_readHouse_107 : decode cX2_readHouse 107 = .ok (.istore 5, 2) := by decide +kernel
theorem dX2_readHouse_109 : decode cX2_readHouse 109 = .ok (.iload 5, 2) := by decide +kernel
theorem dX2_readHouse_111 : decode cX2_readHouse 111 = .ok (.iconst (-1), 1) := by decide +kernel
theorem dX2_readHouse_112 : decode cX2_readHouse 112 = .ok (.if_icmp .eq 21, 3) := by decide +kernel
theorem dX2_readHouse_115 : decode cX2_readHouse 115 = .ok (.aload_n 1, 1) := by decide +kernel
theorem dX2_readHouse_116 : decode cX2_readHouse 116 = .ok (.iload_n 2, 1) := by decide +kernel
theorem dX2_readHouse_117 : decode cX2_readHouse 117 = .ok (.iload_n 3, 1) := by decide +kernel
theorem dX2_readHouse_118 : decode cX2_readHouse 118 = .ok (.iload 4, 2) := by decide +kernel
theorem dX2_readHouse_120 : decode cX2_readHouse 120 = .ok (.iload 5, 2) := by decide +kernel
theorem dX2_readHouse_122 : decode cX2_readHouse 122 = .ok (.invokevirtual 93, 3) := by decide +kernel
theorem dX2_readHouse_125 : decode cX2_readHouse 125 = .ok (.iconst (-1), 1) := by decide +kernel
theorem dX2_readHouse_126 : decode cX2_readHouse 126 = .ok (.if_icmp .eq 7, 3) := by decide +kernel
theorem dX2_readHouse_129 : decode cX2_readHouse 129 = .ok (.iconst 1, 1) := by decide +kernel
theorem dX2_readHouse_130 : decode cX2_readHouse 130 = .ok (.goto 4, 3) := by decide +kernel
theorem dX2_readHouse_133 : decode cX2_readHouse 133 = .ok (.iconst 0, 1) := by decide +kernel
theorem dX2_readHouse_134 : decode cX2_readHouse 134 = .ok (.ireturn, 1) := by decide +kernel
set_option maxRecDepth 100000 in
set_option maxHeartbeats 200000 in
theorem T_X2_readHouse_107 {X : CX} (hX : Ok X cX2_readHouse 6 RX2 (some .boolean)) (hdx : dX X = 11) {r : Bool × Hp} (k1 : Nat) (hk1 : isCity k1) (x2 : Int32) (x3 : Int32) (x4 : Int32) (t0 : Int32) (h : Hp) (hf : F_X2_readHouse_107 k1 x2 x3 x4 t0 h = some r) : J X ((.inl (some (.int (b2i r.1))), r.2)) 107 [(1, .ref k1), (2, .int x2), (3, .int x3), (4, .int x4)] [.int t0] h := by
  unfold F_X2_readHouse_107 at hf
  refine J_istore hX [(5, .int t0), (1, .ref k1), (2, .int x2), (3, .int x3), (4, .int x4)] dX2_readHouse_107 rfl rfl ?_
  refine J_iload hX 0 dX2_readHouse_109 rfl ?_
  refine J_iconst hX (-1) dX2_readHouse_111 rfl ?_
  rcases ifE hf with ⟨c_1, hf⟩ | ⟨c_1, hf⟩
  · refine J_icmp_eqT hX 133 dX2_readHouse_112 rfl c_1 ?_
    refine J_iconst hX 0 dX2_readHouse_133 rfl ?_
    exact E_Zi hX dX2_readHouse_134 rfl hf
  · refine J_icmp_eqF hX 133 dX2_readHouse_112 rfl c_1 ?_
    refine J_aload_n hX 1 dX2_readHouse_115 rfl rfl ?_
    refine J_iload_n hX 2 dX2_readHouse_116 rfl rfl ?_
    refine J_iload_n hX 3 dX2_readHouse_117 rfl rfl ?_
    refine J_iload hX 4 dX2_readHouse_118 rfl ?_
    refine J_iload hX 0 dX2_readHouse_120 rfl ?_
    obtain ⟨r_2, e_3, hf⟩ := bdE hf
    refine V_1 hX [.int x2, .int x3, .int x4, .int t0] dX2_readHouse_122 cw_X2_93 (city_ob hk1) rfl (C_X1_addHouse (okG hX) hk1 e_3) (ltD hdx rfl) rfl rfl rfl rfl ?_
    refine J_iconst hX (-1) dX2_readHouse_125 rfl ?_
    rcases ifE hf with ⟨c_4, hf⟩ | ⟨c_4, hf⟩
    · refine J_icmp_eqT hX 133 dX2_readHouse_126 rfl c_4 ?_
      refine J_iconst hX 0 dX2_readHouse_133 rfl ?_
      exact E_Zi hX dX2_readHouse_134 rfl hf
    · refine J_icmp_eqF hX 133 dX2_readHouse_126 rfl c_4 ?_
      refine J_iconst hX 1 dX2_readHouse_129 rfl ?_
      refine J_goto hX 134 dX2_readHouse_130 rfl ?_
      exact E_Zi hX dX2_readHouse_134 rfl hf
set_option maxRecDepth 100000 in
set_option maxHeartbeats 200000 in
theorem T_X2_readHouse_77 {X : CX} (hX : Ok X cX2_readHouse 6 RX2 (some .boolean)) (hdx : dX X = 11) {r : Bool × Hp} (k1 : Nat) (hk1 : isCity k1) (x2 : Int32) (x3 : Int32) (t0 : Int32) (h : Hp) (hf : F_X2_readHouse_77 k1 x2 x3 t0 h = some r) : J X ((.inl (some (.int (b2i r.1))), r.2)) 77 [(0, .ref 2), (1, .ref k1), (2, .int x2), (3, .int x3)] [.int t0] h := by
  unfold F_X2_readHouse_77 at hf
  refine J_istore hX [(4, .int t0), (0, .ref 2), (1, .ref k1), (2, .int x2), (3, .int x3)] dX2_readHouse_77 rfl rfl ?_
  refine J_iload hX 0 dX2_readHouse_79 rfl ?_
  refine J_iconst hX (-1) dX2_readHouse_81 rfl ?_
  rcases ifE hf with ⟨c_1, hf⟩ | ⟨c_1, hf⟩
  · refine J_icmp_neF hX 87 dX2_readHouse_82 rfl c_1 ?_
    refine J_iconst hX 0 dX2_readHouse_85 rfl ?_
    exact E_Zi hX dX2_readHouse_86 rfl hf
  · refine J_icmp_neT hX 87 dX2_readHouse_82 rfl c_1 ?_
    refine J_aload_n hX 1 dX2_readHouse_87 rfl rfl ?_
    refine J_ldcS hX 1004 dX2_readHouse_88 rfl rfl ?_
    obtain ⟨r_2, e_3, hf⟩ := bdE hf
    refine V_1 hX [.ref 1004] dX2_readHouse_90 cw_X2_88 ob_2 rfl (C_X10_takes (okG hX) (isStr_of (by decide)) e_3) (ltD hdx rfl) rfl rfl rfl rfl ?_
    rcases ifE hf with ⟨c_4, hf⟩ | ⟨c_4, hf⟩
    · refine J_if_eqF hX 106 dX2_readHouse_93 rfl (b2iT c_4) ?_
      refine J_aload_n hX 1 dX2_readHouse_96 rfl rfl ?_
      refine J_iconst hX 0 dX2_readHouse_97 rfl ?_
      refine J_bipush hX 99 dX2_readHouse_98 rfl ?_
      obtain ⟨r_5, e_6, hf⟩ := bdE hf
      refine V_1 hX [.int 0, .int 99] dX2_readHouse_100 cw_X2_62 ob_2 rfl (C_X10_takeNumber (okG hX) e_6) (ltD hdx rfl) rfl rfl rfl rfl ?_
      refine J_goto hX 107 dX2_readHouse_103 rfl ?_
      refine J_sub [2, 3, 4, 0] [(1, .ref k1), (2, .int x2), (3, .int x3), (4, .int t0)] rfl ?_
      exact T_X2_readHouse_107 hX hdx k1 hk1 x2 x3 t0 r_5.1 r_5.2 hf
    · refine J_if_eqT hX 106 dX2_readHouse_93 rfl (b2iF c_4) ?_
      refine J_iconst hX 0 dX2_readHouse_106 rfl ?_
      refine J_sub [2, 3, 4, 0] [(1, .ref k1), (2, .int x2), (3, .int x3), (4, .int t0)] rfl ?_
      exact T_X2_readHouse_107 hX hdx k1 hk1 x2 x3 t0 0 r_2.2 hf
set_option maxRecDepth 100000 in
set_option maxHeartbeats 200000 in
theorem T_X2_readHouse_49 {X : CX} (hX : Ok X cX2_readHouse 6 RX2 (some .boolean)) (hdx : dX X = 11) {r : Bool × Hp} (k1 : Nat) (hk1 : isCity k1) (x2 : Int32) (t0 : Int32) (h : Hp) (hf : F_X2_readHouse_49 k1 x2 t0 h = some r) : J X ((.inl (some (.int (b2i r.1))), r.2)) 49 [(0, .ref 2), (1, .ref k1), (2, .int x2)] [.int t0] h := by
  unfold F_X2_readHouse_49 at hf
  refine J_istore_n hX [(3, .int t0), (0, .ref 2), (1, .ref k1), (2, .int x2)] dX2_readHouse_49 rfl rfl rfl ?_
  refine J_iload_n hX 0 dX2_readHouse_50 rfl rfl ?_
  refine J_iconst hX (-1) dX2_readHouse_51 rfl ?_
  rcases ifE hf with ⟨c_1, hf⟩ | ⟨c_1, hf⟩
  · refine J_icmp_neF hX 57 dX2_readHouse_52 rfl c_1 ?_
    refine J_iconst hX 0 dX2_readHouse_55 rfl ?_
    exact E_Zi hX dX2_readHouse_56 rfl hf
  · refine J_icmp_neT hX 57 dX2_readHouse_52 rfl c_1 ?_
    refine J_aload_n hX 1 dX2_readHouse_57 rfl rfl ?_
    refine J_ldcS hX 1003 dX2_readHouse_58 rfl rfl ?_
    obtain ⟨r_2, e_3, hf⟩ := bdE hf
    refine V_1 hX [.ref 1003] dX2_readHouse_60 cw_X2_88 ob_2 rfl (C_X10_takes (okG hX) (isStr_of (by decide)) e_3) (ltD hdx rfl) rfl rfl rfl rfl ?_
    rcases ifE hf with ⟨c_4, hf⟩ | ⟨c_4, hf⟩
    · refine J_if_eqF hX 76 dX2_readHouse_63 rfl (b2iT c_4) ?_
      refine J_aload_n hX 1 dX2_readHouse_66 rfl rfl ?_
      refine J_iconst hX 0 dX2_readHouse_67 rfl ?_
      refine J_bipush hX 9 dX2_readHouse_68 rfl ?_
      obtain ⟨r_5, e_6, hf⟩ := bdE hf
      refine V_1 hX [.int 0, .int 9] dX2_readHouse_70 cw_X2_62 ob_2 rfl (C_X10_takeNumber (okG hX) e_6) (ltD hdx rfl) rfl rfl rfl rfl ?_
      refine J_goto hX 77 dX2_readHouse_73 rfl ?_
      refine J_sub [1, 2, 3, 0] [(0, .ref 2), (1, .ref k1), (2, .int x2), (3, .int t0)] rfl ?_
      exact T_X2_readHouse_77 hX hdx k1 hk1 x2 t0 r_5.1 r_5.2 hf
    · refine J_if_eqT hX 76 dX2_readHouse_63 rfl (b2iF c_4) ?_
      refine J_iconst hX 0 dX2_readHouse_76 rfl ?_
      refine J_sub [1, 2, 3, 0] [(0, .ref 2), (1, .ref k1), (2, .int x2), (3, .int t0)] rfl ?_
      exact T_X2_readHouse_77 hX hdx k1 hk1 x2 t0 0 r_2.2 hf
set_option maxRecDepth 100000 in
set_option maxHeartbeats 200000 in
theorem T_X2_readHouse_20 {X : CX} (hX : Ok X cX2_readHouse 6 RX2 (some .boolean)) (hdx : dX X = 11) {r : Bool × Hp} (k1 : Nat) (hk1 : isCity k1) (t0 : Int32) (h : Hp) (hf : F_X2_readHouse_20 k1 t0 h = some r) : J X ((.inl (some (.int (b2i r.1))), r.2)) 20 [(0, .ref 2), (1, .ref k1)] [.int t0] h := by
  unfold F_X2_readHouse_20 at hf
  refine J_istore_n hX [(2, .int t0), (0, .ref 2), (1, .ref k1)] dX2_readHouse_20 rfl rfl rfl ?_
  refine J_iload_n hX 0 dX2_readHouse_21 rfl rfl ?_
  refine J_iconst hX (-1) dX2_readHouse_22 rfl ?_
  rcases ifE hf with ⟨c_1, hf⟩ | ⟨c_1, hf⟩
  · refine J_icmp_neF hX 28 dX2_readHouse_23 rfl c_1 ?_
    refine J_iconst hX 0 dX2_readHouse_26 rfl ?_
    exact E_Zi hX dX2_readHouse_27 rfl hf
  · refine J_icmp_neT hX 28 dX2_readHouse_23 rfl c_1 ?_
    refine J_aload_n hX 1 dX2_readHouse_28 rfl rfl ?_
    refine J_ldcS hX 1002 dX2_readHouse_29 rfl rfl ?_
    obtain ⟨r_2, e_3, hf⟩ := bdE hf
    refine V_1 hX [.ref 1002] dX2_readHouse_31 cw_X2_80 ob_2 rfl (C_X10_needs (okG hX) (isStr_of (by decide)) e_3) (ltD hdx rfl) rfl rfl rfl rfl ?_
    rcases ifE hf with ⟨c_4, hf⟩ | ⟨c_4, hf⟩
    · refine J_if_eqF hX 48 dX2_readHouse_34 rfl (b2iT c_4) ?_
      refine J_aload_n hX 1 dX2_readHouse_37 rfl rfl ?_
      refine J_iconst hX 0 dX2_readHouse_38 rfl ?_
      refine J_sipush hX 999 dX2_readHouse_39 rfl ?_
      obtain ⟨r_5, e_6, hf⟩ := bdE hf
      refine V_1 hX [.int 0, .int 999] dX2_readHouse_42 cw_X2_62 ob_2 rfl (C_X10_takeNumber (okG hX) e_6) (ltD hdx rfl) rfl rfl rfl rfl ?_
      refine J_goto hX 49 dX2_readHouse_45 rfl ?_
      refine J_sub [1, 2, 0] [(0, .ref 2), (1, .ref k1), (2, .int t0)] rfl ?_
      exact T_X2_readHouse_49 hX hdx k1 hk1 t0 r_5.1 r_5.2 hf
    · refine J_if_eqT hX 48 dX2_readHouse_34 rfl (b2iF c_4) ?_
      refine J_iconst hX (-1) dX2_readHouse_48 rfl ?_
      refine J_sub [1, 2, 0] [(0, .ref 2), (1, .ref k1), (2, .int t0)] rfl ?_
      exact T_X2_readHouse_49 hX hdx k1 hk1 t0 (-1) r_2.2 hf
set_option maxRecDepth 100000 in
set_option maxHeartbeats 200000 in
theorem T_X2_readHouse_0 {X : CX} (hX : Ok X cX2_readHouse 6 RX2 (some .boolean)) (hdx : dX X = 11) {r : Bool × Hp} (k1 : Nat) (hk1 : isCity k1) (h : Hp) (hf : f_X2_readHouse k1 h = some r) : J X ((.inl (some (.int (b2i r.1))), r.2)) 0 [(0, .ref 2), (1, .ref k1)] [] h := by
  unfold f_X2_readHouse at hf
  refine J_aload_n hX 0 dX2_readHouse_0 rfl rfl ?_
  refine J_ldcS hX 1001 dX2_readHouse_1 rfl rfl ?_
  obtain ⟨r_1, e_2, hf⟩ := bdE hf
  refine V_1 hX [.ref 1001] dX2_readHouse_3 cw_X2_80 ob_2 rfl (C_X10_needs (okG hX) (isStr_of (by decide)) e_2) (ltD hdx rfl) rfl rfl rfl rfl ?_
  rcases ifE hf with ⟨c_3, hf⟩ | ⟨c_3, hf⟩
  · refine J_if_eqF hX 19 dX2_readHouse_6 rfl (b2iT c_3) ?_
    refine J_aload_n hX 0 dX2_readHouse_9 rfl rfl ?_
    refine J_iconst hX 1 dX2_readHouse_10 rfl ?_
    refine J_bipush hX 99 dX2_readHouse_11 rfl ?_
    obtain ⟨r_4, e_5, hf⟩ := bdE hf
    refine V_1 hX [.int 1, .int 99] dX2_readHouse_13 cw_X2_62 ob_2 rfl (C_X10_takeNumber (okG hX) e_5) (ltD hdx rfl) rfl rfl rfl rfl ?_
    refine J_goto hX 20 dX2_readHouse_16 rfl ?_
    exact T_X2_readHouse_20 hX hdx k1 hk1 r_4.1 r_4.2 hf
  · refine J_if_eqT hX 19 dX2_readHouse_6 rfl (b2iF c_3) ?_
    refine J_iconst hX (-1) dX2_readHouse_19 rfl ?_
    exact T_X2_readHouse_20 hX hdx k1 hk1 (-1) r_1.2 hf
set_option maxRecDepth 100000 in
set_option maxHeartbeats 200000 in
theorem C_X2_readHouse {G : GX} (hG : GOk G) {k1 : Nat} {h : Hp} {r : Bool × Hp} (hk1 : isCity k1) (hf : f_X2_readHouse k1 h = some r) : Ctr G 11 yX2_readHouse cX2_readHouse 6 (some .boolean) [.ref 2, .ref k1] h ((.inl (some (.int (b2i r.1))), r.2)) :=
  Ctr_of hG RX2 rfl (by decide) rfl (fun X _ hdx hX => T_X2_readHouse_0 hX hdx k1 hk1 h hf)
theorem dX10_failAt_0 : decode cX10_failAt 0 = .ok (.aload_n 0, 1) := by decide +kernel
theorem dX10_failAt_1 : decode cX10_failAt 1 = .ok (.iload_n 1, 1) := by decide +kernel
theorem dX10_failAt_2 : decode cX10_failAt 2 = .ok (.putfield 15, 3) := by decide +kernel
theorem dX10_failAt_5 : decode cX10_failAt 5 = .ok (.iconst 0, 1) := by decide +kernel
theorem dX10_failAt_6 : decode cX10_failAt 6 = .ok (.ireturn, 1) := by decide +kernel
set_option maxRecDepth 100000 in
set_option maxHeartbeats 200000 in
theorem T_X10_failAt_0 {X : CX} (hX : Ok X cX10_failAt 2 RX10 (some .boolean)) (hdx : dX X = 2) {r : Bool × Hp} (x1 : Int32) (h : Hp) (hf : f_X10_failAt x1 h = some r) : J X ((.inl (some (.int (b2i r.1))), r.2)) 0 [(0, .ref 2), (1, .int x1)] [] h := by
  unfold f_X10_failAt at hf
  refine J_aload_n hX 0 dX10_failAt_0 rfl rfl ?_
  refine J_iload_n hX 1 dX10_failAt_1 rfl rfl ?_
  obtain ⟨h_1, e_2, hf⟩ := bndE hf
  refine J_putI hX dX10_failAt_2 fl_X10_15 fw_8_2 ob_2 rfl rfl rfl ?_
  refine J_nmh e_2 ?_
  refine J_iconst hX 0 dX10_failAt_5 rfl ?_
  exact E_Zi hX dX10_failAt_6 rfl hf
set_option maxRecDepth 100000 in
set_option maxHeartbeats 200000 in
theorem C_X10_failAt {G : GX} (hG : GOk G) {x1 : Int32} {h : Hp} {r : Bool × Hp} (hf : f_X10_failAt x1 h = some r) : Ctr G 2 yX10_failAt cX10_failAt 2 (some .boolean) [.ref 2, .int x1] h ((.inl (some (.int (b2i r.1))), r.2)) :=
  Ctr_of hG RX10 rfl (by decide) rfl (fun X _ hdx hX => T_X10_failAt_0 hX hdx x1 h hf)
theorem dX2_readStanding_0 : decode cX2_readStanding 0 = .ok (.aload_n 0, 1) := by decide +kernel
theorem dX2_readStanding_1 : decode cX2_readStanding 1 = .ok (.getfield 31, 3) := by decide +kernel
theorem dX2_readStanding_4 : decode cX2_readStanding 4 = .ok (.istore_n 2, 1) := by decide +kernel
theorem dX2_readStanding_5 : decode cX2_readStanding 5 = .ok (.aload_n 0, 1) := by decide +kernel
theorem dX2_readStanding_6 : decode cX2_readStanding 6 = .ok (.iconst 0, 1) := by decide +kernel
theorem dX2_readStanding_7 : decode cX2_readStanding 7 = .ok (.aload_n 1, 1) := by decide +kernel
theorem dX2_readStanding_8 : decode cX2_readStanding 8 = .ok (.getfield 41, 3) := by decide +kernel
theorem dX2_readStanding_11 : decode cX2_readStanding 11 = .ok (.iconst 1, 1) := by decide +kernel
theorem dX2_readStanding_12 : decode cX2_readStanding 12 = .ok (.isub, 1) := by decide +kernel
theorem dX2_readStanding_13 : decode cX2_readStanding 13 = .ok (.invokevirtual 62, 3) := by decide +kernel
theorem dX2_readStanding_16 : decode cX2_readStanding 16 = .ok (.istore_n 3, 1) := by decide +kernel
theorem dX2_readStanding_17 : decode cX2_readStanding 17 = .ok (.iload_n 3, 1) := by decide +kernel
theorem dX2_readStanding_18 : decode cX2_readStanding 18 = .ok (.iconst (-1), 1) := by decide +kernel
theorem dX2_readStanding_19 : decode cX2_readStanding 19 = .ok (.if_icmp .eq 19, 3) := by decide +kernel
theorem dX2_readStanding_22 : decode cX2_readStanding 22 = .ok (.aload_n 1, 1) := by decide +kernel
theorem dX2_readStanding_23 : decode cX2_readStanding 23 = .ok (.iload_n 3, 1) := by decide +kernel
theorem dX2_readStanding_24 : decode cX2_readStanding 24 = .ok (.invokevirtual 121, 3) := by decide +kernel
theorem dX2_readStanding_27 : decode cX2_readStanding 27 = .ok (.ifCond .ne 11, 3) := by decide +kernel
theorem dX2_readStanding_30 : decode cX2_readStanding 30 = .ok (.aload_n 0, 1) := by decide +kernel
theorem dX2_readStanding_31 : decode cX2_readStanding 31 = .ok (.iload_n 2, 1) := by decide +kernel
theorem dX2_readStanding_32 : decode cX2_readStanding 32 = .ok (.invokevirtual 49, 3) := by decide +kernel
theorem dX2_readStanding_35 : decode cX2_readStanding 35 = .ok (.pop, 1) := by decide +kernel
theorem dX2_readStanding_36 : decode cX2_readStanding 36 = .ok (.iconst (-1), 1) := by decide +kernel
theorem dX2_readStanding_37 : decode cX2_readStanding 37 = .ok (.ireturn, 1) := by decide +kernel
theorem dX2_readStanding_38 : decode cX2_readStanding 38 = .ok (.iload_n 3, 1) := by decide +kernel
theorem dX2_readStanding_39 : decode cX2_readStanding 39 = .ok (.ireturn, 1) := by decide +kernel
set_option maxRecDepth 100000 in
set_option maxHeartbeats 200000 in
theorem T_X2_readStanding_0 {X : CX} (hX : Ok X cX2_readStanding 4 RX2 (some .int)) (hdx : dX X = 4) {r : Int32 × Hp} (k1 : Nat) (hk1 : isCity k1) (h : Hp) (hf : f_X2_readStanding k1 h = some r) : J X ((.inl (some (.int r.1)), r.2)) 0 [(0, .ref 2), (1, .ref k1)] [] h := by
  unfold f_X2_readStanding at hf
  refine J_aload_n hX 0 dX2_readStanding_0 rfl rfl ?_
  refine J_getI hX dX2_readStanding_1 fl_X2_31 ob_2 rfl ?_
  refine J_istore_n hX [(2, .int (h 2 3)), (0, .ref 2), (1, .ref k1)] dX2_readStanding_4 rfl rfl rfl ?_
  refine J_aload_n hX 1 dX2_readStanding_5 rfl rfl ?_
  refine J_iconst hX 0 dX2_readStanding_6 rfl ?_
  refine J_aload_n hX 2 dX2_readStanding_7 rfl rfl ?_
  refine J_getI hX dX2_readStanding_8 fl_X2_41 (city_ob hk1) rfl ?_
  refine J_iconst hX 1 dX2_readStanding_11 rfl ?_
  refine J_isub hX dX2_readStanding_12 ?_
  obtain ⟨r_1, e_2, hf⟩ := bdE hf
  refine V_1 hX [.int 0, .int ((h k1 9) - 1)] dX2_readStanding_13 cw_X2_62 ob_2 rfl (C_X10_takeNumber (okG hX) e_2) (ltD hdx rfl) rfl rfl rfl rfl ?_
  refine J_istore_n hX [(3, .int r_1.1), (2, .int (h 2 3)), (0, .ref 2), (1, .ref k1)] dX2_readStanding_16 rfl rfl rfl ?_
  refine J_iload_n hX 0 dX2_readStanding_17 rfl rfl ?_
  refine J_iconst hX (-1) dX2_readStanding_18 rfl ?_
  rcases ifE hf with ⟨c_3, hf⟩ | ⟨c_3, hf⟩
  · refine J_icmp_eqT hX 38 dX2_readStanding_19 rfl c_3 ?_
    refine J_iload_n hX 0 dX2_readStanding_38 rfl rfl ?_
    exact E_Ii hX dX2_readStanding_39 hf
  · refine J_icmp_eqF hX 38 dX2_readStanding_19 rfl c_3 ?_
    refine J_aload_n hX 3 dX2_readStanding_22 rfl rfl ?_
    refine J_iload_n hX 0 dX2_readStanding_23 rfl rfl ?_
    refine V_1 hX [.int r_1.1] dX2_readStanding_24 cw_X2_121 (city_ob hk1) rfl (C_X1_isUp (okG hX) hk1 rfl) (ltD hdx rfl) rfl rfl rfl rfl ?_
    rcases ifE hf with ⟨c_4, hf⟩ | ⟨c_4, hf⟩
    · refine J_if_neT hX 38 dX2_readStanding_27 rfl (b2iT c_4) ?_
      refine J_iload_n hX 0 dX2_readStanding_38 rfl rfl ?_
      exact E_Ii hX dX2_readStanding_39 hf
    · refine J_if_neF hX 38 dX2_readStanding_27 rfl (b2iF c_4) ?_
      refine J_aload_n hX 2 dX2_readStanding_30 rfl rfl ?_
      refine J_iload_n hX 1 dX2_readStanding_31 rfl rfl ?_
      obtain ⟨r_5, e_6, hf⟩ := bdE hf
      refine V_1 hX [.int (h 2 3)] dX2_readStanding_32 cw_X2_49 ob_2 rfl (C_X10_failAt (okG hX) e_6) (ltD hdx rfl) rfl rfl rfl rfl ?_
      refine J_pop hX dX2_readStanding_35 rfl ?_
      refine J_iconst hX (-1) dX2_readStanding_36 rfl ?_
      exact E_Ii hX dX2_readStanding_37 hf
set_option maxRecDepth 100000 in
set_option maxHeartbeats 200000 in
theorem C_X2_readStanding {G : GX} (hG : GOk G) {k1 : Nat} {h : Hp} {r : Int32 × Hp} (hk1 : isCity k1) (hf : f_X2_readStanding k1 h = some r) : Ctr G 4 yX2_readStanding cX2_readStanding 4 (some .int) [.ref 2, .ref k1] h ((.inl (some (.int r.1)), r.2)) :=
  Ctr_of hG RX2 rfl (by decide) rfl (fun X _ hdx hX => T_X2_readStanding_0 hX hdx k1 hk1 h hf)
theorem dX10_takeDays_0 : decode cX10_takeDays 0 = .ok (.iconst 0, 1) := by decide +kernel
theorem dX10_takeDays_1 : decode cX10_takeDays 1 = .ok (.istore_n 1, 1) := by decide +kernel
theorem dX10_takeDays_2 : decode cX10_takeDays 2 = .ok (.aload_n 0, 1) := by decide +kernel
theorem dX10_takeDays_3 : decode cX10_takeDays 3 = .ok (.getfield 19, 3) := by decide +kernel
theorem dX10_takeDays_6 : decode cX10_takeDays 6 = .ok (.sipush 257, 3) := by decide +kernel
theorem dX10_takeDays_9 : decode cX10_takeDays 9 = .ok (.if_icmp .ne 21, 3) := by decide +kernel
theorem dX10_takeDays_12 : decode cX10_takeDays 12 = .ok (.aload_n 0, 1) := by decide +kernel
theorem dX10_takeDays_13 : decode cX10_takeDays 13 = .ok (.getfield 25, 3) := by decide +kernel
theorem dX10_takeDays_16 : decode cX10_takeDays 16 = .ok (.aload_n 0, 1) := by decide +kernel
theorem dX10_takeDays_17 : decode cX10_takeDays 17 = .ok (.getfield 40, 3) := by decide +kernel
theorem dX10_takeDays_20 : decode cX10_takeDays 20 = .ok (.isub, 1) := by decide +kernel
theorem dX10_takeDays_21 : decode cX10_takeDays 21 = .ok (.bipush 7, 2) := by decide +kernel
theorem dX10_takeDays_23 : decode cX10_takeDays 23 = .ok (.if_icmp .ne 7, 3) := by decide +kernel
theorem dX10_takeDays_26 : decode cX10_takeDays 26 = .ok (.iconst 1, 1) := by decide +kernel
theorem dX10_takeDays_27 : decode cX10_takeDays 27 = .ok (.goto 4, 3) := by decide +kernel
theorem dX10_takeDays_30 : decode cX10_takeDays 30 = .ok (.iconst 0, 1) := by decide +kernel
theorem dX10_takeDays_31 : decode cX10_takeDays 31 = .ok (.istore_n 2, 1) := by decide +kernel
theorem dX10_takeDays_32 : decode cX10_takeDays 32 = .ok (.iconst 0, 1) := by decide +kernel
theorem dX10_takeDays_33 : decode cX10_takeDays 33 = .ok (.istore_n 3, 1) := by decide +kernel
theorem dX10_takeDays_34 : decode cX10_takeDays 34 = .ok (.iload_n 2, 1) := by decide +kernel
theorem dX10_takeDays_35 : decode cX10_takeDays 35 = .ok (.ifCond .eq 54, 3) := by decide +kernel
theorem dX10_takeDays_38 : decode cX10_takeDays 38 = .ok (.iload_n 3, 1) := by decide +kernel
theorem dX10_takeDays_39 : decode cX10_takeDays 39 = .ok (.bipush 7, 2) := by decide +kernel
theorem dX10_takeDays_41 : decode cX10_takeDays 41 = .ok (.if_icmp .ge 48, 3) := by decide +kernel
theorem dX10_takeDays_44 : decode cX10_takeDays 44 = .ok (.aload_n 0, 1) := by decide +kernel
theorem dX10_takeDays_45 : decode cX10_takeDays 45 = .ok (.aload_n 0, 1) := by decide +kernel
theorem dX10_takeDays_46 : decode cX10_takeDays 46 = .ok (.getfield 40, 3) := by decide +kernel
theorem dX10_takeDays_49 : decode cX10_takeDays 49 = .ok (.iload_n 3, 1) := by decide +kernel
theorem dX10_takeDays_50 : decode cX10_takeDays 50 = .ok (.iadd, 1) := by decide +kernel
theorem dX10_takeDays_51 : decode cX10_takeDays 51 = .ok (.invokevirtual 69, 3) := by decide +kernel
theorem dX10_takeDays_54 : decode cX10_takeDays 54 = .ok (.bipush 48, 2) := by decide +kernel
theorem dX10_takeDays_56 : decode cX10_takeDays 56 = .ok (.isub, 1) := by decide +kernel
theorem dX10_takeDays_57 : decode cX10_takeDays 57 = .ok (.istore 4, 2) := by decide +kernel
theorem dX10_takeDays_59 : decode cX10_takeDays 59 = .ok (.iload 4, 2) := by decide +kernel
theorem dX10_takeDays_61 : decode cX10_takeDays 61 = .ok (.ifCond .eq 9, 3) := by decide +kernel
theorem dX10_takeDays_64 : decode cX10_takeDays 64 = .ok (.iload 4, 2) := by decide +kernel
theorem dX10_takeDays_66 : decode cX10_takeDays 66 = .ok (.iconst 1, 1) := by decide +kernel
theorem dX10_takeDays_67 : decode cX10_takeDays 67 = .ok (.if_icmp .ne 7, 3) := by decide +kernel
theorem dX10_takeDays_70 : decode cX10_takeDays 70 = .ok (.iconst 1, 1) := by decide +kernel
theorem dX10_takeDays_71 : decode cX10_takeDays 71 = .ok (.goto 4, 3) := by decide +kernel
theorem dX10_takeDays_74 : decode cX10_takeDays 74 = .ok (.iconst 0, 1) := by decide +kernel
theorem dX10_takeDays_75 : decode cX10_takeDays 75 = .ok (.istore_n 2, 1) := by decide +kernel
theorem dX10_takeDays_76 : decode cX10_takeDays 76 = .ok (.iload_n 1, 1) := by decide +kernel
theorem dX10_takeDays_77 : decode cX10_takeDays 77 = .ok (.iload 4, 2) := by decide +kernel
theorem dX10_takeDays_79 : decode cX10_takeDays 79 = .ok (.iload_n 3, 1) := by decide +kernel
theorem dX10_takeDays_80 : decode cX10_takeDays 80 = .ok (.ishl, 1) := by decide +kernel
theorem dX10_takeDays_81 : decode cX10_takeDays 81 = .ok (.ior, 1) := by decide +kernel
theorem dX10_takeDays_82 : decode cX10_takeDays 82 = .ok (.istore_n 1, 1) := by decide +kernel
theorem dX10_takeDays_83 : decode cX10_takeDays 83 = .ok (.iinc 3 1, 3) := by decide +kernel
theorem dX10_takeDays_86 : decode cX10_takeDays 86 = .ok (.goto (-52), 3) := by decide +kernel
theorem dX10_takeDays_89 : decode cX10_takeDays 89 = .ok (.iload_n 2, 1) := by decide +kernel
theorem dX10_takeDays_90 : decode cX10_takeDays 90 = .ok (.ifCond .ne 10, 3) := by decide +kernel
theorem dX10_takeDays_93 : decode cX10_takeDays 93 = .ok (.aload_n 0, 1) := by decide +kernel
theorem dX10_takeDays_94 : decode cX10_takeDays 94 = .ok (.invokevirtual 62, 3) := by decide +kernel
theorem dX10_takeDays_97 : decode cX10_takeDays 97 = .ok (.pop, 1) := by decide +kernel
theorem dX10_takeDays_98 : decode cX10_takeDays 98 = .ok (.iconst (-1), 1) := by decide +kernel
theorem dX10_takeDays_99 : decode cX10_takeDays 99 = .ok (.ireturn, 1) := by decide +kernel
theorem dX10_takeDays_100 : decode cX10_takeDays 100 = .ok (.aload_n 0, 1) := by decide +kernel
theorem dX10_takeDays_101 : decode cX10_takeDays 101 = .ok (.invokevirtual 28, 3) := by decide +kernel
theorem dX10_takeDays_104 : decode cX10_takeDays 104 = .ok (.iload_n 1, 1) := by decide +kernel
theorem dX10_takeDays_105 : decode cX10_takeDays 105 = .ok (.ireturn, 1) := by decide +kernel
set_option maxRecDepth 100000 in
set_option maxHeartbeats 200000 in
theorem T_X10_takeDays_89 {X : CX} (hX : Ok X cX10_takeDays 5 RX10 (some .int)) (hdx : dX X = 3) {r : Int32 × Hp} (x1 : Int32) (x2 : Int32) (h : Hp) (hf : F_X10_takeDays_89 x1 x2 h = some r) : J X ((.inl (some (.int r.1)), r.2)) 89 [(0, .ref 2), (1, .int x1), (2, .int x2)] [] h := by
  unfold F_X10_takeDays_89 at hf
  refine J_iload_n hX 2 dX10_takeDays_89 rfl rfl ?_
  rcases ifE hf with ⟨c_1, hf⟩ | ⟨c_1, hf⟩
  · refine J_if_neF hX 100 dX10_takeDays_90 rfl c_1 ?_
    refine J_aload_n hX 0 dX10_takeDays_93 rfl rfl ?_
    obtain ⟨r_2, e_3, hf⟩ := bdE hf
    refine V_1 hX [] dX10_takeDays_94 cw_X10_62 ob_2 rfl (C_X10_fail (okG hX) e_3) (ltD hdx rfl) rfl rfl rfl rfl ?_
    refine J_pop hX dX10_takeDays_97 rfl ?_
    refine J_iconst hX (-1) dX10_takeDays_98 rfl ?_
    exact E_Ii hX dX10_takeDays_99 hf
  · refine J_if_neT hX 100 dX10_takeDays_90 rfl c_1 ?_
    refine J_aload_n hX 0 dX10_takeDays_100 rfl rfl ?_
    obtain ⟨r_4, e_5, hf⟩ := bdE hf
    refine V_0 hX [] dX10_takeDays_101 cw_X10_28 ob_2 rfl (C_X10_step (okG hX) e_5) (ltD hdx rfl) rfl rfl rfl rfl ?_
    refine J_iload_n hX 1 dX10_takeDays_104 rfl rfl ?_
    exact E_Ii hX dX10_takeDays_105 hf
set_option maxRecDepth 100000 in
set_option maxHeartbeats 200000 in
theorem T_X10_takeDays_75 {X : CX} (hX : Ok X cX10_takeDays 5 RX10 (some .int)) (hdx : dX X = 3) {r : Int32 × Hp} (x1 : Int32) (x3 : Int32) (x4 : Int32) (t0 : Int32) (q_34 : Int32 → Int32 → Int32 → Hp → Option (Int32 × Hp)) (hq_34 : ∀ (x1 : Int32) (x2 : Int32) (x3 : Int32) (h : Hp), q_34 x1 x2 x3 h = some r → J X ((.inl (some (.int r.1)), r.2)) 34 [(0, .ref 2), (1, .int x1), (2, .int x2), (3, .int x3)] [] h) (h : Hp) (hf : F_X10_takeDays_75 q_34 x1 x3 x4 t0 h = some r) : J X ((.inl (some (.int r.1)), r.2)) 75 [(0, .ref 2), (1, .int x1), (3, .int x3), (4, .int x4)] [.int t0] h := by
  unfold F_X10_takeDays_75 at hf
  refine J_istore_n hX [(2, .int t0), (0, .ref 2), (1, .int x1), (3, .int x3), (4, .int x4)] dX10_takeDays_75 rfl rfl rfl ?_
  refine J_iload_n hX 2 dX10_takeDays_76 rfl rfl ?_
  refine J_iload hX 4 dX10_takeDays_77 rfl ?_
  refine J_iload_n hX 3 dX10_takeDays_79 rfl rfl ?_
  refine J_ishl hX dX10_takeDays_80 ?_
  refine J_ior hX dX10_takeDays_81 ?_
  obtain ⟨x1_1, e_2, hf⟩ := bndE hf
  refine J_nm e_2 ?_
  refine J_istore_n hX [(1, .int x1_1), (2, .int t0), (0, .ref 2), (3, .int x3), (4, .int x4)] dX10_takeDays_82 rfl rfl rfl ?_
  refine J_iinc hX (x3 + 1) 3 [(3, .int (x3 + 1)), (1, .int x1_1), (2, .int t0), (0, .ref 2), (4, .int x4)] dX10_takeDays_83 rfl rfl rfl rfl ?_
  refine J_goto hX 34 dX10_takeDays_86 rfl ?_
  refine J_sub [3, 1, 2, 0] [(0, .ref 2), (1, .int x1_1), (2, .int t0), (3, .int (x3 + 1))] rfl ?_
  exact hq_34 x1_1 t0 (x3 + 1) h hf
set_option maxRecDepth 100000 in
set_option maxHeartbeats 200000 in
theorem T_X10_takeDays_34_s {X : CX} (hX : Ok X cX10_takeDays 5 RX10 (some .int)) (hdx : dX X = 3) {r : Int32 × Hp} (q_34 : Int32 → Int32 → Int32 → Hp → Option (Int32 × Hp)) (hq_34 : ∀ (x1 : Int32) (x2 : Int32) (x3 : Int32) (h : Hp), q_34 x1 x2 x3 h = some r → J X ((.inl (some (.int r.1)), r.2)) 34 [(0, .ref 2), (1, .int x1), (2, .int x2), (3, .int x3)] [] h) (x1 : Int32) (x2 : Int32) (x3 : Int32) (h : Hp) (hf : S_X10_takeDays_34 q_34 x1 x2 x3 h = some r) : J X ((.inl (some (.int r.1)), r.2)) 34 [(0, .ref 2), (1, .int x1), (2, .int x2), (3, .int x3)] [] h := by
  unfold S_X10_takeDays_34 at hf
  refine J_iload_n hX 2 dX10_takeDays_34 rfl rfl ?_
  rcases ifE hf with ⟨c_1, hf⟩ | ⟨c_1, hf⟩
  · refine J_if_eqT hX 89 dX10_takeDays_35 rfl c_1 ?_
    refine J_sub [0, 1, 2] [(0, .ref 2), (1, .int x1), (2, .int x2)] rfl ?_
    exact T_X10_takeDays_89 hX hdx x1 x2 h hf
  · refine J_if_eqF hX 89 dX10_takeDays_35 rfl c_1 ?_
    refine J_iload_n hX 3 dX10_takeDays_38 rfl rfl ?_
    refine J_bipush hX 7 dX10_takeDays_39 rfl ?_
    rcases ifE hf with ⟨c_2, hf⟩ | ⟨c_2, hf⟩
    · refine J_icmp_geF hX 89 dX10_takeDays_41 rfl c_2 ?_
      refine J_aload_n hX 0 dX10_takeDays_44 rfl rfl ?_
      refine J_aload_n hX 0 dX10_takeDays_45 rfl rfl ?_
      refine J_getI hX dX10_takeDays_46 fl_X10_40 ob_2 rfl ?_
      refine J_iload_n hX 3 dX10_takeDays_49 rfl rfl ?_
      refine J_iadd hX dX10_takeDays_50 ?_
      obtain ⟨r_3, e_4, hf⟩ := bdE hf
      refine V_1 hX [.int ((h 2 3) + x3)] dX10_takeDays_51 cw_X10_69 ob_2 rfl (C_X10_byteAt (okG hX) e_4) (ltD hdx rfl) rfl rfl rfl rfl ?_
      refine J_bipush hX 48 dX10_takeDays_54 rfl ?_
      refine J_isub hX dX10_takeDays_56 ?_
      refine J_istore hX [(4, .int (r_3 - 48)), (0, .ref 2), (1, .int x1), (2, .int x2), (3, .int x3)] dX10_takeDays_57 rfl rfl ?_
      refine J_iload hX 0 dX10_takeDays_59 rfl ?_
      rcases ifE hf with ⟨c_5, hf⟩ | ⟨c_5, hf⟩
      · refine J_if_eqT hX 70 dX10_takeDays_61 rfl c_5 ?_
        refine J_iconst hX 1 dX10_takeDays_70 rfl ?_
        refine J_goto hX 75 dX10_takeDays_71 rfl ?_
        refine J_sub [1, 2, 4, 0] [(0, .ref 2), (1, .int x1), (3, .int x3), (4, .int (r_3 - 48))] rfl ?_
        exact T_X10_takeDays_75 hX hdx x1 x3 (r_3 - 48) 1 q_34 hq_34 h hf
      · refine J_if_eqF hX 70 dX10_takeDays_61 rfl c_5 ?_
        refine J_iload hX 0 dX10_takeDays_64 rfl ?_
        refine J_iconst hX 1 dX10_takeDays_66 rfl ?_
        rcases ifE hf with ⟨c_6, hf⟩ | ⟨c_6, hf⟩
        · refine J_icmp_neF hX 74 dX10_takeDays_67 rfl c_6 ?_
          refine J_iconst hX 1 dX10_takeDays_70 rfl ?_
          refine J_goto hX 75 dX10_takeDays_71 rfl ?_
          refine J_sub [1, 2, 4, 0] [(0, .ref 2), (1, .int x1), (3, .int x3), (4, .int (r_3 - 48))] rfl ?_
          exact T_X10_takeDays_75 hX hdx x1 x3 (r_3 - 48) 1 q_34 hq_34 h hf
        · refine J_icmp_neT hX 74 dX10_takeDays_67 rfl c_6 ?_
          refine J_iconst hX 0 dX10_takeDays_74 rfl ?_
          refine J_sub [1, 2, 4, 0] [(0, .ref 2), (1, .int x1), (3, .int x3), (4, .int (r_3 - 48))] rfl ?_
          exact T_X10_takeDays_75 hX hdx x1 x3 (r_3 - 48) 0 q_34 hq_34 h hf
    · refine J_icmp_geT hX 89 dX10_takeDays_41 rfl c_2 ?_
      refine J_sub [0, 1, 2] [(0, .ref 2), (1, .int x1), (2, .int x2)] rfl ?_
      exact T_X10_takeDays_89 hX hdx x1 x2 h hf
set_option maxRecDepth 100000 in
set_option maxHeartbeats 200000 in
theorem T_X10_takeDays_34 {X : CX} (hX : Ok X cX10_takeDays 5 RX10 (some .int)) (hdx : dX X = 3) {r : Int32 × Hp} : ∀ (n : Nat) (x1 : Int32) (x2 : Int32) (x3 : Int32) (h : Hp), F_X10_takeDays_34 n x1 x2 x3 h = some r → J X ((.inl (some (.int r.1)), r.2)) 34 [(0, .ref 2), (1, .int x1), (2, .int x2), (3, .int x3)] [] h := by
  intro n
  induction n with
  | zero => intro x1 x2 x3 h hf; exact nomatch hf
  | succ n ih => intro x1 x2 x3 h hf; exact T_X10_takeDays_34_s hX hdx _ (fun x1 x2 x3 h hf => ih x1 x2 x3 h hf) x1 x2 x3 h hf
set_option maxRecDepth 100000 in
set_option maxHeartbeats 200000 in
theorem T_X10_takeDays_0 {X : CX} (hX : Ok X cX10_takeDays 5 RX10 (some .int)) (hdx : dX X = 3) {r : Int32 × Hp} (h : Hp) (hf : f_X10_takeDays h = some r) : J X ((.inl (some (.int r.1)), r.2)) 0 [(0, .ref 2)] [] h := by
  unfold f_X10_takeDays at hf
  refine J_iconst hX 0 dX10_takeDays_0 rfl ?_
  refine J_istore_n hX [(1, .int 0), (0, .ref 2)] dX10_takeDays_1 rfl rfl rfl ?_
  refine J_aload_n hX 1 dX10_takeDays_2 rfl rfl ?_
  refine J_getI hX dX10_takeDays_3 fl_X10_19 ob_2 rfl ?_
  refine J_sipush hX 257 dX10_takeDays_6 rfl ?_
  rcases ifE hf with ⟨c_1, hf⟩ | ⟨c_1, hf⟩
  · refine J_icmp_neF hX 30 dX10_takeDays_9 rfl c_1 ?_
    refine J_aload_n hX 1 dX10_takeDays_12 rfl rfl ?_
    refine J_getI hX dX10_takeDays_13 fl_X10_25 ob_2 rfl ?_
    refine J_aload_n hX 1 dX10_takeDays_16 rfl rfl ?_
    refine J_getI hX dX10_takeDays_17 fl_X10_40 ob_2 rfl ?_
    refine J_isub hX dX10_takeDays_20 ?_
    refine J_bipush hX 7 dX10_takeDays_21 rfl ?_
    rcases ifE hf with ⟨c_2, hf⟩ | ⟨c_2, hf⟩
    · refine J_icmp_neF hX 30 dX10_takeDays_23 rfl c_2 ?_
      refine J_iconst hX 1 dX10_takeDays_26 rfl ?_
      refine J_goto hX 31 dX10_takeDays_27 rfl ?_
      refine J_istore_n hX [(2, .int 1), (1, .int 0), (0, .ref 2)] dX10_takeDays_31 rfl rfl rfl ?_
      refine J_iconst hX 0 dX10_takeDays_32 rfl ?_
      refine J_istore_n hX [(3, .int 0), (2, .int 1), (1, .int 0), (0, .ref 2)] dX10_takeDays_33 rfl rfl rfl ?_
      refine J_sub [3, 2, 1, 0] [(0, .ref 2), (1, .int 0), (2, .int 1), (3, .int 0)] rfl ?_
      exact T_X10_takeDays_34 hX hdx FU 0 1 0 h hf
    · refine J_icmp_neT hX 30 dX10_takeDays_23 rfl c_2 ?_
      refine J_iconst hX 0 dX10_takeDays_30 rfl ?_
      refine J_istore_n hX [(2, .int 0), (1, .int 0), (0, .ref 2)] dX10_takeDays_31 rfl rfl rfl ?_
      refine J_iconst hX 0 dX10_takeDays_32 rfl ?_
      refine J_istore_n hX [(3, .int 0), (2, .int 0), (1, .int 0), (0, .ref 2)] dX10_takeDays_33 rfl rfl rfl ?_
      refine J_sub [3, 2, 1, 0] [(0, .ref 2), (1, .int 0), (2, .int 0), (3, .int 0)] rfl ?_
      exact T_X10_takeDays_34 hX hdx FU 0 0 0 h hf
  · refine J_icmp_neT hX 30 dX10_takeDays_9 rfl c_1 ?_
    refine J_iconst hX 0 dX10_takeDays_30 rfl ?_
    refine J_istore_n hX [(2, .int 0), (1, .int 0), (0, .ref 2)] dX10_takeDays_31 rfl rfl rfl ?_
    refine J_iconst hX 0 dX10_takeDays_32 rfl ?_
    refine J_istore_n hX [(3, .int 0), (2, .int 0), (1, .int 0), (0, .ref 2)] dX10_takeDays_33 rfl rfl rfl ?_
    refine J_sub [3, 2, 1, 0] [(0, .ref 2), (1, .int 0), (2, .int 0), (3, .int 0)] rfl ?_
    exact T_X10_takeDays_34 hX hdx FU 0 0 0 h hf
set_option maxRecDepth 100000 in
set_option maxHeartbeats 200000 in
theorem C_X10_takeDays {G : GX} (hG : GOk G) {h : Hp} {r : Int32 × Hp} (hf : f_X10_takeDays h = some r) : Ctr G 3 yX10_takeDays cX10_takeDays 5 (some .int) [.ref 2] h ((.inl (some (.int r.1)), r.2)) :=
  Ctr_of hG RX10 rfl (by decide) rfl (fun X _ hdx hX => T_X10_takeDays_0 hX hdx h hf)
theorem dX2_readPerson_0 : decode cX2_readPerson 0 = .ok (.aload_n 0, 1) := by decide +kernel
theorem dX2_readPerson_1 : decode cX2_readPerson 1 = .ok (.ldc 107, 2) := by decide +kernel
theorem dX2_readPerson_3 : decode cX2_readPerson 3 = .ok (.invokevirtual 80, 3) := by decide +kernel
theorem dX2_readPerson_6 : decode cX2_readPerson 6 = .ok (.ifCond .eq 11, 3) := by decide +kernel
theorem dX2_readPerson_9 : decode cX2_readPerson 9 = .ok (.aload_n 0, 1) := by decide +kernel
theorem dX2_readPerson_10 : decode cX2_readPerson 10 = .ok (.aload_n 1, 1) := by decide +kernel
theorem dX2_readPerson_11 : decode cX2_readPerson 11 = .ok (.invokestatic 97, 3) := by decide +kernel
theorem dX2_readPerson_14 : decode cX2_readPerson 14 = .ok (.goto 4, 3) := by decide +kernel
theorem dX2_readPerson_17 : decode cX2_readPerson 17 = .ok (.iconst (-1), 1) := by decide +kernel
theorem dX2_readPerson_18 : decode cX2_readPerson 18 = .ok (.istore_n 2, 1) := by decide +kernel
theorem dX2_readPerson_19 : decode cX2_readPerson 19 = .ok (.iload_n 2, 1) := by decide +kernel
theorem dX2_readPerson_20 : decode cX2_readPerson 20 = .ok (.iconst (-1), 1) := by decide +kernel
theorem dX2_readPerson_21 : decode cX2_readPerson 21 = .ok (.if_icmp .ne 5, 3) := by decide +kernel
theorem dX2_readPerson_24 : decode cX2_readPerson 24 = .ok (.iconst 0, 1) := by decide +kernel
theorem dX2_readPerson_25 : decode cX2_readPerson 25 = .ok (.ireturn, 1) := by decide +kernel
theorem dX2_readPerson_26 : decode cX2_readPerson 26 = .ok (.aload_n 0, 1) := by decide +kernel
theorem dX2_readPerson_27 : decode cX2_readPerson 27 = .ok (.ldc 109, 2) := by decide +kernel
theorem dX2_readPerson_29 : decode cX2_readPerson 29 = .ok (.invokevirtual 80, 3) := by decide +kernel
theorem dX2_readPerson_32 : decode cX2_readPerson 32 = .ok (.ifCond .eq 13, 3) := by decide +kernel
theorem dX2_readPerson_35 : decode cX2_readPerson 35 = .ok (.aload_n 0, 1) := by decide +kernel
theorem dX2_readPerson_36 : decode cX2_readPerson 36 = .ok (.iconst 0, 1) := by decide +kernel
theorem dX2_readPerson_37 : decode cX2_readPerson 37 = .ok (.bipush 99, 2) := by decide +kernel
theorem dX2_readPerson_39 : decode cX2_readPerson 39 = .ok (.invokevirtual 62, 3) := by decide +kernel
theorem dX2_readPerson_42 : decode cX2_readPerson 42 = .ok (.goto 4, 3) := by decide +kernel
theorem dX2_readPerson_45 : decode cX2_readPerson 45 = .ok (.iconst (-1), 1) := by decide +kernel
theorem dX2_readPerson_46 : decode cX2_readPerson 46 = .ok (.istore_n 3, 1) := by decide +kernel
theorem dX2_readPerson_47 : decode cX2_readPerson 47 = .ok (.iload_n 3, 1) := by decide +kernel
theorem dX2_readPerson_48 : decode cX2_readPerson 48 = .ok (.iconst (-1), 1) := by decide +kernel
theorem dX2_readPerson_49 : decode cX2_readPerson 49 = .ok (.if_icmp .ne 5, 3) := by decide +kernel
theorem dX2_readPerson_52 : decode cX2_readPerson 52 = .ok (.iconst 0, 1) := by decide +kernel
theorem dX2_readPerson_53 : decode cX2_readPerson 53 = .ok (.ireturn, 1) := by decide +kernel
theorem dX2_readPerson_54 : decode cX2_readPerson 54 = .ok (.aload_n 0, 1) := by decide +kernel
theorem dX2_readPerson_55 : decode cX2_readPerson 55 = .ok (.ldc 111, 2) := by decide +kernel
theorem dX2_readPerson_57 : decode cX2_readPerson 57 = .ok (.invokevirtual 88, 3) := by decide +kernel
theorem dX2_readPerson_60 : decode cX2_readPerson 60 = .ok (.ifCond .eq 10, 3) := by decide +kernel
theorem dX2_readPerson_63 : decode cX2_readPerson 63 = .ok (.aload_n 0, 1) := by decide +kernel
theorem dX2_readPerson_64 : decode cX2_readPerson 64 = .ok (.invokevirtual 113, 3) := by decide +kernel
theorem dX2_readPerson_67 : decode cX2_readPerson 67 = .ok (.goto 5, 3) := by decide +kernel
theorem dX2_readPerson_70 : decode cX2_readPerson 70 = .ok (.bipush 127, 2) := by decide +kernel
theorem dX2_readPerson_72 : decode cX2_readPerson 72 = .ok (.istore 4, 2) := by decide +kernel
theorem dX2_readPerson_74 : decode cX2_readPerson 74 = .ok (.iload 4, 2) := by decide +kernel
theorem dX2_readPerson_76 : decode cX2_readPerson 76 = .ok (.iconst (-1), 1) := by decide +kernel
theorem dX2_readPerson_77 : decode cX2_readPerson 77 = .ok (.if_icmp .eq 18, 3) := by decide +kernel
theorem dX2_readPerson_80 : decode cX2_readPerson 80 = .ok (.aload_n 1, 1) := by decide +kernel
theorem dX2_readPerson_81 : decode cX2_readPerson 81 = .ok (.iload_n 2, 1) := by decide +kernel
theorem dX2_readPerson_82 : decode cX2_readPerson 82 = .ok (.iload_n 3, 1) := by decide +kernel
theorem dX2_readPerson_83 : decode cX2_readPerson 83 = .ok (.iload 4, 2) := by decide +kernel
theorem dX2_readPerson_85 : decode cX2_readPerson 85 = .ok (.invokevirtual 117, 3) := by decide +kernel
theorem dX2_readPerson_88 : decode cX2_readPerson 88 = .ok (.ifCond .eq 7, 3) := by decide +kernel
theorem dX2_readPerson_91 : decode cX2_readPerson 91 = .ok (.iconst 1, 1) := by decide +kernel
theorem dX2_readPerson_92 : decode cX2_readPerson 92 = .ok (.goto 4, 3) := by decide +kernel
theorem dX2_readPerson_95 : decode cX2_readPerson 95 = .ok (.iconst 0, 1) := by decide +kernel
theorem dX2_readPerson_96 : decode cX2_readPerson 96 = .ok (.ireturn, 1) := by decide +kernel
set_option maxRecDepth 100000 in
set_option maxHeartbeats 200000 in
theorem T_X2_readPerson_72 {X : CX} (hX : Ok X cX2_readPerson 5 RX2 (some .boolean)) (hdx : dX X = 11) {r : Bool × Hp} (k1 : Nat) (hk1 : isCity k1) (x2 : Int32) (x3 : Int32) (t0 : Int32) (h : Hp) (hf : F_X2_readPerson_72 k1 x2 x3 t0 h = some r) : J X ((.inl (some (.int (b2i r.1))), r.2)) 72 [(1, .ref k1), (2, .int x2), (3, .int x3)] [.int t0] h := by
  unfold F_X2_readPerson_72 at hf
  refine J_istore hX [(4, .int t0), (1, .ref k1), (2, .int x2), (3, .int x3)] dX2_readPerson_72 rfl rfl ?_
  refine J_iload hX 0 dX2_readPerson_74 rfl ?_
  refine J_iconst hX (-1) dX2_readPerson_76 rfl ?_
  rcases ifE hf with ⟨c_1, hf⟩ | ⟨c_1, hf⟩
  · refine J_icmp_eqT hX 95 dX2_readPerson_77 rfl c_1 ?_
    refine J_iconst hX 0 dX2_readPerson_95 rfl ?_
    exact E_Zi hX dX2_readPerson_96 rfl hf
  · refine J_icmp_eqF hX 95 dX2_readPerson_77 rfl c_1 ?_
    refine J_aload_n hX 1 dX2_readPerson_80 rfl rfl ?_
    refine J_iload_n hX 2 dX2_readPerson_81 rfl rfl ?_
    refine J_iload_n hX 3 dX2_readPerson_82 rfl rfl ?_
    refine J_iload hX 0 dX2_readPerson_83 rfl ?_
    obtain ⟨r_2, e_3, hf⟩ := bdE hf
    refine V_1 hX [.int x2, .int x3, .int t0] dX2_readPerson_85 cw_X2_117 (city_ob hk1) rfl (C_X1_addPerson (okG hX) hk1 e_3) (ltD hdx rfl) rfl rfl rfl rfl ?_
    rcases ifE hf with ⟨c_4, hf⟩ | ⟨c_4, hf⟩
    · refine J_if_eqF hX 95 dX2_readPerson_88 rfl (b2iT c_4) ?_
      refine J_iconst hX 1 dX2_readPerson_91 rfl ?_
      refine J_goto hX 96 dX2_readPerson_92 rfl ?_
      exact E_Zi hX dX2_readPerson_96 rfl hf
    · refine J_if_eqT hX 95 dX2_readPerson_88 rfl (b2iF c_4) ?_
      refine J_iconst hX 0 dX2_readPerson_95 rfl ?_
      exact E_Zi hX dX2_readPerson_96 rfl hf
set_option maxRecDepth 100000 in
set_option maxHeartbeats 200000 in
theorem T_X2_readPerson_46 {X : CX} (hX : Ok X cX2_readPerson 5 RX2 (some .boolean)) (hdx : dX X = 11) {r : Bool × Hp} (k1 : Nat) (hk1 : isCity k1) (x2 : Int32) (t0 : Int32) (h : Hp) (hf : F_X2_readPerson_46 k1 x2 t0 h = some r) : J X ((.inl (some (.int (b2i r.1))), r.2)) 46 [(0, .ref 2), (1, .ref k1), (2, .int x2)] [.int t0] h := by
  unfold F_X2_readPerson_46 at hf
  refine J_istore_n hX [(3, .int t0), (0, .ref 2), (1, .ref k1), (2, .int x2)] dX2_readPerson_46 rfl rfl rfl ?_
  refine J_iload_n hX 0 dX2_readPerson_47 rfl rfl ?_
  refine J_iconst hX (-1) dX2_readPerson_48 rfl ?_
  rcases ifE hf with ⟨c_1, hf⟩ | ⟨c_1, hf⟩
  · refine J_icmp_neF hX 54 dX2_readPerson_49 rfl c_1 ?_
    refine J_iconst hX 0 dX2_readPerson_52 rfl ?_
    exact E_Zi hX dX2_readPerson_53 rfl hf
  · refine J_icmp_neT hX 54 dX2_readPerson_49 rfl c_1 ?_
    refine J_aload_n hX 1 dX2_readPerson_54 rfl rfl ?_
    refine J_ldcS hX 1007 dX2_readPerson_55 rfl rfl ?_
    obtain ⟨r_2, e_3, hf⟩ := bdE hf
    refine V_1 hX [.ref 1007] dX2_readPerson_57 cw_X2_88 ob_2 rfl (C_X10_takes (okG hX) (isStr_of (by decide)) e_3) (ltD hdx rfl) rfl rfl rfl rfl ?_
    rcases ifE hf with ⟨c_4, hf⟩ | ⟨c_4, hf⟩
    · refine J_if_eqF hX 70 dX2_readPerson_60 rfl (b2iT c_4) ?_
      refine J_aload_n hX 1 dX2_readPerson_63 rfl rfl ?_
      obtain ⟨r_5, e_6, hf⟩ := bdE hf
      refine V_1 hX [] dX2_readPerson_64 cw_X2_113 ob_2 rfl (C_X10_takeDays (okG hX) e_6) (ltD hdx rfl) rfl rfl rfl rfl ?_
      refine J_goto hX 72 dX2_readPerson_67 rfl ?_
      refine J_sub [2, 3, 0] [(1, .ref k1), (2, .int x2), (3, .int t0)] rfl ?_
      exact T_X2_readPerson_72 hX hdx k1 hk1 x2 t0 r_5.1 r_5.2 hf
    · refine J_if_eqT hX 70 dX2_readPerson_60 rfl (b2iF c_4) ?_
      refine J_bipush hX 127 dX2_readPerson_70 rfl ?_
      refine J_sub [2, 3, 0] [(1, .ref k1), (2, .int x2), (3, .int t0)] rfl ?_
      exact T_X2_readPerson_72 hX hdx k1 hk1 x2 t0 127 r_2.2 hf
set_option maxRecDepth 100000 in
set_option maxHeartbeats 200000 in
theorem T_X2_readPerson_18 {X : CX} (hX : Ok X cX2_readPerson 5 RX2 (some .boolean)) (hdx : dX X = 11) {r : Bool × Hp} (k1 : Nat) (hk1 : isCity k1) (t0 : Int32) (h : Hp) (hf : F_X2_readPerson_18 k1 t0 h = some r) : J X ((.inl (some (.int (b2i r.1))), r.2)) 18 [(0, .ref 2), (1, .ref k1)] [.int t0] h := by
  unfold F_X2_readPerson_18 at hf
  refine J_istore_n hX [(2, .int t0), (0, .ref 2), (1, .ref k1)] dX2_readPerson_18 rfl rfl rfl ?_
  refine J_iload_n hX 0 dX2_readPerson_19 rfl rfl ?_
  refine J_iconst hX (-1) dX2_readPerson_20 rfl ?_
  rcases ifE hf with ⟨c_1, hf⟩ | ⟨c_1, hf⟩
  · refine J_icmp_neF hX 26 dX2_readPerson_21 rfl c_1 ?_
    refine J_iconst hX 0 dX2_readPerson_24 rfl ?_
    exact E_Zi hX dX2_readPerson_25 rfl hf
  · refine J_icmp_neT hX 26 dX2_readPerson_21 rfl c_1 ?_
    refine J_aload_n hX 1 dX2_readPerson_26 rfl rfl ?_
    refine J_ldcS hX 1006 dX2_readPerson_27 rfl rfl ?_
    obtain ⟨r_2, e_3, hf⟩ := bdE hf
    refine V_1 hX [.ref 1006] dX2_readPerson_29 cw_X2_80 ob_2 rfl (C_X10_needs (okG hX) (isStr_of (by decide)) e_3) (ltD hdx rfl) rfl rfl rfl rfl ?_
    rcases ifE hf with ⟨c_4, hf⟩ | ⟨c_4, hf⟩
    · refine J_if_eqF hX 45 dX2_readPerson_32 rfl (b2iT c_4) ?_
      refine J_aload_n hX 1 dX2_readPerson_35 rfl rfl ?_
      refine J_iconst hX 0 dX2_readPerson_36 rfl ?_
      refine J_bipush hX 99 dX2_readPerson_37 rfl ?_
      obtain ⟨r_5, e_6, hf⟩ := bdE hf
      refine V_1 hX [.int 0, .int 99] dX2_readPerson_39 cw_X2_62 ob_2 rfl (C_X10_takeNumber (okG hX) e_6) (ltD hdx rfl) rfl rfl rfl rfl ?_
      refine J_goto hX 46 dX2_readPerson_42 rfl ?_
      refine J_sub [1, 2, 0] [(0, .ref 2), (1, .ref k1), (2, .int t0)] rfl ?_
      exact T_X2_readPerson_46 hX hdx k1 hk1 t0 r_5.1 r_5.2 hf
    · refine J_if_eqT hX 45 dX2_readPerson_32 rfl (b2iF c_4) ?_
      refine J_iconst hX (-1) dX2_readPerson_45 rfl ?_
      refine J_sub [1, 2, 0] [(0, .ref 2), (1, .ref k1), (2, .int t0)] rfl ?_
      exact T_X2_readPerson_46 hX hdx k1 hk1 t0 (-1) r_2.2 hf
set_option maxRecDepth 100000 in
set_option maxHeartbeats 200000 in
theorem T_X2_readPerson_0 {X : CX} (hX : Ok X cX2_readPerson 5 RX2 (some .boolean)) (hdx : dX X = 11) {r : Bool × Hp} (k1 : Nat) (hk1 : isCity k1) (h : Hp) (hf : f_X2_readPerson k1 h = some r) : J X ((.inl (some (.int (b2i r.1))), r.2)) 0 [(0, .ref 2), (1, .ref k1)] [] h := by
  unfold f_X2_readPerson at hf
  refine J_aload_n hX 0 dX2_readPerson_0 rfl rfl ?_
  refine J_ldcS hX 1005 dX2_readPerson_1 rfl rfl ?_
  obtain ⟨r_1, e_2, hf⟩ := bdE hf
  refine V_1 hX [.ref 1005] dX2_readPerson_3 cw_X2_80 ob_2 rfl (C_X10_needs (okG hX) (isStr_of (by decide)) e_2) (ltD hdx rfl) rfl rfl rfl rfl ?_
  rcases ifE hf with ⟨c_3, hf⟩ | ⟨c_3, hf⟩
  · refine J_if_eqF hX 17 dX2_readPerson_6 rfl (b2iT c_3) ?_
    refine J_aload_n hX 0 dX2_readPerson_9 rfl rfl ?_
    refine J_aload_n hX 1 dX2_readPerson_10 rfl rfl ?_
    obtain ⟨r_4, e_5, hf⟩ := bdE hf
    refine S_1 hX [.ref 2, .ref k1] dX2_readPerson_11 cw_X2_97 (C_X2_readStanding (okG hX) hk1 e_5) (ltD hdx rfl) rfl rfl rfl rfl ?_
    refine J_goto hX 18 dX2_readPerson_14 rfl ?_
    exact T_X2_readPerson_18 hX hdx k1 hk1 r_4.1 r_4.2 hf
  · refine J_if_eqT hX 17 dX2_readPerson_6 rfl (b2iF c_3) ?_
    refine J_iconst hX (-1) dX2_readPerson_17 rfl ?_
    exact T_X2_readPerson_18 hX hdx k1 hk1 (-1) r_1.2 hf
set_option maxRecDepth 100000 in
set_option maxHeartbeats 200000 in
theorem C_X2_readPerson {G : GX} (hG : GOk G) {k1 : Nat} {h : Hp} {r : Bool × Hp} (hk1 : isCity k1) (hf : f_X2_readPerson k1 h = some r) : Ctr G 11 yX2_readPerson cX2_readPerson 5 (some .boolean) [.ref 2, .ref k1] h ((.inl (some (.int (b2i r.1))), r.2)) :=
  Ctr_of hG RX2 rfl (by decide) rfl (fun X _ hdx hX => T_X2_readPerson_0 hX hdx k1 hk1 h hf)
theorem dX2_readLean_0 : decode cX2_readLean 0 = .ok (.aload_n 0, 1) := by decide +kernel
theorem dX2_readLean_1 : decode cX2_readLean 1 = .ok (.aload_n 1, 1) := by decide +kernel
theorem dX2_readLean_2 : decode cX2_readLean 2 = .ok (.invokestatic 97, 3) := by decide +kernel
theorem dX2_readLean_5 : decode cX2_readLean 5 = .ok (.istore_n 2, 1) := by decide +kernel
theorem dX2_readLean_6 : decode cX2_readLean 6 = .ok (.iload_n 2, 1) := by decide +kernel
theorem dX2_readLean_7 : decode cX2_readLean 7 = .ok (.iconst (-1), 1) := by decide +kernel
theorem dX2_readLean_8 : decode cX2_readLean 8 = .ok (.if_icmp .ne 5, 3) := by decide +kernel
theorem dX2_readLean_11 : decode cX2_readLean 11 = .ok (.iconst 0, 1) := by decide +kernel
theorem dX2_readLean_12 : decode cX2_readLean 12 = .ok (.ireturn, 1) := by decide +kernel
theorem dX2_readLean_13 : decode cX2_readLean 13 = .ok (.aload_n 0, 1) := by decide +kernel
theorem dX2_readLean_14 : decode cX2_readLean 14 = .ok (.getfield 31, 3) := by decide +kernel
theorem dX2_readLean_17 : decode cX2_readLean 17 = .ok (.istore_n 3, 1) := by decide +kernel
theorem dX2_readLean_18 : decode cX2_readLean 18 = .ok (.aload_n 0, 1) := by decide +kernel
theorem dX2_readLean_19 : decode cX2_readLean 19 = .ok (.aload_n 1, 1) := by decide +kernel
theorem dX2_readLean_20 : decode cX2_readLean 20 = .ok (.invokestatic 97, 3) := by decide +kernel
theorem dX2_readLean_23 : decode cX2_readLean 23 = .ok (.istore 4, 2) := by decide +kernel
theorem dX2_readLean_25 : decode cX2_readLean 25 = .ok (.iload 4, 2) := by decide +kernel
theorem dX2_readLean_27 : decode cX2_readLean 27 = .ok (.iconst (-1), 1) := by decide +kernel
theorem dX2_readLean_28 : decode cX2_readLean 28 = .ok (.if_icmp .ne 5, 3) := by decide +kernel
theorem dX2_readLean_31 : decode cX2_readLean 31 = .ok (.iconst 0, 1) := by decide +kernel
theorem dX2_readLean_32 : decode cX2_readLean 32 = .ok (.ireturn, 1) := by decide +kernel
theorem dX2_readLean_33 : decode cX2_readLean 33 = .ok (.iload 4, 2) := by decide +kernel
theorem dX2_readLean_35 : decode cX2_readLean 35 = .ok (.iload_n 2, 1) := by decide +kernel
theorem dX2_readLean_36 : decode cX2_readLean 36 = .ok (.if_icmp .ne 9, 3) := by decide +kernel
theorem dX2_readLean_39 : decode cX2_readLean 39 = .ok (.aload_n 0, 1) := by decide +kernel
theorem dX2_readLean_40 : decode cX2_readLean 40 = .ok (.iload_n 3, 1) := by decide +kernel
theorem dX2_readLean_41 : decode cX2_readLean 41 = .ok (.invokevirtual 49, 3) := by decide +kernel
theorem dX2_readLean_44 : decode cX2_readLean 44 = .ok (.ireturn, 1) := by decide +kernel
theorem dX2_readLean_45 : decode cX2_readLean 45 = .ok (.aload_n 0, 1) := by decide +kernel
theorem dX2_readLean_46 : decode cX2_readLean 46 = .ok (.ldc 101, 2) := by decide +kernel
theorem dX2_readLean_48 : decode cX2_readLean 48 = .ok (.invokevirtual 80, 3) := by decide +kernel
theorem dX2_readLean_51 : decode cX2_readLean 51 = .ok (.ifCond .eq 13, 3) := by decide +kernel
theorem dX2_readLean_54 : decode cX2_readLean 54 = .ok (.aload_n 0, 1) := by decide +kernel
theorem dX2_readLean_55 : decode cX2_readLean 55 = .ok (.iconst 0, 1) := by decide +kernel
theorem dX2_readLean_56 : decode cX2_readLean 56 = .ok (.bipush 9, 2) := by decide +kernel
theorem dX2_readLean_58 : decode cX2_readLean 58 = .ok (.invokevirtual 62, 3) := by decide +kernel
theorem dX2_readLean_61 : decode cX2_readLean 61 = .ok (.goto 4, 3) := by decide +kernel
theorem dX2_readLean_64 : decode cX2_readLean 64 = .ok (.iconst (-1), 1) := by decide +kernel
theorem dX2_readLean_65 : decode cX2_readLean 65 = .ok (.istore 5, 2) := by decide +kernel
theorem dX2_readLean_67 : decode cX2_readLean 67 = .ok (.iload 5, 2) := by decide +kernel
theorem dX2_readLean_69 : decode cX2_readLean 69 = .ok (.iconst (-1), 1) := by decide +kernel
theorem dX2_readLean_70 : decode cX2_readLean 70 = .ok (.if_icmp .ne 5, 3) := by decide +kernel
theorem dX2_readLean_73 : decode cX2_readLean 73 = .ok (.iconst 0, 1) := by decide +kernel
theorem dX2_readLean_74 : decode cX2_readLean 74 = .ok (.ireturn, 1) := by decide +kernel
theorem dX2_readLean_75 : decode cX2_readLean 75 = .ok (.aload_n 1, 1) := by decide +kernel
theorem dX2_readLean_76 : decode cX2_readLean 76 = .ok (.iload_n 2, 1) := by decide +kernel
theorem dX2_readLean_77 : decode cX2_readLean 77 = .ok (.iload 4, 2) := by decide +kernel
theorem dX2_readLean_79 : decode cX2_readLean 79 = .ok (.iload 5, 2) := by decide +kernel
theorem dX2_readLean_81 : decode cX2_readLean 81 = .ok (.invokevirtual 103, 3) := by decide +kernel
theorem dX2_readLean_84 : decode cX2_readLean 84 = .ok (.iconst 1, 1) := by decide +kernel
theorem dX2_readLean_85 : decode cX2_readLean 85 = .ok (.ireturn, 1) := by decide +kernel
set_option maxRecDepth 100000 in
set_option maxHeartbeats 200000 in
theorem T_X2_readLean_65 {X : CX} (hX : Ok X cX2_readLean 6 RX2 (some .boolean)) (hdx : dX X = 11) {r : Bool × Hp} (k1 : Nat) (hk1 : isCity k1) (x2 : Int32) (x4 : Int32) (t0 : Int32) (h : Hp) (hf : F_X2_readLean_65 k1 x2 x4 t0 h = some r) : J X ((.inl (some (.int (b2i r.1))), r.2)) 65 [(1, .ref k1), (2, .int x2), (4, .int x4)] [.int t0] h := by
  unfold F_X2_readLean_65 at hf
  refine J_istore hX [(5, .int t0), (1, .ref k1), (2, .int x2), (4, .int x4)] dX2_readLean_65 rfl rfl ?_
  refine J_iload hX 0 dX2_readLean_67 rfl ?_
  refine J_iconst hX (-1) dX2_readLean_69 rfl ?_
  rcases ifE hf with ⟨c_1, hf⟩ | ⟨c_1, hf⟩
  · refine J_icmp_neF hX 75 dX2_readLean_70 rfl c_1 ?_
    refine J_iconst hX 0 dX2_readLean_73 rfl ?_
    exact E_Zi hX dX2_readLean_74 rfl hf
  · refine J_icmp_neT hX 75 dX2_readLean_70 rfl c_1 ?_
    refine J_aload_n hX 1 dX2_readLean_75 rfl rfl ?_
    refine J_iload_n hX 2 dX2_readLean_76 rfl rfl ?_
    refine J_iload hX 3 dX2_readLean_77 rfl ?_
    refine J_iload hX 0 dX2_readLean_79 rfl ?_
    obtain ⟨r_2, e_3, hf⟩ := bdE hf
    refine V_0 hX [.int x2, .int x4, .int t0] dX2_readLean_81 cw_X2_103 (city_ob hk1) rfl (C_X1_setPart (okG hX) hk1 e_3) (ltD hdx rfl) rfl rfl rfl rfl ?_
    refine J_iconst hX 1 dX2_readLean_84 rfl ?_
    exact E_Zi hX dX2_readLean_85 rfl hf
set_option maxRecDepth 100000 in
set_option maxHeartbeats 200000 in
theorem T_X2_readLean_0 {X : CX} (hX : Ok X cX2_readLean 6 RX2 (some .boolean)) (hdx : dX X = 11) {r : Bool × Hp} (k1 : Nat) (hk1 : isCity k1) (h : Hp) (hf : f_X2_readLean k1 h = some r) : J X ((.inl (some (.int (b2i r.1))), r.2)) 0 [(0, .ref 2), (1, .ref k1)] [] h := by
  unfold f_X2_readLean at hf
  refine J_aload_n hX 0 dX2_readLean_0 rfl rfl ?_
  refine J_aload_n hX 1 dX2_readLean_1 rfl rfl ?_
  obtain ⟨r_1, e_2, hf⟩ := bdE hf
  refine S_1 hX [.ref 2, .ref k1] dX2_readLean_2 cw_X2_97 (C_X2_readStanding (okG hX) hk1 e_2) (ltD hdx rfl) rfl rfl rfl rfl ?_
  refine J_istore_n hX [(2, .int r_1.1), (0, .ref 2), (1, .ref k1)] dX2_readLean_5 rfl rfl rfl ?_
  refine J_iload_n hX 0 dX2_readLean_6 rfl rfl ?_
  refine J_iconst hX (-1) dX2_readLean_7 rfl ?_
  rcases ifE hf with ⟨c_3, hf⟩ | ⟨c_3, hf⟩
  · refine J_icmp_neF hX 13 dX2_readLean_8 rfl c_3 ?_
    refine J_iconst hX 0 dX2_readLean_11 rfl ?_
    exact E_Zi hX dX2_readLean_12 rfl hf
  · refine J_icmp_neT hX 13 dX2_readLean_8 rfl c_3 ?_
    refine J_aload_n hX 1 dX2_readLean_13 rfl rfl ?_
    refine J_getI hX dX2_readLean_14 fl_X2_31 ob_2 rfl ?_
    obtain ⟨x3_4, e_5, hf⟩ := bndE hf
    refine J_nm e_5 ?_
    refine J_istore_n hX [(3, .int x3_4), (2, .int r_1.1), (0, .ref 2), (1, .ref k1)] dX2_readLean_17 rfl rfl rfl ?_
    refine J_aload_n hX 2 dX2_readLean_18 rfl rfl ?_
    refine J_aload_n hX 3 dX2_readLean_19 rfl rfl ?_
    obtain ⟨r_6, e_7, hf⟩ := bdE hf
    refine S_1 hX [.ref 2, .ref k1] dX2_readLean_20 cw_X2_97 (C_X2_readStanding (okG hX) hk1 e_7) (ltD hdx rfl) rfl rfl rfl rfl ?_
    refine J_istore hX [(4, .int r_6.1), (3, .int x3_4), (2, .int r_1.1), (0, .ref 2), (1, .ref k1)] dX2_readLean_23 rfl rfl ?_
    refine J_iload hX 0 dX2_readLean_25 rfl ?_
    refine J_iconst hX (-1) dX2_readLean_27 rfl ?_
    rcases ifE hf with ⟨c_8, hf⟩ | ⟨c_8, hf⟩
    · refine J_icmp_neF hX 33 dX2_readLean_28 rfl c_8 ?_
      refine J_iconst hX 0 dX2_readLean_31 rfl ?_
      exact E_Zi hX dX2_readLean_32 rfl hf
    · refine J_icmp_neT hX 33 dX2_readLean_28 rfl c_8 ?_
      refine J_iload hX 0 dX2_readLean_33 rfl ?_
      refine J_iload_n hX 2 dX2_readLean_35 rfl rfl ?_
      rcases ifE hf with ⟨c_9, hf⟩ | ⟨c_9, hf⟩
      · refine J_icmp_neF hX 45 dX2_readLean_36 rfl c_9 ?_
        refine J_aload_n hX 3 dX2_readLean_39 rfl rfl ?_
        refine J_iload_n hX 1 dX2_readLean_40 rfl rfl ?_
        obtain ⟨r_10, e_11, hf⟩ := bdE hf
        refine V_1 hX [.int x3_4] dX2_readLean_41 cw_X2_49 ob_2 rfl (C_X10_failAt (okG hX) e_11) (ltD hdx rfl) rfl rfl rfl rfl ?_
        exact E_Zi hX dX2_readLean_44 rfl hf
      · refine J_icmp_neT hX 45 dX2_readLean_36 rfl c_9 ?_
        refine J_aload_n hX 3 dX2_readLean_45 rfl rfl ?_
        refine J_ldcS hX 1008 dX2_readLean_46 rfl rfl ?_
        obtain ⟨r_12, e_13, hf⟩ := bdE hf
        refine V_1 hX [.ref 1008] dX2_readLean_48 cw_X2_80 ob_2 rfl (C_X10_needs (okG hX) (isStr_of (by decide)) e_13) (ltD hdx rfl) rfl rfl rfl rfl ?_
        rcases ifE hf with ⟨c_14, hf⟩ | ⟨c_14, hf⟩
        · refine J_if_eqF hX 64 dX2_readLean_51 rfl (b2iT c_14) ?_
          refine J_aload_n hX 3 dX2_readLean_54 rfl rfl ?_
          refine J_iconst hX 0 dX2_readLean_55 rfl ?_
          refine J_bipush hX 9 dX2_readLean_56 rfl ?_
          obtain ⟨r_15, e_16, hf⟩ := bdE hf
          refine V_1 hX [.int 0, .int 9] dX2_readLean_58 cw_X2_62 ob_2 rfl (C_X10_takeNumber (okG hX) e_16) (ltD hdx rfl) rfl rfl rfl rfl ?_
          refine J_goto hX 65 dX2_readLean_61 rfl ?_
          refine J_sub [4, 2, 0] [(1, .ref k1), (2, .int r_1.1), (4, .int r_6.1)] rfl ?_
          exact T_X2_readLean_65 hX hdx k1 hk1 r_1.1 r_6.1 r_15.1 r_15.2 hf
        · refine J_if_eqT hX 64 dX2_readLean_51 rfl (b2iF c_14) ?_
          refine J_iconst hX (-1) dX2_readLean_64 rfl ?_
          refine J_sub [4, 2, 0] [(1, .ref k1), (2, .int r_1.1), (4, .int r_6.1)] rfl ?_
          exact T_X2_readLean_65 hX hdx k1 hk1 r_1.1 r_6.1 (-1) r_12.2 hf
set_option maxRecDepth 100000 in
set_option maxHeartbeats 200000 in
theorem C_X2_readLean {G : GX} (hG : GOk G) {k1 : Nat} {h : Hp} {r : Bool × Hp} (hk1 : isCity k1) (hf : f_X2_readLean k1 h = some r) : Ctr G 11 yX2_readLean cX2_readLean 6 (some .boolean) [.ref 2, .ref k1] h ((.inl (some (.int (b2i r.1))), r.2)) :=
  Ctr_of hG RX2 rfl (by decide) rfl (fun X _ hdx hX => T_X2_readLean_0 hX hdx k1 hk1 h hf)
theorem dX2_readLine_0 : decode cX2_readLine 0 = .ok (.aload_n 0, 1) := by decide +kernel
theorem dX2_readLine_1 : decode cX2_readLine 1 = .ok (.getfield 31, 3) := by decide +kernel
theorem dX2_readLine_4 : decode cX2_readLine 4 = .ok (.istore_n 2, 1) := by decide +kernel
theorem dX2_readLine_5 : decode cX2_readLine 5 = .ok (.aload_n 0, 1) := by decide +kernel
theorem dX2_readLine_6 : decode cX2_readLine 6 = .ok (.ldc 35, 2) := by decide +kernel
theorem dX2_readLine_8 : decode cX2_readLine 8 = .ok (.invokevirtual 37, 3) := by decide +kernel
theorem dX2_readLine_11 : decode cX2_readLine 11 = .ok (.tableswitch 194 0 6 #[41, 64, 87, 93, 118, 143, 168], 41) := by decide +kernel
theorem dX2_readLine_52 : decode cX2_readLine 52 = .ok (.aload_n 1, 1) := by decide +kernel
theorem dX2_readLine_53 : decode cX2_readLine 53 = .ok (.getfield 41, 3) := by decide +kernel
theorem dX2_readLine_56 : decode cX2_readLine 56 = .ok (.bipush 8, 2) := by decide +kernel
theorem dX2_readLine_58 : decode cX2_readLine 58 = .ok (.if_icmp .ge 11, 3) := by decide +kernel
theorem dX2_readLine_61 : decode cX2_readLine 61 = .ok (.aload_n 0, 1) := by decide +kernel
theorem dX2_readLine_62 : decode cX2_readLine 62 = .ok (.aload_n 1, 1) := by decide +kernel
theorem dX2_readLine_63 : decode cX2_readLine 63 = .ok (.invokestatic 46, 3) := by decide +kernel
theorem dX2_readLine_66 : decode cX2_readLine 66 = .ok (.goto 8, 3) := by decide +kernel
theorem dX2_readLine_69 : decode cX2_readLine 69 = .ok (.aload_n 0, 1) := by decide +kernel
theorem dX2_readLine_70 : decode cX2_readLine 70 = .ok (.iload_n 2, 1) := by decide +kernel
theorem dX2_readLine_71 : decode cX2_readLine 71 = .ok (.invokevirtual 49, 3) := by decide +kernel
theorem dX2_readLine_74 : decode cX2_readLine 74 = .ok (.ireturn, 1) := by decide +kernel
theorem dX2_readLine_75 : decode cX2_readLine 75 = .ok (.aload_n 1, 1) := by decide +kernel
theorem dX2_readLine_76 : decode cX2_readLine 76 = .ok (.getfield 53, 3) := by decide +kernel
theorem dX2_readLine_79 : decode cX2_readLine 79 = .ok (.bipush 6, 2) := by decide +kernel
theorem dX2_readLine_81 : decode cX2_readLine 81 = .ok (.if_icmp .ge 11, 3) := by decide +kernel
theorem dX2_readLine_84 : decode cX2_readLine 84 = .ok (.aload_n 0, 1) := by decide +kernel
theorem dX2_readLine_85 : decode cX2_readLine 85 = .ok (.aload_n 1, 1) := by decide +kernel
theorem dX2_readLine_86 : decode cX2_readLine 86 = .ok (.invokestatic 56, 3) := by decide +kernel
theorem dX2_readLine_89 : decode cX2_readLine 89 = .ok (.goto 8, 3) := by decide +kernel
theorem dX2_readLine_92 : decode cX2_readLine 92 = .ok (.aload_n 0, 1) := by decide +kernel
theorem dX2_readLine_93 : decode cX2_readLine 93 = .ok (.iload_n 2, 1) := by decide +kernel
theorem dX2_readLine_94 : decode cX2_readLine 94 = .ok (.invokevirtual 49, 3) := by decide +kernel
theorem dX2_readLine_97 : decode cX2_readLine 97 = .ok (.ireturn, 1) := by decide +kernel
theorem dX2_readLine_98 : decode cX2_readLine 98 = .ok (.aload_n 0, 1) := by decide +kernel
theorem dX2_readLine_99 : decode cX2_readLine 99 = .ok (.aload_n 1, 1) := by decide +kernel
theorem dX2_readLine_100 : decode cX2_readLine 100 = .ok (.invokestatic 59, 3) := by decide +kernel
theorem dX2_readLine_103 : decode cX2_readLine 103 = .ok (.ireturn, 1) := by decide +kernel
theorem dX2_readLine_104 : decode cX2_readLine 104 = .ok (.aload_n 1, 1) := by decide +kernel
theorem dX2_readLine_105 : decode cX2_readLine 105 = .ok (.aload_n 0, 1) := by decide +kernel
theorem dX2_readLine_106 : decode cX2_readLine 106 = .ok (.iconst 0, 1) := by decide +kernel
theorem dX2_readLine_107 : decode cX2_readLine 107 = .ok (.bipush 100, 2) := by decide +kernel
theorem dX2_readLine_109 : decode cX2_readLine 109 = .ok (.invokevirtual 62, 3) := by decide +kernel
theorem dX2_readLine_112 : decode cX2_readLine 112 = .ok (.putfield 66, 3) := by decide +kernel
theorem dX2_readLine_115 : decode cX2_readLine 115 = .ok (.aload_n 1, 1) := by decide +kernel
theorem dX2_readLine_116 : decode cX2_readLine 116 = .ok (.getfield 66, 3) := by decide +kernel
theorem dX2_readLine_119 : decode cX2_readLine 119 = .ok (.iconst (-1), 1) := by decide +kernel
theorem dX2_readLine_120 : decode cX2_readLine 120 = .ok (.if_icmp .eq 7, 3) := by decide +kernel
theorem dX2_readLine_123 : decode cX2_readLine 123 = .ok (.iconst 1, 1) := by decide +kernel
theorem dX2_readLine_124 : decode cX2_readLine 124 = .ok (.goto 4, 3) := by decide +kernel
theorem dX2_readLine_127 : decode cX2_readLine 127 = .ok (.iconst 0, 1) := by decide +kernel
theorem dX2_readLine_128 : decode cX2_readLine 128 = .ok (.ireturn, 1) := by decide +kernel
theorem dX2_readLine_129 : decode cX2_readLine 129 = .ok (.aload_n 1, 1) := by decide +kernel
theorem dX2_readLine_130 : decode cX2_readLine 130 = .ok (.aload_n 0, 1) := by decide +kernel
theorem dX2_readLine_131 : decode cX2_readLine 131 = .ok (.iconst 1, 1) := by decide +kernel
theorem dX2_readLine_132 : decode cX2_readLine 132 = .ok (.bipush 99, 2) := by decide +kernel
theorem dX2_readLine_134 : decode cX2_readLine 134 = .ok (.invokevirtual 62, 3) := by decide +kernel
theorem dX2_readLine_137 : decode cX2_readLine 137 = .ok (.putfield 69, 3) := by decide +kernel
theorem dX2_readLine_140 : decode cX2_readLine 140 = .ok (.aload_n 1, 1) := by decide +kernel
theorem dX2_readLine_141 : decode cX2_readLine 141 = .ok (.getfield 69, 3) := by decide +kernel
theorem dX2_readLine_144 : decode cX2_readLine 144 = .ok (.iconst (-1), 1) := by decide +kernel
theorem dX2_readLine_145 : decode cX2_readLine 145 = .ok (.if_icmp .eq 7, 3) := by decide +kernel
theorem dX2_readLine_148 : decode cX2_readLine 148 = .ok (.iconst 1, 1) := by decide +kernel
theorem dX2_readLine_149 : decode cX2_readLine 149 = .ok (.goto 4, 3) := by decide +kernel
theorem dX2_readLine_152 : decode cX2_readLine 152 = .ok (.iconst 0, 1) := by decide +kernel
theorem dX2_readLine_153 : decode cX2_readLine 153 = .ok (.ireturn, 1) := by decide +kernel
theorem dX2_readLine_154 : decode cX2_readLine 154 = .ok (.aload_n 1, 1) := by decide +kernel
theorem dX2_readLine_155 : decode cX2_readLine 155 = .ok (.aload_n 0, 1) := by decide +kernel
theorem dX2_readLine_156 : decode cX2_readLine 156 = .ok (.iconst 0, 1) := by decide +kernel
theorem dX2_readLine_157 : decode cX2_readLine 157 = .ok (.bipush 6, 2) := by decide +kernel
theorem dX2_readLine_159 : decode cX2_readLine 159 = .ok (.invokevirtual 62, 3) := by decide +kernel
theorem dX2_readLine_162 : decode cX2_readLine 162 = .ok (.putfield 72, 3) := by decide +kernel
theorem dX2_readLine_165 : decode cX2_readLine 165 = .ok (.aload_n 1, 1) := by decide +kernel
theorem dX2_readLine_166 : decode cX2_readLine 166 = .ok (.getfield 72, 3) := by decide +kernel
theorem dX2_readLine_169 : decode cX2_readLine 169 = .ok (.iconst (-1), 1) := by decide +kernel
theorem dX2_readLine_170 : decode cX2_readLine 170 = .ok (.if_icmp .eq 7, 3) := by decide +kernel
theorem dX2_readLine_173 : decode cX2_readLine 173 = .ok (.iconst 1, 1) := by decide +kernel
theorem dX2_readLine_174 : decode cX2_readLine 174 = .ok (.goto 4, 3) := by decide +kernel
theorem dX2_readLine_177 : decode cX2_readLine 177 = .ok (.iconst 0, 1) := by decide +kernel
theorem dX2_readLine_178 : decode cX2_readLine 178 = .ok (.ireturn, 1) := by decide +kernel
theorem dX2_readLine_179 : decode cX2_readLine 179 = .ok (.aload_n 1, 1) := by decide +kernel
theorem dX2_readLine_180 : decode cX2_readLine 180 = .ok (.aload_n 0, 1) := by decide +kernel
theorem dX2_readLine_181 : decode cX2_readLine 181 = .ok (.iconst 0, 1) := by decide +kernel
theorem dX2_readLine_182 : decode cX2_readLine 182 = .ok (.sipush 999, 3) := by decide +kernel
theorem dX2_readLine_185 : decode cX2_readLine 185 = .ok (.invokevirtual 62, 3) := by decide +kernel
theorem dX2_readLine_188 : decode cX2_readLine 188 = .ok (.putfield 75, 3) := by decide +kernel
theorem dX2_readLine_191 : decode cX2_readLine 191 = .ok (.aload_n 1, 1) := by decide +kernel
theorem dX2_readLine_192 : decode cX2_readLine 192 = .ok (.getfield 75, 3) := by decide +kernel
theorem dX2_readLine_195 : decode cX2_readLine 195 = .ok (.iconst (-1), 1) := by decide +kernel
theorem dX2_readLine_196 : decode cX2_readLine 196 = .ok (.if_icmp .eq 7, 3) := by decide +kernel
theorem dX2_readLine_199 : decode cX2_readLine 199 = .ok (.iconst 1, 1) := by decide +kernel
theorem dX2_readLine_200 : decode cX2_readLine 200 = .ok (.goto 4, 3) := by decide +kernel
theorem dX2_readLine_203 : decode cX2_readLine 203 = .ok (.iconst 0, 1) := by decide +kernel
theorem dX2_readLine_204 : decode cX2_readLine 204 = .ok (.ireturn, 1) := by decide +kernel
theorem dX2_readLine_205 : decode cX2_readLine 205 = .ok (.aload_n 0, 1) := by decide +kernel
theorem dX2_readLine_206 : decode cX2_readLine 206 = .ok (.invokevirtual 28, 3) := by decide +kernel
theorem dX2_readLine_209 : decode cX2_readLine 209 = .ok (.ireturn, 1) := by decide +kernel
set_option maxRecDepth 100000 in
set_option maxHeartbeats 200000 in
theorem T_X2_readLine_0 {X : CX} (hX : Ok X cX2_readLine 3 RX2 (some .boolean)) (hdx : dX X = 12) {r : Bool × Hp} (k1 : Nat) (hk1 : isCity k1) (h : Hp) (hf : f_X2_readLine k1 h = some r) : J X ((.inl (some (.int (b2i r.1))), r.2)) 0 [(0, .ref 2), (1, .ref k1)] [] h := by
  unfold f_X2_readLine at hf
  refine J_aload_n hX 0 dX2_readLine_0 rfl rfl ?_
  refine J_getI hX dX2_readLine_1 fl_X2_31 ob_2 rfl ?_
  refine J_istore_n hX [(2, .int (h 2 3)), (0, .ref 2), (1, .ref k1)] dX2_readLine_4 rfl rfl rfl ?_
  refine J_aload_n hX 1 dX2_readLine_5 rfl rfl ?_
  refine J_ldcS hX 1000 dX2_readLine_6 rfl rfl ?_
  obtain ⟨r_1, e_2, hf⟩ := bdE hf
  refine V_1 hX [.ref 1000] dX2_readLine_8 cw_X2_37 ob_2 rfl (C_X10_take (okG hX) (isStr_of (by decide)) e_2) (ltD hdx rfl) rfl rfl rfl rfl ?_
  rcases ifE hf with ⟨c_3, hf⟩ | ⟨c_3, hf⟩
  · refine J_nm c_3 ?_
    refine J_switchIn hX (off := 41) 52 dX2_readLine_11 (by decide) (by decide) (by decide) rfl ?_
    refine J_aload_n hX 2 dX2_readLine_52 rfl rfl ?_
    refine J_getI hX dX2_readLine_53 fl_X2_41 (city_ob hk1) rfl ?_
    refine J_bipush hX 8 dX2_readLine_56 rfl ?_
    rcases ifE hf with ⟨c_4, hf⟩ | ⟨c_4, hf⟩
    · refine J_icmp_geF hX 69 dX2_readLine_58 rfl c_4 ?_
      refine J_aload_n hX 1 dX2_readLine_61 rfl rfl ?_
      refine J_aload_n hX 2 dX2_readLine_62 rfl rfl ?_
      obtain ⟨r_5, e_6, hf⟩ := bdE hf
      refine S_1 hX [.ref 2, .ref k1] dX2_readLine_63 cw_X2_46 (C_X2_readHouse (okG hX) hk1 e_6) (ltD hdx rfl) rfl rfl rfl rfl ?_
      refine J_goto hX 74 dX2_readLine_66 rfl ?_
      exact E_Zi hX dX2_readLine_74 rfl hf
    · refine J_icmp_geT hX 69 dX2_readLine_58 rfl c_4 ?_
      refine J_aload_n hX 1 dX2_readLine_69 rfl rfl ?_
      refine J_iload_n hX 0 dX2_readLine_70 rfl rfl ?_
      obtain ⟨r_7, e_8, hf⟩ := bdE hf
      refine V_1 hX [.int (h 2 3)] dX2_readLine_71 cw_X2_49 ob_2 rfl (C_X10_failAt (okG hX) e_8) (ltD hdx rfl) rfl rfl rfl rfl ?_
      exact E_Zi hX dX2_readLine_74 rfl hf
  rcases ifE hf with ⟨c_9, hf⟩ | ⟨c_9, hf⟩
  · refine J_nm c_9 ?_
    refine J_switchIn hX (off := 64) 75 dX2_readLine_11 (by decide) (by decide) (by decide) rfl ?_
    refine J_aload_n hX 2 dX2_readLine_75 rfl rfl ?_
    refine J_getI hX dX2_readLine_76 fl_X2_53 (city_ob hk1) rfl ?_
    refine J_bipush hX 6 dX2_readLine_79 rfl ?_
    rcases ifE hf with ⟨c_10, hf⟩ | ⟨c_10, hf⟩
    · refine J_icmp_geF hX 92 dX2_readLine_81 rfl c_10 ?_
      refine J_aload_n hX 1 dX2_readLine_84 rfl rfl ?_
      refine J_aload_n hX 2 dX2_readLine_85 rfl rfl ?_
      obtain ⟨r_11, e_12, hf⟩ := bdE hf
      refine S_1 hX [.ref 2, .ref k1] dX2_readLine_86 cw_X2_56 (C_X2_readPerson (okG hX) hk1 e_12) (ltD hdx rfl) rfl rfl rfl rfl ?_
      refine J_goto hX 97 dX2_readLine_89 rfl ?_
      exact E_Zi hX dX2_readLine_97 rfl hf
    · refine J_icmp_geT hX 92 dX2_readLine_81 rfl c_10 ?_
      refine J_aload_n hX 1 dX2_readLine_92 rfl rfl ?_
      refine J_iload_n hX 0 dX2_readLine_93 rfl rfl ?_
      obtain ⟨r_13, e_14, hf⟩ := bdE hf
      refine V_1 hX [.int (h 2 3)] dX2_readLine_94 cw_X2_49 ob_2 rfl (C_X10_failAt (okG hX) e_14) (ltD hdx rfl) rfl rfl rfl rfl ?_
      exact E_Zi hX dX2_readLine_97 rfl hf
  rcases ifE hf with ⟨c_15, hf⟩ | ⟨c_15, hf⟩
  · refine J_nm c_15 ?_
    refine J_switchIn hX (off := 87) 98 dX2_readLine_11 (by decide) (by decide) (by decide) rfl ?_
    refine J_aload_n hX 1 dX2_readLine_98 rfl rfl ?_
    refine J_aload_n hX 2 dX2_readLine_99 rfl rfl ?_
    obtain ⟨r_16, e_17, hf⟩ := bdE hf
    refine S_1 hX [.ref 2, .ref k1] dX2_readLine_100 cw_X2_59 (C_X2_readLean (okG hX) hk1 e_17) (ltD hdx rfl) rfl rfl rfl rfl ?_
    exact E_Zi hX dX2_readLine_103 rfl hf
  rcases ifE hf with ⟨c_18, hf⟩ | ⟨c_18, hf⟩
  · refine J_nm c_18 ?_
    refine J_switchIn hX (off := 93) 104 dX2_readLine_11 (by decide) (by decide) (by decide) rfl ?_
    refine J_aload_n hX 2 dX2_readLine_104 rfl rfl ?_
    refine J_aload_n hX 1 dX2_readLine_105 rfl rfl ?_
    refine J_iconst hX 0 dX2_readLine_106 rfl ?_
    refine J_bipush hX 100 dX2_readLine_107 rfl ?_
    obtain ⟨r_19, e_20, hf⟩ := bdE hf
    refine V_1 hX [.int 0, .int 100] dX2_readLine_109 cw_X2_62 ob_2 rfl (C_X10_takeNumber (okG hX) e_20) (ltD hdx rfl) rfl rfl rfl rfl ?_
    obtain ⟨h_21, e_22, hf⟩ := bndE hf
    refine J_putI hX dX2_readLine_112 fl_X2_66 fw_1_14 (city_ob hk1) rfl rfl rfl ?_
    refine J_nmh e_22 ?_
    refine J_aload_n hX 2 dX2_readLine_115 rfl rfl ?_
    refine J_getI hX dX2_readLine_116 fl_X2_66 (city_ob hk1) rfl ?_
    refine J_iconst hX (-1) dX2_readLine_119 rfl ?_
    rcases ifE hf with ⟨c_23, hf⟩ | ⟨c_23, hf⟩
    · refine J_icmp_eqT hX 127 dX2_readLine_120 rfl c_23 ?_
      refine J_iconst hX 0 dX2_readLine_127 rfl ?_
      exact E_Zi hX dX2_readLine_128 rfl hf
    · refine J_icmp_eqF hX 127 dX2_readLine_120 rfl c_23 ?_
      refine J_iconst hX 1 dX2_readLine_123 rfl ?_
      refine J_goto hX 128 dX2_readLine_124 rfl ?_
      exact E_Zi hX dX2_readLine_128 rfl hf
  rcases ifE hf with ⟨c_24, hf⟩ | ⟨c_24, hf⟩
  · refine J_nm c_24 ?_
    refine J_switchIn hX (off := 118) 129 dX2_readLine_11 (by decide) (by decide) (by decide) rfl ?_
    refine J_aload_n hX 2 dX2_readLine_129 rfl rfl ?_
    refine J_aload_n hX 1 dX2_readLine_130 rfl rfl ?_
    refine J_iconst hX 1 dX2_readLine_131 rfl ?_
    refine J_bipush hX 99 dX2_readLine_132 rfl ?_
    obtain ⟨r_25, e_26, hf⟩ := bdE hf
    refine V_1 hX [.int 1, .int 99] dX2_readLine_134 cw_X2_62 ob_2 rfl (C_X10_takeNumber (okG hX) e_26) (ltD hdx rfl) rfl rfl rfl rfl ?_
    obtain ⟨h_27, e_28, hf⟩ := bndE hf
    refine J_putI hX dX2_readLine_137 fl_X2_69 fw_1_15 (city_ob hk1) rfl rfl rfl ?_
    refine J_nmh e_28 ?_
    refine J_aload_n hX 2 dX2_readLine_140 rfl rfl ?_
    refine J_getI hX dX2_readLine_141 fl_X2_69 (city_ob hk1) rfl ?_
    refine J_iconst hX (-1) dX2_readLine_144 rfl ?_
    rcases ifE hf with ⟨c_29, hf⟩ | ⟨c_29, hf⟩
    · refine J_icmp_eqT hX 152 dX2_readLine_145 rfl c_29 ?_
      refine J_iconst hX 0 dX2_readLine_152 rfl ?_
      exact E_Zi hX dX2_readLine_153 rfl hf
    · refine J_icmp_eqF hX 152 dX2_readLine_145 rfl c_29 ?_
      refine J_iconst hX 1 dX2_readLine_148 rfl ?_
      refine J_goto hX 153 dX2_readLine_149 rfl ?_
      exact E_Zi hX dX2_readLine_153 rfl hf
  rcases ifE hf with ⟨c_30, hf⟩ | ⟨c_30, hf⟩
  · refine J_nm c_30 ?_
    refine J_switchIn hX (off := 143) 154 dX2_readLine_11 (by decide) (by decide) (by decide) rfl ?_
    refine J_aload_n hX 2 dX2_readLine_154 rfl rfl ?_
    refine J_aload_n hX 1 dX2_readLine_155 rfl rfl ?_
    refine J_iconst hX 0 dX2_readLine_156 rfl ?_
    refine J_bipush hX 6 dX2_readLine_157 rfl ?_
    obtain ⟨r_31, e_32, hf⟩ := bdE hf
    refine V_1 hX [.int 0, .int 6] dX2_readLine_159 cw_X2_62 ob_2 rfl (C_X10_takeNumber (okG hX) e_32) (ltD hdx rfl) rfl rfl rfl rfl ?_
    obtain ⟨h_33, e_34, hf⟩ := bndE hf
    refine J_putI hX dX2_readLine_162 fl_X2_72 fw_1_12 (city_ob hk1) rfl rfl rfl ?_
    refine J_nmh e_34 ?_
    refine J_aload_n hX 2 dX2_readLine_165 rfl rfl ?_
    refine J_getI hX dX2_readLine_166 fl_X2_72 (city_ob hk1) rfl ?_
    refine J_iconst hX (-1) dX2_readLine_169 rfl ?_
    rcases ifE hf with ⟨c_35, hf⟩ | ⟨c_35, hf⟩
    · refine J_icmp_eqT hX 177 dX2_readLine_170 rfl c_35 ?_
      refine J_iconst hX 0 dX2_readLine_177 rfl ?_
      exact E_Zi hX dX2_readLine_178 rfl hf
    · refine J_icmp_eqF hX 177 dX2_readLine_170 rfl c_35 ?_
      refine J_iconst hX 1 dX2_readLine_173 rfl ?_
      refine J_goto hX 178 dX2_readLine_174 rfl ?_
      exact E_Zi hX dX2_readLine_178 rfl hf
  rcases ifE hf with ⟨c_36, hf⟩ | ⟨c_36, hf⟩
  · refine J_nm c_36 ?_
    refine J_switchIn hX (off := 168) 179 dX2_readLine_11 (by decide) (by decide) (by decide) rfl ?_
    refine J_aload_n hX 2 dX2_readLine_179 rfl rfl ?_
    refine J_aload_n hX 1 dX2_readLine_180 rfl rfl ?_
    refine J_iconst hX 0 dX2_readLine_181 rfl ?_
    refine J_sipush hX 999 dX2_readLine_182 rfl ?_
    obtain ⟨r_37, e_38, hf⟩ := bdE hf
    refine V_1 hX [.int 0, .int 999] dX2_readLine_185 cw_X2_62 ob_2 rfl (C_X10_takeNumber (okG hX) e_38) (ltD hdx rfl) rfl rfl rfl rfl ?_
    obtain ⟨h_39, e_40, hf⟩ := bndE hf
    refine J_putI hX dX2_readLine_188 fl_X2_75 fw_1_13 (city_ob hk1) rfl rfl rfl ?_
    refine J_nmh e_40 ?_
    refine J_aload_n hX 2 dX2_readLine_191 rfl rfl ?_
    refine J_getI hX dX2_readLine_192 fl_X2_75 (city_ob hk1) rfl ?_
    refine J_iconst hX (-1) dX2_readLine_195 rfl ?_
    rcases ifE hf with ⟨c_41, hf⟩ | ⟨c_41, hf⟩
    · refine J_icmp_eqT hX 203 dX2_readLine_196 rfl c_41 ?_
      refine J_iconst hX 0 dX2_readLine_203 rfl ?_
      exact E_Zi hX dX2_readLine_204 rfl hf
    · refine J_icmp_eqF hX 203 dX2_readLine_196 rfl c_41 ?_
      refine J_iconst hX 1 dX2_readLine_199 rfl ?_
      refine J_goto hX 204 dX2_readLine_200 rfl ?_
      exact E_Zi hX dX2_readLine_204 rfl hf
  refine J_switchOut hX 205 dX2_readLine_11 (sw_def 0 6 r_1.1 (fun v_ a_ b_ => ?_)) rfl ?_
  · rcases (show v_ = 0 ∨ v_ = 1 ∨ v_ = 2 ∨ v_ = 3 ∨ v_ = 4 ∨ v_ = 5 ∨ v_ = 6 by omega) with rfl | rfl | rfl | rfl | rfl | rfl | rfl
    · exact c_3
    · exact c_9
    · exact c_15
    · exact c_18
    · exact c_24
    · exact c_30
    · exact c_36
  refine J_aload_n hX 1 dX2_readLine_205 rfl rfl ?_
  obtain ⟨r_42, e_43, hf⟩ := bdE hf
  refine V_1 hX [] dX2_readLine_206 cw_X2_28 ob_2 rfl (C_X10_fail (okG hX) e_43) (ltD hdx rfl) rfl rfl rfl rfl ?_
  exact E_Zi hX dX2_readLine_209 rfl hf
set_option maxRecDepth 100000 in
set_option maxHeartbeats 200000 in
theorem C_X2_readLine {G : GX} (hG : GOk G) {k1 : Nat} {h : Hp} {r : Bool × Hp} (hk1 : isCity k1) (hf : f_X2_readLine k1 h = some r) : Ctr G 12 yX2_readLine cX2_readLine 3 (some .boolean) [.ref 2, .ref k1] h ((.inl (some (.int (b2i r.1))), r.2)) :=
  Ctr_of hG RX2 rfl (by decide) rfl (fun X _ hdx hX => T_X2_readLine_0 hX hdx k1 hk1 h hf)
theorem dX10_takesSign_0 : decode cX10_takesSign 0 = .ok (.aload_n 0, 1) := by decide +kernel
theorem dX10_takesSign_1 : decode cX10_takesSign 1 = .ok (.getfield 19, 3) := by decide +kernel
theorem dX10_takesSign_4 : decode cX10_takesSign 4 = .ok (.iload_n 1, 1) := by decide +kernel
theorem dX10_takesSign_5 : decode cX10_takesSign 5 = .ok (.if_icmp .eq 5, 3) := by decide +kernel
theorem dX10_takesSign_8 : decode cX10_takesSign 8 = .ok (.iconst 0, 1) := by decide +kernel
theorem dX10_takesSign_9 : decode cX10_takesSign 9 = .ok (.ireturn, 1) := by decide +kernel
theorem dX10_takesSign_10 : decode cX10_takesSign 10 = .ok (.aload_n 0, 1) := by decide +kernel
theorem dX10_takesSign_11 : decode cX10_takesSign 11 = .ok (.invokevirtual 28, 3) := by decide +kernel
theorem dX10_takesSign_14 : decode cX10_takesSign 14 = .ok (.iconst 1, 1) := by decide +kernel
theorem dX10_takesSign_15 : decode cX10_takesSign 15 = .ok (.ireturn, 1) := by decide +kernel
set_option maxRecDepth 100000 in
set_option maxHeartbeats 200000 in
theorem T_X10_takesSign_0 {X : CX} (hX : Ok X cX10_takesSign 2 RX10 (some .boolean)) (hdx : dX X = 3) {r : Bool × Hp} (x1 : Int32) (h : Hp) (hf : f_X10_takesSign x1 h = some r) : J X ((.inl (some (.int (b2i r.1))), r.2)) 0 [(0, .ref 2), (1, .int x1)] [] h := by
  unfold f_X10_takesSign at hf
  refine J_aload_n hX 0 dX10_takesSign_0 rfl rfl ?_
  refine J_getI hX dX10_takesSign_1 fl_X10_19 ob_2 rfl ?_
  refine J_iload_n hX 1 dX10_takesSign_4 rfl rfl ?_
  rcases ifE hf with ⟨c_1, hf⟩ | ⟨c_1, hf⟩
  · refine J_icmp_eqT hX 10 dX10_takesSign_5 rfl c_1 ?_
    refine J_aload_n hX 0 dX10_takesSign_10 rfl rfl ?_
    obtain ⟨r_2, e_3, hf⟩ := bdE hf
    refine V_0 hX [] dX10_takesSign_11 cw_X10_28 ob_2 rfl (C_X10_step (okG hX) e_3) (ltD hdx rfl) rfl rfl rfl rfl ?_
    refine J_iconst hX 1 dX10_takesSign_14 rfl ?_
    exact E_Zi hX dX10_takesSign_15 rfl hf
  · refine J_icmp_eqF hX 10 dX10_takesSign_5 rfl c_1 ?_
    refine J_iconst hX 0 dX10_takesSign_8 rfl ?_
    exact E_Zi hX dX10_takesSign_9 rfl hf
set_option maxRecDepth 100000 in
set_option maxHeartbeats 200000 in
theorem C_X10_takesSign {G : GX} (hG : GOk G) {x1 : Int32} {h : Hp} {r : Bool × Hp} (hf : f_X10_takesSign x1 h = some r) : Ctr G 3 yX10_takesSign cX10_takesSign 2 (some .boolean) [.ref 2, .int x1] h ((.inl (some (.int (b2i r.1))), r.2)) :=
  Ctr_of hG RX10 rfl (by decide) rfl (fun X _ hdx hX => T_X10_takesSign_0 hX hdx x1 h hf)
theorem dX2_read_0 : decode cX2_read 0 = .ok (.aload_n 0, 1) := by decide +kernel
theorem dX2_read_1 : decode cX2_read 1 = .ok (.invokevirtual 9, 3) := by decide +kernel
theorem dX2_read_4 : decode cX2_read 4 = .ok (.aload_n 0, 1) := by decide +kernel
theorem dX2_read_5 : decode cX2_read 5 = .ok (.invokevirtual 14, 3) := by decide +kernel
theorem dX2_read_8 : decode cX2_read 8 = .ok (.ifCond .eq 5, 3) := by decide +kernel
theorem dX2_read_11 : decode cX2_read 11 = .ok (.iconst 1, 1) := by decide +kernel
theorem dX2_read_12 : decode cX2_read 12 = .ok (.ireturn, 1) := by decide +kernel
theorem dX2_read_13 : decode cX2_read 13 = .ok (.iconst 0, 1) := by decide +kernel
theorem dX2_read_14 : decode cX2_read 14 = .ok (.istore_n 2, 1) := by decide +kernel
theorem dX2_read_15 : decode cX2_read 15 = .ok (.iload_n 2, 1) := by decide +kernel
theorem dX2_read_16 : decode cX2_read 16 = .ok (.bipush 14, 2) := by decide +kernel
theorem dX2_read_18 : decode cX2_read 18 = .ok (.if_icmp .ge 42, 3) := by decide +kernel
theorem dX2_read_21 : decode cX2_read 21 = .ok (.aload_n 0, 1) := by decide +kernel
theorem dX2_read_22 : decode cX2_read 22 = .ok (.aload_n 1, 1) := by decide +kernel
theorem dX2_read_23 : decode cX2_read 23 = .ok (.invokestatic 18, 3) := by decide +kernel
theorem dX2_read_26 : decode cX2_read 26 = .ok (.ifCond .ne 5, 3) := by decide +kernel
theorem dX2_read_29 : decode cX2_read 29 = .ok (.iconst 0, 1) := by decide +kernel
theorem dX2_read_30 : decode cX2_read 30 = .ok (.ireturn, 1) := by decide +kernel
theorem dX2_read_31 : decode cX2_read 31 = .ok (.aload_n 0, 1) := by decide +kernel
theorem dX2_read_32 : decode cX2_read 32 = .ok (.invokevirtual 14, 3) := by decide +kernel
theorem dX2_read_35 : decode cX2_read 35 = .ok (.ifCond .eq 5, 3) := by decide +kernel
theorem dX2_read_38 : decode cX2_read 38 = .ok (.iconst 1, 1) := by decide +kernel
theorem dX2_read_39 : decode cX2_read 39 = .ok (.ireturn, 1) := by decide +kernel
theorem dX2_read_40 : decode cX2_read 40 = .ok (.aload_n 0, 1) := by decide +kernel
theorem dX2_read_41 : decode cX2_read 41 = .ok (.bipush 59, 2) := by decide +kernel
theorem dX2_read_43 : decode cX2_read 43 = .ok (.invokevirtual 24, 3) := by decide +kernel
theorem dX2_read_46 : decode cX2_read 46 = .ok (.ifCond .ne 8, 3) := by decide +kernel
theorem dX2_read_49 : decode cX2_read 49 = .ok (.aload_n 0, 1) := by decide +kernel
theorem dX2_read_50 : decode cX2_read 50 = .ok (.invokevirtual 28, 3) := by decide +kernel
theorem dX2_read_53 : decode cX2_read 53 = .ok (.ireturn, 1) := by decide +kernel
theorem dX2_read_54 : decode cX2_read 54 = .ok (.iinc 2 1, 3) := by decide +kernel
theorem dX2_read_57 : decode cX2_read 57 = .ok (.goto (-42), 3) := by decide +kernel
theorem dX2_read_60 : decode cX2_read 60 = .ok (.aload_n 0, 1) := by decide +kernel
theorem dX2_read_61 : decode cX2_read 61 = .ok (.invokevirtual 28, 3) := by decide +kernel
theorem dX2_read_64 : decode cX2_read 64 = .ok (.ireturn, 1) := by decide +kernel
set_option maxRecDepth 100000 in
set_option maxHeartbeats 200000 in
theorem T_X2_read_15_s {X : CX} (hX : Ok X cX2_read 3 RX2 (some .boolean)) (hdx : dX X = 13) {r : Bool × Hp} (k1 : Nat) (hk1 : isCity k1) (q_15 : Int32 → Hp → Option (Bool × Hp)) (hq_15 : ∀ (x2 : Int32) (h : Hp), q_15 x2 h = some r → J X ((.inl (some (.int (b2i r.1))), r.2)) 15 [(0, .ref 2), (1, .ref k1), (2, .int x2)] [] h) (x2 : Int32) (h : Hp) (hf : S_X2_read_15 k1 q_15 x2 h = some r) : J X ((.inl (some (.int (b2i r.1))), r.2)) 15 [(0, .ref 2), (1, .ref k1), (2, .int x2)] [] h := by
  unfold S_X2_read_15 at hf
  refine J_iload_n hX 2 dX2_read_15 rfl rfl ?_
  refine J_bipush hX 14 dX2_read_16 rfl ?_
  rcases ifE hf with ⟨c_1, hf⟩ | ⟨c_1, hf⟩
  · refine J_icmp_geF hX 60 dX2_read_18 rfl c_1 ?_
    refine J_aload_n hX 0 dX2_read_21 rfl rfl ?_
    refine J_aload_n hX 1 dX2_read_22 rfl rfl ?_
    obtain ⟨r_2, e_3, hf⟩ := bdE hf
    refine S_1 hX [.ref 2, .ref k1] dX2_read_23 cw_X2_18 (C_X2_readLine (okG hX) hk1 e_3) (ltD hdx rfl) rfl rfl rfl rfl ?_
    rcases ifE hf with ⟨c_4, hf⟩ | ⟨c_4, hf⟩
    · refine J_if_neT hX 31 dX2_read_26 rfl (b2iT c_4) ?_
      refine J_aload_n hX 0 dX2_read_31 rfl rfl ?_
      refine V_1 hX [] dX2_read_32 cw_X2_14 ob_2 rfl (C_X10_isDone (okG hX) rfl) (ltD hdx rfl) rfl rfl rfl rfl ?_
      rcases ifE hf with ⟨c_5, hf⟩ | ⟨c_5, hf⟩
      · refine J_if_eqF hX 40 dX2_read_35 rfl (b2iT c_5) ?_
        refine J_iconst hX 1 dX2_read_38 rfl ?_
        exact E_Zi hX dX2_read_39 rfl hf
      · refine J_if_eqT hX 40 dX2_read_35 rfl (b2iF c_5) ?_
        refine J_aload_n hX 0 dX2_read_40 rfl rfl ?_
        refine J_bipush hX 59 dX2_read_41 rfl ?_
        obtain ⟨r_6, e_7, hf⟩ := bdE hf
        refine V_1 hX [.int 59] dX2_read_43 cw_X2_24 ob_2 rfl (C_X10_takesSign (okG hX) e_7) (ltD hdx rfl) rfl rfl rfl rfl ?_
        rcases ifE hf with ⟨c_8, hf⟩ | ⟨c_8, hf⟩
        · refine J_if_neT hX 54 dX2_read_46 rfl (b2iT c_8) ?_
          refine J_iinc hX (x2 + 1) 2 [(2, .int (x2 + 1)), (0, .ref 2), (1, .ref k1)] dX2_read_54 rfl rfl rfl rfl ?_
          refine J_goto hX 15 dX2_read_57 rfl ?_
          refine J_sub [1, 2, 0] [(0, .ref 2), (1, .ref k1), (2, .int (x2 + 1))] rfl ?_
          exact hq_15 (x2 + 1) r_6.2 hf
        · refine J_if_neF hX 54 dX2_read_46 rfl (b2iF c_8) ?_
          refine J_aload_n hX 0 dX2_read_49 rfl rfl ?_
          obtain ⟨r_9, e_10, hf⟩ := bdE hf
          refine V_1 hX [] dX2_read_50 cw_X2_28 ob_2 rfl (C_X10_fail (okG hX) e_10) (ltD hdx rfl) rfl rfl rfl rfl ?_
          exact E_Zi hX dX2_read_53 rfl hf
    · refine J_if_neF hX 31 dX2_read_26 rfl (b2iF c_4) ?_
      refine J_iconst hX 0 dX2_read_29 rfl ?_
      exact E_Zi hX dX2_read_30 rfl hf
  · refine J_icmp_geT hX 60 dX2_read_18 rfl c_1 ?_
    refine J_aload_n hX 0 dX2_read_60 rfl rfl ?_
    obtain ⟨r_11, e_12, hf⟩ := bdE hf
    refine V_1 hX [] dX2_read_61 cw_X2_28 ob_2 rfl (C_X10_fail (okG hX) e_12) (ltD hdx rfl) rfl rfl rfl rfl ?_
    exact E_Zi hX dX2_read_64 rfl hf
set_option maxRecDepth 100000 in
set_option maxHeartbeats 200000 in
theorem T_X2_read_15 {X : CX} (hX : Ok X cX2_read 3 RX2 (some .boolean)) (hdx : dX X = 13) {r : Bool × Hp} (k1 : Nat) (hk1 : isCity k1) : ∀ (n : Nat) (x2 : Int32) (h : Hp), F_X2_read_15 k1 n x2 h = some r → J X ((.inl (some (.int (b2i r.1))), r.2)) 15 [(0, .ref 2), (1, .ref k1), (2, .int x2)] [] h := by
  intro n
  induction n with
  | zero => intro x2 h hf; exact nomatch hf
  | succ n ih => intro x2 h hf; exact T_X2_read_15_s hX hdx k1 hk1 _ (fun x2 h hf => ih x2 h hf) x2 h hf
set_option maxRecDepth 100000 in
set_option maxHeartbeats 200000 in
theorem T_X2_read_0 {X : CX} (hX : Ok X cX2_read 3 RX2 (some .boolean)) (hdx : dX X = 13) {r : Bool × Hp} (k1 : Nat) (hk1 : isCity k1) (h : Hp) (hf : f_X2_read k1 h = some r) : J X ((.inl (some (.int (b2i r.1))), r.2)) 0 [(0, .ref 2), (1, .ref k1)] [] h := by
  unfold f_X2_read at hf
  refine J_aload_n hX 0 dX2_read_0 rfl rfl ?_
  obtain ⟨r_1, e_2, hf⟩ := bdE hf
  refine V_0 hX [] dX2_read_1 cw_X2_9 ob_2 rfl (C_X10_open (okG hX) e_2) (ltD hdx rfl) rfl rfl rfl rfl ?_
  refine J_aload_n hX 0 dX2_read_4 rfl rfl ?_
  refine V_1 hX [] dX2_read_5 cw_X2_14 ob_2 rfl (C_X10_isDone (okG hX) rfl) (ltD hdx rfl) rfl rfl rfl rfl ?_
  rcases ifE hf with ⟨c_3, hf⟩ | ⟨c_3, hf⟩
  · refine J_if_eqF hX 13 dX2_read_8 rfl (b2iT c_3) ?_
    refine J_iconst hX 1 dX2_read_11 rfl ?_
    exact E_Zi hX dX2_read_12 rfl hf
  · refine J_if_eqT hX 13 dX2_read_8 rfl (b2iF c_3) ?_
    refine J_iconst hX 0 dX2_read_13 rfl ?_
    refine J_istore_n hX [(2, .int 0), (0, .ref 2), (1, .ref k1)] dX2_read_14 rfl rfl rfl ?_
    refine J_sub [1, 2, 0] [(0, .ref 2), (1, .ref k1), (2, .int 0)] rfl ?_
    exact T_X2_read_15 hX hdx k1 hk1 FU 0 r_1 hf
set_option maxRecDepth 100000 in
set_option maxHeartbeats 200000 in
theorem C_X2_read {G : GX} (hG : GOk G) {k1 : Nat} {h : Hp} {r : Bool × Hp} (hk1 : isCity k1) (hf : f_X2_read k1 h = some r) : Ctr G 13 yX2_read cX2_read 3 (some .boolean) [.ref 2, .ref k1] h ((.inl (some (.int (b2i r.1))), r.2)) :=
  Ctr_of hG RX2 rfl (by decide) rfl (fun X _ hdx hX => T_X2_read_0 hX hdx k1 hk1 h hf)
theorem dX9_countHelp_0 : decode cX9_countHelp 0 = .ok (.aload_n 0, 1) := by decide +kernel
theorem dX9_countHelp_1 : decode cX9_countHelp 1 = .ok (.iconst 0, 1) := by decide +kernel
theorem dX9_countHelp_2 : decode cX9_countHelp 2 = .ok (.putfield 92, 3) := by decide +kernel
theorem dX9_countHelp_5 : decode cX9_countHelp 5 = .ok (.iconst 0, 1) := by decide +kernel
theorem dX9_countHelp_6 : decode cX9_countHelp 6 = .ok (.istore_n 3, 1) := by decide +kernel
theorem dX9_countHelp_7 : decode cX9_countHelp 7 = .ok (.iload_n 3, 1) := by decide +kernel
theorem dX9_countHelp_8 : decode cX9_countHelp 8 = .ok (.bipush 8, 2) := by decide +kernel
theorem dX9_countHelp_10 : decode cX9_countHelp 10 = .ok (.if_icmp .ge 16, 3) := by decide +kernel
theorem dX9_countHelp_13 : decode cX9_countHelp 13 = .ok (.aload_n 0, 1) := by decide +kernel
theorem dX9_countHelp_14 : decode cX9_countHelp 14 = .ok (.getfield 33, 3) := by decide +kernel
theorem dX9_countHelp_17 : decode cX9_countHelp 17 = .ok (.iload_n 3, 1) := by decide +kernel
theorem dX9_countHelp_18 : decode cX9_countHelp 18 = .ok (.iconst 0, 1) := by decide +kernel
theorem dX9_countHelp_19 : decode cX9_countHelp 19 = .ok (.iastore, 1) := by decide +kernel
theorem dX9_countHelp_20 : decode cX9_countHelp 20 = .ok (.iinc 3 1, 3) := by decide +kernel
theorem dX9_countHelp_23 : decode cX9_countHelp 23 = .ok (.goto (-16), 3) := by decide +kernel
theorem dX9_countHelp_26 : decode cX9_countHelp 26 = .ok (.iconst 0, 1) := by decide +kernel
theorem dX9_countHelp_27 : decode cX9_countHelp 27 = .ok (.istore_n 3, 1) := by decide +kernel
theorem dX9_countHelp_28 : decode cX9_countHelp 28 = .ok (.iload_n 3, 1) := by decide +kernel
theorem dX9_countHelp_29 : decode cX9_countHelp 29 = .ok (.bipush 6, 2) := by decide +kernel
theorem dX9_countHelp_31 : decode cX9_countHelp 31 = .ok (.if_icmp .ge 62, 3) := by decide +kernel
theorem dX9_countHelp_34 : decode cX9_countHelp 34 = .ok (.aload_n 1, 1) := by decide +kernel
theorem dX9_countHelp_35 : decode cX9_countHelp 35 = .ok (.iload_n 3, 1) := by decide +kernel
theorem dX9_countHelp_36 : decode cX9_countHelp 36 = .ok (.invokevirtual 95, 3) := by decide +kernel
theorem dX9_countHelp_39 : decode cX9_countHelp 39 = .ok (.istore 4, 2) := by decide +kernel
theorem dX9_countHelp_41 : decode cX9_countHelp 41 = .ok (.aload_n 1, 1) := by decide +kernel
theorem dX9_countHelp_42 : decode cX9_countHelp 42 = .ok (.iload 4, 2) := by decide +kernel
theorem dX9_countHelp_44 : decode cX9_countHelp 44 = .ok (.invokevirtual 47, 3) := by decide +kernel
theorem dX9_countHelp_47 : decode cX9_countHelp 47 = .ok (.ifCond .eq 40, 3) := by decide +kernel
theorem dX9_countHelp_50 : decode cX9_countHelp 50 = .ok (.aload_n 1, 1) := by decide +kernel
theorem dX9_countHelp_51 : decode cX9_countHelp 51 = .ok (.iload_n 3, 1) := by decide +kernel
theorem dX9_countHelp_52 : decode cX9_countHelp 52 = .ok (.iload_n 2, 1) := by decide +kernel
theorem dX9_countHelp_53 : decode cX9_countHelp 53 = .ok (.invokevirtual 99, 3) := by decide +kernel
theorem dX9_countHelp_56 : decode cX9_countHelp 56 = .ok (.ifCond .eq 31, 3) := by decide +kernel
theorem dX9_countHelp_59 : decode cX9_countHelp 59 = .ok (.aload_n 0, 1) := by decide +kernel
theorem dX9_countHelp_60 : decode cX9_countHelp 60 = .ok (.getfield 33, 3) := by decide +kernel
theorem dX9_countHelp_63 : decode cX9_countHelp 63 = .ok (.iload 4, 2) := by decide +kernel
theorem dX9_countHelp_65 : decode cX9_countHelp 65 = .ok (.dup2, 1) := by decide +kernel
theorem dX9_countHelp_66 : decode cX9_countHelp 66 = .ok (.iaload, 1) := by decide +kernel
theorem dX9_countHelp_67 : decode cX9_countHelp 67 = .ok (.aload_n 1, 1) := by decide +kernel
theorem dX9_countHelp_68 : decode cX9_countHelp 68 = .ok (.iload_n 3, 1) := by decide +kernel
theorem dX9_countHelp_69 : decode cX9_countHelp 69 = .ok (.invokevirtual 103, 3) := by decide +kernel
theorem dX9_countHelp_72 : decode cX9_countHelp 72 = .ok (.iadd, 1) := by decide +kernel
theorem dX9_countHelp_73 : decode cX9_countHelp 73 = .ok (.iastore, 1) := by decide +kernel
theorem dX9_countHelp_74 : decode cX9_countHelp 74 = .ok (.aload_n 0, 1) := by decide +kernel
theorem dX9_countHelp_75 : decode cX9_countHelp 75 = .ok (.dup, 1) := by decide +kernel
theorem dX9_countHelp_76 : decode cX9_countHelp 76 = .ok (.getfield 92, 3) := by decide +kernel
theorem dX9_countHelp_79 : decode cX9_countHelp 79 = .ok (.iconst 1, 1) := by decide +kernel
theorem dX9_countHelp_80 : decode cX9_countHelp 80 = .ok (.iload 4, 2) := by decide +kernel
theorem dX9_countHelp_82 : decode cX9_countHelp 82 = .ok (.ishl, 1) := by decide +kernel
theorem dX9_countHelp_83 : decode cX9_countHelp 83 = .ok (.ior, 1) := by decide +kernel
theorem dX9_countHelp_84 : decode cX9_countHelp 84 = .ok (.putfield 92, 3) := by decide +kernel
theorem dX9_countHelp_87 : decode cX9_countHelp 87 = .ok (.iinc 3 1, 3) := by decide +kernel
theorem dX9_countHelp_90 : decode cX9_countHelp 90 = .ok (.goto (-62), 3) := by decide +kernel
theorem dX9_countHelp_93 : decode cX9_countHelp 93 = .ok (.return_, 1) := by decide +kernel
set_option maxRecDepth 100000 in
set_option maxHeartbeats 200000 in
theorem T_X9_countHelp_28_s {X : CX} (hX : Ok X cX9_countHelp 5 RX9 none) (hdx : dX X = 4) {r : Hp} (k1 : Nat) (hk1 : isCity k1) (x2 : Int32) (q_28 : Int32 → Hp → Option Hp) (hq_28 : ∀ (x3 : Int32) (h : Hp), q_28 x3 h = some r → J X ((.inl none, r)) 28 [(0, .ref 5), (1, .ref k1), (2, .int x2), (3, .int x3)] [] h) (x3 : Int32) (h : Hp) (hf : S_X9_countHelp_28 k1 x2 q_28 x3 h = some r) : J X ((.inl none, r)) 28 [(0, .ref 5), (1, .ref k1), (2, .int x2), (3, .int x3)] [] h := by
  unfold S_X9_countHelp_28 at hf
  refine J_iload_n hX 3 dX9_countHelp_28 rfl rfl ?_
  refine J_bipush hX 6 dX9_countHelp_29 rfl ?_
  rcases ifE hf with ⟨c_1, hf⟩ | ⟨c_1, hf⟩
  · refine J_icmp_geF hX 93 dX9_countHelp_31 rfl c_1 ?_
    refine J_aload_n hX 1 dX9_countHelp_34 rfl rfl ?_
    refine J_iload_n hX 3 dX9_countHelp_35 rfl rfl ?_
    obtain ⟨r_2, e_3, hf⟩ := bdE hf
    refine V_1 hX [.int x3] dX9_countHelp_36 cw_X9_95 (city_ob hk1) rfl (C_X1_placeOf (okG hX) hk1 e_3) (ltD hdx rfl) rfl rfl rfl rfl ?_
    refine J_istore hX [(4, .int r_2), (0, .ref 5), (1, .ref k1), (2, .int x2), (3, .int x3)] dX9_countHelp_39 rfl rfl ?_
    refine J_aload_n hX 2 dX9_countHelp_41 rfl rfl ?_
    refine J_iload hX 0 dX9_countHelp_42 rfl ?_
    refine V_1 hX [.int r_2] dX9_countHelp_44 cw_X9_47 (city_ob hk1) rfl (C_X1_isUp (okG hX) hk1 rfl) (ltD hdx rfl) rfl rfl rfl rfl ?_
    rcases ifE hf with ⟨c_4, hf⟩ | ⟨c_4, hf⟩
    · refine J_if_eqF hX 87 dX9_countHelp_47 rfl (b2iT c_4) ?_
      refine J_aload_n hX 2 dX9_countHelp_50 rfl rfl ?_
      refine J_iload_n hX 4 dX9_countHelp_51 rfl rfl ?_
      refine J_iload_n hX 3 dX9_countHelp_52 rfl rfl ?_
      obtain ⟨r_5, e_6, hf⟩ := bdE hf
      refine V_1 hX [.int x3, .int x2] dX9_countHelp_53 cw_X9_99 (city_ob hk1) rfl (C_X1_isThere (okG hX) hk1 e_6) (ltD hdx rfl) rfl rfl rfl rfl ?_
      rcases ifE hf with ⟨c_7, hf⟩ | ⟨c_7, hf⟩
      · refine J_if_eqF hX 87 dX9_countHelp_56 rfl (b2iT c_7) ?_
        refine J_aload_n hX 1 dX9_countHelp_59 rfl rfl ?_
        refine J_getR hX 13 dX9_countHelp_60 fl_X9_33 ob_5 rfl rfl ?_
        refine J_iload hX 0 dX9_countHelp_63 rfl ?_
        refine J_dup2 hX dX9_countHelp_65 rfl rfl ?_
        obtain ⟨g_8, hf⟩ := gdE hf
        refine J_ald hX r_2.toNatClampNeg dX9_countHelp_66 ar_13 (Or.inl ⟨rfl, rfl⟩) g_8 rfl ?_
        refine J_aload_n hX 2 dX9_countHelp_67 rfl rfl ?_
        refine J_iload_n hX 4 dX9_countHelp_68 rfl rfl ?_
        obtain ⟨r_9, e_10, hf⟩ := bdE hf
        refine V_1 hX [.int x3] dX9_countHelp_69 cw_X9_103 (city_ob hk1) rfl (C_X1_holdOf (okG hX) hk1 e_10) (ltD hdx rfl) rfl rfl rfl rfl ?_
        refine J_iadd hX dX9_countHelp_72 ?_
        obtain ⟨g_11, hf⟩ := gdE hf
        obtain ⟨h_12, e_13, hf⟩ := bndE hf
        refine J_ast hX r_2.toNatClampNeg ((h 13 r_2.toNatClampNeg) + r_9) dX9_countHelp_73 ar_13 (Or.inl ⟨rfl, rfl, rfl⟩) g_11 rfl ?_
        refine J_nmh e_13 ?_
        refine J_aload_n hX 1 dX9_countHelp_74 rfl rfl ?_
        refine J_dup hX dX9_countHelp_75 rfl ?_
        refine J_getI hX dX9_countHelp_76 fl_X9_92 ob_5 rfl ?_
        refine J_iconst hX 1 dX9_countHelp_79 rfl ?_
        refine J_iload hX 0 dX9_countHelp_80 rfl ?_
        refine J_ishl hX dX9_countHelp_82 ?_
        refine J_ior hX dX9_countHelp_83 ?_
        obtain ⟨h_14, e_15, hf⟩ := bndE hf
        refine J_putI hX dX9_countHelp_84 fl_X9_92 fw_7_10 ob_5 rfl rfl rfl ?_
        refine J_nmh e_15 ?_
        refine J_iinc hX (x3 + 1) 4 [(3, .int (x3 + 1)), (4, .int r_2), (0, .ref 5), (1, .ref k1), (2, .int x2)] dX9_countHelp_87 rfl rfl rfl rfl ?_
        refine J_goto hX 28 dX9_countHelp_90 rfl ?_
        refine J_sub [2, 3, 4, 0] [(0, .ref 5), (1, .ref k1), (2, .int x2), (3, .int (x3 + 1))] rfl ?_
        exact hq_28 (x3 + 1) h_14 hf
      · refine J_if_eqT hX 87 dX9_countHelp_56 rfl (b2iF c_7) ?_
        refine J_iinc hX (x3 + 1) 4 [(3, .int (x3 + 1)), (4, .int r_2), (0, .ref 5), (1, .ref k1), (2, .int x2)] dX9_countHelp_87 rfl rfl rfl rfl ?_
        refine J_goto hX 28 dX9_countHelp_90 rfl ?_
        refine J_sub [2, 3, 4, 0] [(0, .ref 5), (1, .ref k1), (2, .int x2), (3, .int (x3 + 1))] rfl ?_
        exact hq_28 (x3 + 1) h hf
    · refine J_if_eqT hX 87 dX9_countHelp_47 rfl (b2iF c_4) ?_
      refine J_iinc hX (x3 + 1) 4 [(3, .int (x3 + 1)), (4, .int r_2), (0, .ref 5), (1, .ref k1), (2, .int x2)] dX9_countHelp_87 rfl rfl rfl rfl ?_
      refine J_goto hX 28 dX9_countHelp_90 rfl ?_
      refine J_sub [2, 3, 4, 0] [(0, .ref 5), (1, .ref k1), (2, .int x2), (3, .int (x3 + 1))] rfl ?_
      exact hq_28 (x3 + 1) h hf
  · refine J_icmp_geT hX 93 dX9_countHelp_31 rfl c_1 ?_
    exact E_Vi hX dX9_countHelp_93 hf
set_option maxRecDepth 100000 in
set_option maxHeartbeats 200000 in
theorem T_X9_countHelp_28 {X : CX} (hX : Ok X cX9_countHelp 5 RX9 none) (hdx : dX X = 4) {r : Hp} (k1 : Nat) (hk1 : isCity k1) (x2 : Int32) : ∀ (n : Nat) (x3 : Int32) (h : Hp), F_X9_countHelp_28 k1 x2 n x3 h = some r → J X ((.inl none, r)) 28 [(0, .ref 5), (1, .ref k1), (2, .int x2), (3, .int x3)] [] h := by
  intro n
  induction n with
  | zero => intro x3 h hf; exact nomatch hf
  | succ n ih => intro x3 h hf; exact T_X9_countHelp_28_s hX hdx k1 hk1 x2 _ (fun x3 h hf => ih x3 h hf) x3 h hf
set_option maxRecDepth 100000 in
set_option maxHeartbeats 200000 in
theorem T_X9_countHelp_7_s {X : CX} (hX : Ok X cX9_countHelp 5 RX9 none) (hdx : dX X = 4) {r : Hp} (k1 : Nat) (hk1 : isCity k1) (x2 : Int32) (q_7 : Int32 → Hp → Option Hp) (hq_7 : ∀ (x3 : Int32) (h : Hp), q_7 x3 h = some r → J X ((.inl none, r)) 7 [(0, .ref 5), (1, .ref k1), (2, .int x2), (3, .int x3)] [] h) (x3 : Int32) (h : Hp) (hf : S_X9_countHelp_7 k1 x2 q_7 x3 h = some r) : J X ((.inl none, r)) 7 [(0, .ref 5), (1, .ref k1), (2, .int x2), (3, .int x3)] [] h := by
  unfold S_X9_countHelp_7 at hf
  refine J_iload_n hX 3 dX9_countHelp_7 rfl rfl ?_
  refine J_bipush hX 8 dX9_countHelp_8 rfl ?_
  rcases ifE hf with ⟨c_1, hf⟩ | ⟨c_1, hf⟩
  · refine J_icmp_geF hX 26 dX9_countHelp_10 rfl c_1 ?_
    refine J_aload_n hX 0 dX9_countHelp_13 rfl rfl ?_
    refine J_getR hX 13 dX9_countHelp_14 fl_X9_33 ob_5 rfl rfl ?_
    refine J_iload_n hX 3 dX9_countHelp_17 rfl rfl ?_
    refine J_iconst hX 0 dX9_countHelp_18 rfl ?_
    obtain ⟨g_2, hf⟩ := gdE hf
    obtain ⟨h_3, e_4, hf⟩ := bndE hf
    refine J_ast hX x3.toNatClampNeg 0 dX9_countHelp_19 ar_13 (Or.inl ⟨rfl, rfl, rfl⟩) g_2 rfl ?_
    refine J_nmh e_4 ?_
    refine J_iinc hX (x3 + 1) 3 [(3, .int (x3 + 1)), (0, .ref 5), (1, .ref k1), (2, .int x2)] dX9_countHelp_20 rfl rfl rfl rfl ?_
    refine J_goto hX 7 dX9_countHelp_23 rfl ?_
    refine J_sub [1, 2, 3, 0] [(0, .ref 5), (1, .ref k1), (2, .int x2), (3, .int (x3 + 1))] rfl ?_
    exact hq_7 (x3 + 1) h_3 hf
  · refine J_icmp_geT hX 26 dX9_countHelp_10 rfl c_1 ?_
    refine J_iconst hX 0 dX9_countHelp_26 rfl ?_
    refine J_istore_n hX [(3, .int 0), (0, .ref 5), (1, .ref k1), (2, .int x2)] dX9_countHelp_27 rfl rfl rfl ?_
    refine J_sub [1, 2, 3, 0] [(0, .ref 5), (1, .ref k1), (2, .int x2), (3, .int 0)] rfl ?_
    exact T_X9_countHelp_28 hX hdx k1 hk1 x2 FU 0 h hf
set_option maxRecDepth 100000 in
set_option maxHeartbeats 200000 in
theorem T_X9_countHelp_7 {X : CX} (hX : Ok X cX9_countHelp 5 RX9 none) (hdx : dX X = 4) {r : Hp} (k1 : Nat) (hk1 : isCity k1) (x2 : Int32) : ∀ (n : Nat) (x3 : Int32) (h : Hp), F_X9_countHelp_7 k1 x2 n x3 h = some r → J X ((.inl none, r)) 7 [(0, .ref 5), (1, .ref k1), (2, .int x2), (3, .int x3)] [] h := by
  intro n
  induction n with
  | zero => intro x3 h hf; exact nomatch hf
  | succ n ih => intro x3 h hf; exact T_X9_countHelp_7_s hX hdx k1 hk1 x2 _ (fun x3 h hf => ih x3 h hf) x3 h hf
set_option maxRecDepth 100000 in
set_option maxHeartbeats 200000 in
theorem T_X9_countHelp_0 {X : CX} (hX : Ok X cX9_countHelp 5 RX9 none) (hdx : dX X = 4) {r : Hp} (k1 : Nat) (hk1 : isCity k1) (x2 : Int32) (h : Hp) (hf : f_X9_countHelp k1 x2 h = some r) : J X ((.inl none, r)) 0 [(0, .ref 5), (1, .ref k1), (2, .int x2)] [] h := by
  unfold f_X9_countHelp at hf
  refine J_aload_n hX 0 dX9_countHelp_0 rfl rfl ?_
  refine J_iconst hX 0 dX9_countHelp_1 rfl ?_
  obtain ⟨h_1, e_2, hf⟩ := bndE hf
  refine J_putI hX dX9_countHelp_2 fl_X9_92 fw_7_10 ob_5 rfl rfl rfl ?_
  refine J_nmh e_2 ?_
  refine J_iconst hX 0 dX9_countHelp_5 rfl ?_
  refine J_istore_n hX [(3, .int 0), (0, .ref 5), (1, .ref k1), (2, .int x2)] dX9_countHelp_6 rfl rfl rfl ?_
  refine J_sub [1, 2, 3, 0] [(0, .ref 5), (1, .ref k1), (2, .int x2), (3, .int 0)] rfl ?_
  exact T_X9_countHelp_7 hX hdx k1 hk1 x2 FU 0 h_1 hf
set_option maxRecDepth 100000 in
set_option maxHeartbeats 200000 in
theorem C_X9_countHelp {G : GX} (hG : GOk G) {k1 : Nat} {x2 : Int32} {h : Hp} {r : Hp} (hk1 : isCity k1) (hf : f_X9_countHelp k1 x2 h = some r) : Ctr G 4 yX9_countHelp cX9_countHelp 5 none [.ref 5, .ref k1, .int x2] h ((.inl none, r)) :=
  Ctr_of hG RX9 rfl (by decide) rfl (fun X _ hdx hX => T_X9_countHelp_0 hX hdx k1 hk1 x2 h hf)
theorem dX9_noteFacts_0 : decode cX9_noteFacts 0 = .ok (.aload_n 1, 1) := by decide +kernel
theorem dX9_noteFacts_1 : decode cX9_noteFacts 1 = .ok (.iload_n 2, 1) := by decide +kernel
theorem dX9_noteFacts_2 : decode cX9_noteFacts 2 = .ok (.invokevirtual 106, 3) := by decide +kernel
theorem dX9_noteFacts_5 : decode cX9_noteFacts 5 = .ok (.ifCond .ne 4, 3) := by decide +kernel
theorem dX9_noteFacts_8 : decode cX9_noteFacts 8 = .ok (.return_, 1) := by decide +kernel
theorem dX9_noteFacts_9 : decode cX9_noteFacts 9 = .ok (.aload_n 0, 1) := by decide +kernel
theorem dX9_noteFacts_10 : decode cX9_noteFacts 10 = .ok (.getfield 36, 3) := by decide +kernel
theorem dX9_noteFacts_13 : decode cX9_noteFacts 13 = .ok (.iconst 0, 1) := by decide +kernel
theorem dX9_noteFacts_14 : decode cX9_noteFacts 14 = .ok (.iload_n 2, 1) := by decide +kernel
theorem dX9_noteFacts_15 : decode cX9_noteFacts 15 = .ok (.iastore, 1) := by decide +kernel
theorem dX9_noteFacts_16 : decode cX9_noteFacts 16 = .ok (.aload_n 0, 1) := by decide +kernel
theorem dX9_noteFacts_17 : decode cX9_noteFacts 17 = .ok (.getfield 36, 3) := by decide +kernel
theorem dX9_noteFacts_20 : decode cX9_noteFacts 20 = .ok (.iconst 1, 1) := by decide +kernel
theorem dX9_noteFacts_21 : decode cX9_noteFacts 21 = .ok (.aload_n 1, 1) := by decide +kernel
theorem dX9_noteFacts_22 : decode cX9_noteFacts 22 = .ok (.getfield 57, 3) := by decide +kernel
theorem dX9_noteFacts_25 : decode cX9_noteFacts 25 = .ok (.iload_n 2, 1) := by decide +kernel
theorem dX9_noteFacts_26 : decode cX9_noteFacts 26 = .ok (.iaload, 1) := by decide +kernel
theorem dX9_noteFacts_27 : decode cX9_noteFacts 27 = .ok (.iastore, 1) := by decide +kernel
theorem dX9_noteFacts_28 : decode cX9_noteFacts 28 = .ok (.aload_n 0, 1) := by decide +kernel
theorem dX9_noteFacts_29 : decode cX9_noteFacts 29 = .ok (.getfield 36, 3) := by decide +kernel
theorem dX9_noteFacts_32 : decode cX9_noteFacts 32 = .ok (.iconst 2, 1) := by decide +kernel
theorem dX9_noteFacts_33 : decode cX9_noteFacts 33 = .ok (.aload_n 1, 1) := by decide +kernel
theorem dX9_noteFacts_34 : decode cX9_noteFacts 34 = .ok (.getfield 63, 3) := by decide +kernel
theorem dX9_noteFacts_37 : decode cX9_noteFacts 37 = .ok (.iload_n 2, 1) := by decide +kernel
theorem dX9_noteFacts_38 : decode cX9_noteFacts 38 = .ok (.iaload, 1) := by decide +kernel
theorem dX9_noteFacts_39 : decode cX9_noteFacts 39 = .ok (.iastore, 1) := by decide +kernel
theorem dX9_noteFacts_40 : decode cX9_noteFacts 40 = .ok (.aload_n 0, 1) := by decide +kernel
theorem dX9_noteFacts_41 : decode cX9_noteFacts 41 = .ok (.getfield 36, 3) := by decide +kernel
theorem dX9_noteFacts_44 : decode cX9_noteFacts 44 = .ok (.iconst 3, 1) := by decide +kernel
theorem dX9_noteFacts_45 : decode cX9_noteFacts 45 = .ok (.aload_n 1, 1) := by decide +kernel
theorem dX9_noteFacts_46 : decode cX9_noteFacts 46 = .ok (.getfield 109, 3) := by decide +kernel
theorem dX9_noteFacts_49 : decode cX9_noteFacts 49 = .ok (.iload_n 2, 1) := by decide +kernel
theorem dX9_noteFacts_50 : decode cX9_noteFacts 50 = .ok (.iaload, 1) := by decide +kernel
theorem dX9_noteFacts_51 : decode cX9_noteFacts 51 = .ok (.iastore, 1) := by decide +kernel
theorem dX9_noteFacts_52 : decode cX9_noteFacts 52 = .ok (.aload_n 0, 1) := by decide +kernel
theorem dX9_noteFacts_53 : decode cX9_noteFacts 53 = .ok (.getfield 36, 3) := by decide +kernel
theorem dX9_noteFacts_56 : decode cX9_noteFacts 56 = .ok (.iconst 4, 1) := by decide +kernel
theorem dX9_noteFacts_57 : decode cX9_noteFacts 57 = .ok (.iload_n 3, 1) := by decide +kernel
theorem dX9_noteFacts_58 : decode cX9_noteFacts 58 = .ok (.iastore, 1) := by decide +kernel
theorem dX9_noteFacts_59 : decode cX9_noteFacts 59 = .ok (.aload_n 0, 1) := by decide +kernel
theorem dX9_noteFacts_60 : decode cX9_noteFacts 60 = .ok (.getfield 36, 3) := by decide +kernel
theorem dX9_noteFacts_63 : decode cX9_noteFacts 63 = .ok (.iconst 5, 1) := by decide +kernel
theorem dX9_noteFacts_64 : decode cX9_noteFacts 64 = .ok (.aload_n 0, 1) := by decide +kernel
theorem dX9_noteFacts_65 : decode cX9_noteFacts 65 = .ok (.getfield 9, 3) := by decide +kernel
theorem dX9_noteFacts_68 : decode cX9_noteFacts 68 = .ok (.iload_n 2, 1) := by decide +kernel
theorem dX9_noteFacts_69 : decode cX9_noteFacts 69 = .ok (.iaload, 1) := by decide +kernel
theorem dX9_noteFacts_70 : decode cX9_noteFacts 70 = .ok (.iastore, 1) := by decide +kernel
theorem dX9_noteFacts_71 : decode cX9_noteFacts 71 = .ok (.aload_n 0, 1) := by decide +kernel
theorem dX9_noteFacts_72 : decode cX9_noteFacts 72 = .ok (.getfield 36, 3) := by decide +kernel
theorem dX9_noteFacts_75 : decode cX9_noteFacts 75 = .ok (.bipush 6, 2) := by decide +kernel
theorem dX9_noteFacts_77 : decode cX9_noteFacts 77 = .ok (.aload_n 0, 1) := by decide +kernel
theorem dX9_noteFacts_78 : decode cX9_noteFacts 78 = .ok (.getfield 30, 3) := by decide +kernel
theorem dX9_noteFacts_81 : decode cX9_noteFacts 81 = .ok (.iload_n 2, 1) := by decide +kernel
theorem dX9_noteFacts_82 : decode cX9_noteFacts 82 = .ok (.iaload, 1) := by decide +kernel
theorem dX9_noteFacts_83 : decode cX9_noteFacts 83 = .ok (.ifCond .le 7, 3) := by decide +kernel
theorem dX9_noteFacts_86 : decode cX9_noteFacts 86 = .ok (.iconst 1, 1) := by decide +kernel
theorem dX9_noteFacts_87 : decode cX9_noteFacts 87 = .ok (.goto 4, 3) := by decide +kernel
theorem dX9_noteFacts_90 : decode cX9_noteFacts 90 = .ok (.iconst 0, 1) := by decide +kernel
theorem dX9_noteFacts_91 : decode cX9_noteFacts 91 = .ok (.iastore, 1) := by decide +kernel
theorem dX9_noteFacts_92 : decode cX9_noteFacts 92 = .ok (.aload_n 0, 1) := by decide +kernel
theorem dX9_noteFacts_93 : decode cX9_noteFacts 93 = .ok (.getfield 36, 3) := by decide +kernel
theorem dX9_noteFacts_96 : decode cX9_noteFacts 96 = .ok (.bipush 7, 2) := by decide +kernel
theorem dX9_noteFacts_98 : decode cX9_noteFacts 98 = .ok (.aload_n 0, 1) := by decide +kernel
theorem dX9_noteFacts_99 : decode cX9_noteFacts 99 = .ok (.getfield 85, 3) := by decide +kernel
theorem dX9_noteFacts_102 : decode cX9_noteFacts 102 = .ok (.iload_n 2, 1) := by decide +kernel
theorem dX9_noteFacts_103 : decode cX9_noteFacts 103 = .ok (.ishr, 1) := by decide +kernel
theorem dX9_noteFacts_104 : decode cX9_noteFacts 104 = .ok (.iconst 1, 1) := by decide +kernel
theorem dX9_noteFacts_105 : decode cX9_noteFacts 105 = .ok (.iand, 1) := by decide +kernel
theorem dX9_noteFacts_106 : decode cX9_noteFacts 106 = .ok (.iastore, 1) := by decide +kernel
theorem dX9_noteFacts_107 : decode cX9_noteFacts 107 = .ok (.aload_n 0, 1) := by decide +kernel
theorem dX9_noteFacts_108 : decode cX9_noteFacts 108 = .ok (.getfield 36, 3) := by decide +kernel
theorem dX9_noteFacts_111 : decode cX9_noteFacts 111 = .ok (.bipush 8, 2) := by decide +kernel
theorem dX9_noteFacts_113 : decode cX9_noteFacts 113 = .ok (.aload_n 0, 1) := by decide +kernel
theorem dX9_noteFacts_114 : decode cX9_noteFacts 114 = .ok (.getfield 92, 3) := by decide +kernel
theorem dX9_noteFacts_117 : decode cX9_noteFacts 117 = .ok (.iload_n 2, 1) := by decide +kernel
theorem dX9_noteFacts_118 : decode cX9_noteFacts 118 = .ok (.ishr, 1) := by decide +kernel
theorem dX9_noteFacts_119 : decode cX9_noteFacts 119 = .ok (.iconst 1, 1) := by decide +kernel
theorem dX9_noteFacts_120 : decode cX9_noteFacts 120 = .ok (.iand, 1) := by decide +kernel
theorem dX9_noteFacts_121 : decode cX9_noteFacts 121 = .ok (.iastore, 1) := by decide +kernel
theorem dX9_noteFacts_122 : decode cX9_noteFacts 122 = .ok (.return_, 1) := by decide +kernel
set_option maxRecDepth 100000 in
set_option maxHeartbeats 200000 in
theorem T_X9_noteFacts_91 {X : CX} (hX : Ok X cX9_noteFacts 4 RX9 none) (hdx : dX X = 3) {r : Hp} (x2 : Int32) (t0 : Int32) (t1 : Int32) (h : Hp) (hf : F_X9_noteFacts_91 x2 t0 t1 h = some r) : J X ((.inl none, r)) 91 [(0, .ref 5), (2, .int x2)] [.int t0, .int t1, .ref 14] h := by
  unfold F_X9_noteFacts_91 at hf
  obtain ⟨g_1, hf⟩ := gdE hf
  obtain ⟨h_2, e_3, hf⟩ := bndE hf
  refine J_ast hX t1.toNatClampNeg t0 dX9_noteFacts_91 ar_14 (Or.inl ⟨rfl, rfl, rfl⟩) g_1 rfl ?_
  refine J_nmh e_3 ?_
  refine J_aload_n hX 0 dX9_noteFacts_92 rfl rfl ?_
  refine J_getR hX 14 dX9_noteFacts_93 fl_X9_36 ob_5 rfl rfl ?_
  refine J_bipush hX 7 dX9_noteFacts_96 rfl ?_
  refine J_aload_n hX 0 dX9_noteFacts_98 rfl rfl ?_
  refine J_getI hX dX9_noteFacts_99 fl_X9_85 ob_5 rfl ?_
  refine J_iload_n hX 1 dX9_noteFacts_102 rfl rfl ?_
  refine J_ishr hX dX9_noteFacts_103 ?_
  refine J_iconst hX 1 dX9_noteFacts_104 rfl ?_
  refine J_iand hX dX9_noteFacts_105 ?_
  obtain ⟨h_4, e_5, hf⟩ := bndE hf
  refine J_ast hX 7 ((shr (h_2 5 9) x2) &&& 1) dX9_noteFacts_106 ar_14 (Or.inl ⟨rfl, rfl, rfl⟩) (by decide) (by decide) ?_
  refine J_nmh e_5 ?_
  refine J_aload_n hX 0 dX9_noteFacts_107 rfl rfl ?_
  refine J_getR hX 14 dX9_noteFacts_108 fl_X9_36 ob_5 rfl rfl ?_
  refine J_bipush hX 8 dX9_noteFacts_111 rfl ?_
  refine J_aload_n hX 0 dX9_noteFacts_113 rfl rfl ?_
  refine J_getI hX dX9_noteFacts_114 fl_X9_92 ob_5 rfl ?_
  refine J_iload_n hX 1 dX9_noteFacts_117 rfl rfl ?_
  refine J_ishr hX dX9_noteFacts_118 ?_
  refine J_iconst hX 1 dX9_noteFacts_119 rfl ?_
  refine J_iand hX dX9_noteFacts_120 ?_
  obtain ⟨h_6, e_7, hf⟩ := bndE hf
  refine J_ast hX 8 ((shr (h_4 5 10) x2) &&& 1) dX9_noteFacts_121 ar_14 (Or.inl ⟨rfl, rfl, rfl⟩) (by decide) (by decide) ?_
  refine J_nmh e_7 ?_
  exact E_Vi hX dX9_noteFacts_122 hf
set_option maxRecDepth 100000 in
set_option maxHeartbeats 200000 in
theorem T_X9_noteFacts_0 {X : CX} (hX : Ok X cX9_noteFacts 4 RX9 none) (hdx : dX X = 3) {r : Hp} (k1 : Nat) (hk1 : isCity k1) (x2 : Int32) (x3 : Int32) (h : Hp) (hf : f_X9_noteFacts k1 x2 x3 h = some r) : J X ((.inl none, r)) 0 [(0, .ref 5), (1, .ref k1), (2, .int x2), (3, .int x3)] [] h := by
  unfold f_X9_noteFacts at hf
  refine J_aload_n hX 1 dX9_noteFacts_0 rfl rfl ?_
  refine J_iload_n hX 2 dX9_noteFacts_1 rfl rfl ?_
  refine V_1 hX [.int x2] dX9_noteFacts_2 cw_X9_106 (city_ob hk1) rfl (C_X1_isHouse (okG hX) hk1 rfl) (ltD hdx rfl) rfl rfl rfl rfl ?_
  rcases ifE hf with ⟨c_1, hf⟩ | ⟨c_1, hf⟩
  · refine J_if_neT hX 9 dX9_noteFacts_5 rfl (b2iT c_1) ?_
    refine J_aload_n hX 0 dX9_noteFacts_9 rfl rfl ?_
    refine J_getR hX 14 dX9_noteFacts_10 fl_X9_36 ob_5 rfl rfl ?_
    refine J_iconst hX 0 dX9_noteFacts_13 rfl ?_
    refine J_iload_n hX 2 dX9_noteFacts_14 rfl rfl ?_
    obtain ⟨h_2, e_3, hf⟩ := bndE hf
    refine J_ast hX 0 x2 dX9_noteFacts_15 ar_14 (Or.inl ⟨rfl, rfl, rfl⟩) (by decide) (by decide) ?_
    refine J_nmh e_3 ?_
    refine J_aload_n hX 0 dX9_noteFacts_16 rfl rfl ?_
    refine J_getR hX 14 dX9_noteFacts_17 fl_X9_36 ob_5 rfl rfl ?_
    refine J_iconst hX 1 dX9_noteFacts_20 rfl ?_
    refine J_aload_n hX 1 dX9_noteFacts_21 rfl rfl ?_
    refine J_getR hX (k1 + 1) dX9_noteFacts_22 fl_X9_57 (city_ob hk1) rfl rfl ?_
    refine J_iload_n hX 2 dX9_noteFacts_25 rfl rfl ?_
    obtain ⟨g_4, hf⟩ := gdE hf
    refine J_ald hX x2.toNatClampNeg dX9_noteFacts_26 (city_ar 1 8 (by decide) hk1) (Or.inl ⟨rfl, rfl⟩) g_4 rfl ?_
    obtain ⟨h_5, e_6, hf⟩ := bndE hf
    refine J_ast hX 1 (h_2 (k1 + 1) x2.toNatClampNeg) dX9_noteFacts_27 ar_14 (Or.inl ⟨rfl, rfl, rfl⟩) (by decide) (by decide) ?_
    refine J_nmh e_6 ?_
    refine J_aload_n hX 0 dX9_noteFacts_28 rfl rfl ?_
    refine J_getR hX 14 dX9_noteFacts_29 fl_X9_36 ob_5 rfl rfl ?_
    refine J_iconst hX 2 dX9_noteFacts_32 rfl ?_
    refine J_aload_n hX 1 dX9_noteFacts_33 rfl rfl ?_
    refine J_getR hX (k1 + 3) dX9_noteFacts_34 fl_X9_63 (city_ob hk1) rfl rfl ?_
    refine J_iload_n hX 2 dX9_noteFacts_37 rfl rfl ?_
    obtain ⟨g_7, hf⟩ := gdE hf
    refine J_ald hX x2.toNatClampNeg dX9_noteFacts_38 (city_ar 3 8 (by decide) hk1) (Or.inl ⟨rfl, rfl⟩) g_7 rfl ?_
    obtain ⟨h_8, e_9, hf⟩ := bndE hf
    refine J_ast hX 2 (h_5 (k1 + 3) x2.toNatClampNeg) dX9_noteFacts_39 ar_14 (Or.inl ⟨rfl, rfl, rfl⟩) (by decide) (by decide) ?_
    refine J_nmh e_9 ?_
    refine J_aload_n hX 0 dX9_noteFacts_40 rfl rfl ?_
    refine J_getR hX 14 dX9_noteFacts_41 fl_X9_36 ob_5 rfl rfl ?_
    refine J_iconst hX 3 dX9_noteFacts_44 rfl ?_
    refine J_aload_n hX 1 dX9_noteFacts_45 rfl rfl ?_
    refine J_getR hX (k1 + 4) dX9_noteFacts_46 fl_X9_109 (city_ob hk1) rfl rfl ?_
    refine J_iload_n hX 2 dX9_noteFacts_49 rfl rfl ?_
    obtain ⟨g_10, hf⟩ := gdE hf
    refine J_ald hX x2.toNatClampNeg dX9_noteFacts_50 (city_ar 4 8 (by decide) hk1) (Or.inl ⟨rfl, rfl⟩) g_10 rfl ?_
    obtain ⟨h_11, e_12, hf⟩ := bndE hf
    refine J_ast hX 3 (h_8 (k1 + 4) x2.toNatClampNeg) dX9_noteFacts_51 ar_14 (Or.inl ⟨rfl, rfl, rfl⟩) (by decide) (by decide) ?_
    refine J_nmh e_12 ?_
    refine J_aload_n hX 0 dX9_noteFacts_52 rfl rfl ?_
    refine J_getR hX 14 dX9_noteFacts_53 fl_X9_36 ob_5 rfl rfl ?_
    refine J_iconst hX 4 dX9_noteFacts_56 rfl ?_
    refine J_iload_n hX 3 dX9_noteFacts_57 rfl rfl ?_
    obtain ⟨h_13, e_14, hf⟩ := bndE hf
    refine J_ast hX 4 x3 dX9_noteFacts_58 ar_14 (Or.inl ⟨rfl, rfl, rfl⟩) (by decide) (by decide) ?_
    refine J_nmh e_14 ?_
    refine J_aload_n hX 0 dX9_noteFacts_59 rfl rfl ?_
    refine J_getR hX 14 dX9_noteFacts_60 fl_X9_36 ob_5 rfl rfl ?_
    refine J_iconst hX 5 dX9_noteFacts_63 rfl ?_
    refine J_aload_n hX 0 dX9_noteFacts_64 rfl rfl ?_
    refine J_getR hX 6 dX9_noteFacts_65 fl_X9_9 ob_5 rfl rfl ?_
    refine J_iload_n hX 2 dX9_noteFacts_68 rfl rfl ?_
    obtain ⟨g_15, hf⟩ := gdE hf
    refine J_ald hX x2.toNatClampNeg dX9_noteFacts_69 ar_6 (Or.inl ⟨rfl, rfl⟩) g_15 rfl ?_
    obtain ⟨h_16, e_17, hf⟩ := bndE hf
    refine J_ast hX 5 (h_13 6 x2.toNatClampNeg) dX9_noteFacts_70 ar_14 (Or.inl ⟨rfl, rfl, rfl⟩) (by decide) (by decide) ?_
    refine J_nmh e_17 ?_
    refine J_aload_n hX 0 dX9_noteFacts_71 rfl rfl ?_
    refine J_getR hX 14 dX9_noteFacts_72 fl_X9_36 ob_5 rfl rfl ?_
    refine J_bipush hX 6 dX9_noteFacts_75 rfl ?_
    refine J_aload_n hX 0 dX9_noteFacts_77 rfl rfl ?_
    refine J_getR hX 12 dX9_noteFacts_78 fl_X9_30 ob_5 rfl rfl ?_
    refine J_iload_n hX 2 dX9_noteFacts_81 rfl rfl ?_
    obtain ⟨g_18, hf⟩ := gdE hf
    refine J_ald hX x2.toNatClampNeg dX9_noteFacts_82 ar_12 (Or.inl ⟨rfl, rfl⟩) g_18 rfl ?_
    rcases ifE hf with ⟨c_19, hf⟩ | ⟨c_19, hf⟩
    · refine J_if_leF hX 90 dX9_noteFacts_83 rfl c_19 ?_
      refine J_iconst hX 1 dX9_noteFacts_86 rfl ?_
      refine J_goto hX 91 dX9_noteFacts_87 rfl ?_
      refine J_sub [0, 2] [(0, .ref 5), (2, .int x2)] rfl ?_
      exact T_X9_noteFacts_91 hX hdx x2 1 6 h_16 hf
    · refine J_if_leT hX 90 dX9_noteFacts_83 rfl c_19 ?_
      refine J_iconst hX 0 dX9_noteFacts_90 rfl ?_
      refine J_sub [0, 2] [(0, .ref 5), (2, .int x2)] rfl ?_
      exact T_X9_noteFacts_91 hX hdx x2 0 6 h_16 hf
  · refine J_if_neF hX 9 dX9_noteFacts_5 rfl (b2iF c_1) ?_
    exact E_Vi hX dX9_noteFacts_8 hf
set_option maxRecDepth 100000 in
set_option maxHeartbeats 200000 in
theorem C_X9_noteFacts {G : GX} (hG : GOk G) {k1 : Nat} {x2 : Int32} {x3 : Int32} {h : Hp} {r : Hp} (hk1 : isCity k1) (hf : f_X9_noteFacts k1 x2 x3 h = some r) : Ctr G 3 yX9_noteFacts cX9_noteFacts 4 none [.ref 5, .ref k1, .int x2, .int x3] h ((.inl none, r)) :=
  Ctr_of hG RX9 rfl (by decide) rfl (fun X _ hdx hX => T_X9_noteFacts_0 hX hdx k1 hk1 x2 x3 h hf)
theorem dX4_joined_0 : decode cX4_joined 0 = .ok (.iload_n 0, 1) := by decide +kernel
theorem dX4_joined_1 : decode cX4_joined 1 = .ok (.tableswitch 61 11 14 #[31, 35, 46, 57], 31) := by decide +kernel
theorem dX4_joined_32 : decode cX4_joined 32 = .ok (.iload_n 1, 1) := by decide +kernel
theorem dX4_joined_33 : decode cX4_joined 33 = .ok (.iload_n 2, 1) := by decide +kernel
theorem dX4_joined_34 : decode cX4_joined 34 = .ok (.iadd, 1) := by decide +kernel
theorem dX4_joined_35 : decode cX4_joined 35 = .ok (.ireturn, 1) := by decide +kernel
theorem dX4_joined_36 : decode cX4_joined 36 = .ok (.iload_n 1, 1) := by decide +kernel
theorem dX4_joined_37 : decode cX4_joined 37 = .ok (.iload_n 2, 1) := by decide +kernel
theorem dX4_joined_38 : decode cX4_joined 38 = .ok (.if_icmp .ge 7, 3) := by decide +kernel
theorem dX4_joined_41 : decode cX4_joined 41 = .ok (.iconst 1, 1) := by decide +kernel
theorem dX4_joined_42 : decode cX4_joined 42 = .ok (.goto 4, 3) := by decide +kernel
theorem dX4_joined_45 : decode cX4_joined 45 = .ok (.iconst 0, 1) := by decide +kernel
theorem dX4_joined_46 : decode cX4_joined 46 = .ok (.ireturn, 1) := by decide +kernel
theorem dX4_joined_47 : decode cX4_joined 47 = .ok (.iload_n 1, 1) := by decide +kernel
theorem dX4_joined_48 : decode cX4_joined 48 = .ok (.iload_n 2, 1) := by decide +kernel
theorem dX4_joined_49 : decode cX4_joined 49 = .ok (.if_icmp .le 7, 3) := by decide +kernel
theorem dX4_joined_52 : decode cX4_joined 52 = .ok (.iconst 1, 1) := by decide +kernel
theorem dX4_joined_53 : decode cX4_joined 53 = .ok (.goto 4, 3) := by decide +kernel
theorem dX4_joined_56 : decode cX4_joined 56 = .ok (.iconst 0, 1) := by decide +kernel
theorem dX4_joined_57 : decode cX4_joined 57 = .ok (.ireturn, 1) := by decide +kernel
theorem dX4_joined_58 : decode cX4_joined 58 = .ok (.iload_n 1, 1) := by decide +kernel
theorem dX4_joined_59 : decode cX4_joined 59 = .ok (.iload_n 2, 1) := by decide +kernel
theorem dX4_joined_60 : decode cX4_joined 60 = .ok (.iand, 1) := by decide +kernel
theorem dX4_joined_61 : decode cX4_joined 61 = .ok (.ireturn, 1) := by decide +kernel
theorem dX4_joined_62 : decode cX4_joined 62 = .ok (.iload_n 1, 1) := by decide +kernel
theorem dX4_joined_63 : decode cX4_joined 63 = .ok (.iload_n 2, 1) := by decide +kernel
theorem dX4_joined_64 : decode cX4_joined 64 = .ok (.ior, 1) := by decide +kernel
theorem dX4_joined_65 : decode cX4_joined 65 = .ok (.ireturn, 1) := by decide +kernel
set_option maxRecDepth 100000 in
set_option maxHeartbeats 200000 in
theorem T_X4_joined_0 {X : CX} (hX : Ok X cX4_joined 3 RX4 (some .int)) (hdx : dX X = 2) {r : Int32} (x0 : Int32) (x1 : Int32) (x2 : Int32) (h : Hp) (hf : f_X4_joined x0 x1 x2 h = r) : J X ((.inl (some (.int r)), h)) 0 [(0, .int x0), (1, .int x1), (2, .int x2)] [] h := by
  unfold f_X4_joined at hf
  refine J_iload_n hX 0 dX4_joined_0 rfl rfl ?_
  rcases ifE hf with ⟨c_1, hf⟩ | ⟨c_1, hf⟩
  · refine J_nm c_1 ?_
    refine J_switchIn hX (off := 31) 32 dX4_joined_1 (by decide) (by decide) (by decide) rfl ?_
    refine J_iload_n hX 1 dX4_joined_32 rfl rfl ?_
    refine J_iload_n hX 2 dX4_joined_33 rfl rfl ?_
    refine J_iadd hX dX4_joined_34 ?_
    exact E_It hX dX4_joined_35 hf
  rcases ifE hf with ⟨c_2, hf⟩ | ⟨c_2, hf⟩
  · refine J_nm c_2 ?_
    refine J_switchIn hX (off := 35) 36 dX4_joined_1 (by decide) (by decide) (by decide) rfl ?_
    refine J_iload_n hX 1 dX4_joined_36 rfl rfl ?_
    refine J_iload_n hX 2 dX4_joined_37 rfl rfl ?_
    rcases ifE hf with ⟨c_3, hf⟩ | ⟨c_3, hf⟩
    · refine J_icmp_geF hX 45 dX4_joined_38 rfl c_3 ?_
      refine J_iconst hX 1 dX4_joined_41 rfl ?_
      refine J_goto hX 46 dX4_joined_42 rfl ?_
      exact E_It hX dX4_joined_46 hf
    · refine J_icmp_geT hX 45 dX4_joined_38 rfl c_3 ?_
      refine J_iconst hX 0 dX4_joined_45 rfl ?_
      exact E_It hX dX4_joined_46 hf
  rcases ifE hf with ⟨c_4, hf⟩ | ⟨c_4, hf⟩
  · refine J_nm c_4 ?_
    refine J_switchIn hX (off := 46) 47 dX4_joined_1 (by decide) (by decide) (by decide) rfl ?_
    refine J_iload_n hX 1 dX4_joined_47 rfl rfl ?_
    refine J_iload_n hX 2 dX4_joined_48 rfl rfl ?_
    rcases ifE hf with ⟨c_5, hf⟩ | ⟨c_5, hf⟩
    · refine J_icmp_leF hX 56 dX4_joined_49 rfl c_5 ?_
      refine J_iconst hX 1 dX4_joined_52 rfl ?_
      refine J_goto hX 57 dX4_joined_53 rfl ?_
      exact E_It hX dX4_joined_57 hf
    · refine J_icmp_leT hX 56 dX4_joined_49 rfl c_5 ?_
      refine J_iconst hX 0 dX4_joined_56 rfl ?_
      exact E_It hX dX4_joined_57 hf
  rcases ifE hf with ⟨c_6, hf⟩ | ⟨c_6, hf⟩
  · refine J_nm c_6 ?_
    refine J_switchIn hX (off := 57) 58 dX4_joined_1 (by decide) (by decide) (by decide) rfl ?_
    refine J_iload_n hX 1 dX4_joined_58 rfl rfl ?_
    refine J_iload_n hX 2 dX4_joined_59 rfl rfl ?_
    refine J_iand hX dX4_joined_60 ?_
    exact E_It hX dX4_joined_61 hf
  refine J_switchOut hX 62 dX4_joined_1 (sw_def 11 14 x0 (fun v_ a_ b_ => ?_)) rfl ?_
  · rcases (show v_ = 11 ∨ v_ = 12 ∨ v_ = 13 ∨ v_ = 14 by omega) with rfl | rfl | rfl | rfl
    · exact c_1
    · exact c_2
    · exact c_4
    · exact c_6
  refine J_iload_n hX 1 dX4_joined_62 rfl rfl ?_
  refine J_iload_n hX 2 dX4_joined_63 rfl rfl ?_
  refine J_ior hX dX4_joined_64 ?_
  exact E_It hX dX4_joined_65 hf
set_option maxRecDepth 100000 in
set_option maxHeartbeats 200000 in
theorem C_X4_joined {G : GX} (hG : GOk G) {x0 : Int32} {x1 : Int32} {x2 : Int32} {h : Hp} {r : Int32} (hf : f_X4_joined x0 x1 x2 h = r) : Ctr G 2 yX4_joined cX4_joined 3 (some .int) [.int x0, .int x1, .int x2] h ((.inl (some (.int r)), h)) :=
  Ctr_of hG RX4 rfl (by decide) rfl (fun X _ hdx hX => T_X4_joined_0 hX hdx x0 x1 x2 h hf)
theorem dX4_holds_0 : decode cX4_holds 0 = .ok (.iconst 0, 1) := by decide +kernel
theorem dX4_holds_1 : decode cX4_holds 1 = .ok (.istore 4, 2) := by decide +kernel
theorem dX4_holds_3 : decode cX4_holds 3 = .ok (.iload_n 1, 1) := by decide +kernel
theorem dX4_holds_4 : decode cX4_holds 4 = .ok (.istore 5, 2) := by decide +kernel
theorem dX4_holds_6 : decode cX4_holds 6 = .ok (.iload 5, 2) := by decide +kernel
theorem dX4_holds_8 : decode cX4_holds 8 = .ok (.ifCond .lt 176, 3) := by decide +kernel
theorem dX4_holds_11 : decode cX4_holds 11 = .ok (.iload 5, 2) := by decide +kernel
theorem dX4_holds_13 : decode cX4_holds 13 = .ok (.iload_n 2, 1) := by decide +kernel
theorem dX4_holds_14 : decode cX4_holds 14 = .ok (.if_icmp .ge 170, 3) := by decide +kernel
theorem dX4_holds_17 : decode cX4_holds 17 = .ok (.iload 5, 2) := by decide +kernel
theorem dX4_holds_19 : decode cX4_holds 19 = .ok (.sipush 400, 3) := by decide +kernel
theorem dX4_holds_22 : decode cX4_holds 22 = .ok (.if_icmp .ge 162, 3) := by decide +kernel
theorem dX4_holds_25 : decode cX4_holds 25 = .ok (.aload_n 0, 1) := by decide +kernel
theorem dX4_holds_26 : decode cX4_holds 26 = .ok (.getfield 24, 3) := by decide +kernel
theorem dX4_holds_29 : decode cX4_holds 29 = .ok (.iload 5, 2) := by decide +kernel
theorem dX4_holds_31 : decode cX4_holds 31 = .ok (.iaload, 1) := by decide +kernel
theorem dX4_holds_32 : decode cX4_holds 32 = .ok (.istore 6, 2) := by decide +kernel
theorem dX4_holds_34 : decode cX4_holds 34 = .ok (.iload 6, 2) := by decide +kernel
theorem dX4_holds_36 : decode cX4_holds 36 = .ok (.bipush 10, 2) := by decide +kernel
theorem dX4_holds_38 : decode cX4_holds 38 = .ok (.if_icmp .ne 39, 3) := by decide +kernel
theorem dX4_holds_41 : decode cX4_holds 41 = .ok (.iload 4, 2) := by decide +kernel
theorem dX4_holds_43 : decode cX4_holds 43 = .ok (.iconst 1, 1) := by decide +kernel
theorem dX4_holds_44 : decode cX4_holds 44 = .ok (.if_icmp .lt 134, 3) := by decide +kernel
theorem dX4_holds_47 : decode cX4_holds 47 = .ok (.iload 4, 2) := by decide +kernel
theorem dX4_holds_49 : decode cX4_holds 49 = .ok (.bipush 32, 2) := by decide +kernel
theorem dX4_holds_51 : decode cX4_holds 51 = .ok (.if_icmp .gt 127, 3) := by decide +kernel
theorem dX4_holds_54 : decode cX4_holds 54 = .ok (.aload_n 0, 1) := by decide +kernel
theorem dX4_holds_55 : decode cX4_holds 55 = .ok (.getfield 30, 3) := by decide +kernel
theorem dX4_holds_58 : decode cX4_holds 58 = .ok (.iload 4, 2) := by decide +kernel
theorem dX4_holds_60 : decode cX4_holds 60 = .ok (.iconst 1, 1) := by decide +kernel
theorem dX4_holds_61 : decode cX4_holds 61 = .ok (.isub, 1) := by decide +kernel
theorem dX4_holds_62 : decode cX4_holds 62 = .ok (.iconst 1, 1) := by decide +kernel
theorem dX4_holds_63 : decode cX4_holds 63 = .ok (.aload_n 0, 1) := by decide +kernel
theorem dX4_holds_64 : decode cX4_holds 64 = .ok (.getfield 30, 3) := by decide +kernel
theorem dX4_holds_67 : decode cX4_holds 67 = .ok (.iload 4, 2) := by decide +kernel
theorem dX4_holds_69 : decode cX4_holds 69 = .ok (.iconst 1, 1) := by decide +kernel
theorem dX4_holds_70 : decode cX4_holds 70 = .ok (.isub, 1) := by decide +kernel
theorem dX4_holds_71 : decode cX4_holds 71 = .ok (.iaload, 1) := by decide +kernel
theorem dX4_holds_72 : decode cX4_holds 72 = .ok (.isub, 1) := by decide +kernel
theorem dX4_holds_73 : decode cX4_holds 73 = .ok (.iastore, 1) := by decide +kernel
theorem dX4_holds_74 : decode cX4_holds 74 = .ok (.goto 104, 3) := by decide +kernel
theorem dX4_holds_77 : decode cX4_holds 77 = .ok (.iload 6, 2) := by decide +kernel
theorem dX4_holds_79 : decode cX4_holds 79 = .ok (.bipush 10, 2) := by decide +kernel
theorem dX4_holds_81 : decode cX4_holds 81 = .ok (.if_icmp .le 54, 3) := by decide +kernel
theorem dX4_holds_84 : decode cX4_holds 84 = .ok (.iload 4, 2) := by decide +kernel
theorem dX4_holds_86 : decode cX4_holds 86 = .ok (.iconst 2, 1) := by decide +kernel
theorem dX4_holds_87 : decode cX4_holds 87 = .ok (.if_icmp .lt 91, 3) := by decide +kernel
theorem dX4_holds_90 : decode cX4_holds 90 = .ok (.iload 4, 2) := by decide +kernel
theorem dX4_holds_92 : decode cX4_holds 92 = .ok (.bipush 32, 2) := by decide +kernel
theorem dX4_holds_94 : decode cX4_holds 94 = .ok (.if_icmp .gt 84, 3) := by decide +kernel
theorem dX4_holds_97 : decode cX4_holds 97 = .ok (.aload_n 0, 1) := by decide +kernel
theorem dX4_holds_98 : decode cX4_holds 98 = .ok (.getfield 30, 3) := by decide +kernel
theorem dX4_holds_101 : decode cX4_holds 101 = .ok (.iload 4, 2) := by decide +kernel
theorem dX4_holds_103 : decode cX4_holds 103 = .ok (.iconst 2, 1) := by decide +kernel
theorem dX4_holds_104 : decode cX4_holds 104 = .ok (.isub, 1) := by decide +kernel
theorem dX4_holds_105 : decode cX4_holds 105 = .ok (.iload 6, 2) := by decide +kernel
theorem dX4_holds_107 : decode cX4_holds 107 = .ok (.aload_n 0, 1) := by decide +kernel
theorem dX4_holds_108 : decode cX4_holds 108 = .ok (.getfield 30, 3) := by decide +kernel
theorem dX4_holds_111 : decode cX4_holds 111 = .ok (.iload 4, 2) := by decide +kernel
theorem dX4_holds_113 : decode cX4_holds 113 = .ok (.iconst 2, 1) := by decide +kernel
theorem dX4_holds_114 : decode cX4_holds 114 = .ok (.isub, 1) := by decide +kernel
theorem dX4_holds_115 : decode cX4_holds 115 = .ok (.iaload, 1) := by decide +kernel
theorem dX4_holds_116 : decode cX4_holds 116 = .ok (.aload_n 0, 1) := by decide +kernel
theorem dX4_holds_117 : decode cX4_holds 117 = .ok (.getfield 30, 3) := by decide +kernel
theorem dX4_holds_120 : decode cX4_holds 120 = .ok (.iload 4, 2) := by decide +kernel
theorem dX4_holds_122 : decode cX4_holds 122 = .ok (.iconst 1, 1) := by decide +kernel
theorem dX4_holds_123 : decode cX4_holds 123 = .ok (.isub, 1) := by decide +kernel
theorem dX4_holds_124 : decode cX4_holds 124 = .ok (.iaload, 1) := by decide +kernel
theorem dX4_holds_125 : decode cX4_holds 125 = .ok (.invokestatic 50, 3) := by decide +kernel
theorem dX4_holds_128 : decode cX4_holds 128 = .ok (.iastore, 1) := by decide +kernel
theorem dX4_holds_129 : decode cX4_holds 129 = .ok (.iinc 4 (-1), 3) := by decide +kernel
theorem dX4_holds_132 : decode cX4_holds 132 = .ok (.goto 46, 3) := by decide +kernel
theorem dX4_holds_135 : decode cX4_holds 135 = .ok (.iload 4, 2) := by decide +kernel
theorem dX4_holds_137 : decode cX4_holds 137 = .ok (.bipush 32, 2) := by decide +kernel
theorem dX4_holds_139 : decode cX4_holds 139 = .ok (.if_icmp .ge 39, 3) := by decide +kernel
theorem dX4_holds_142 : decode cX4_holds 142 = .ok (.aload_n 0, 1) := by decide +kernel
theorem dX4_holds_143 : decode cX4_holds 143 = .ok (.getfield 30, 3) := by decide +kernel
theorem dX4_holds_146 : decode cX4_holds 146 = .ok (.iload 4, 2) := by decide +kernel
theorem dX4_holds_148 : decode cX4_holds 148 = .ok (.iload 6, 2) := by decide +kernel
theorem dX4_holds_150 : decode cX4_holds 150 = .ok (.ifCond .lt 17, 3) := by decide +kernel
theorem dX4_holds_153 : decode cX4_holds 153 = .ok (.iload 6, 2) := by decide +kernel
theorem dX4_holds_155 : decode cX4_holds 155 = .ok (.aload_n 3, 1) := by decide +kernel
theorem dX4_holds_156 : decode cX4_holds 156 = .ok (.arraylength, 1) := by decide +kernel
theorem dX4_holds_157 : decode cX4_holds 157 = .ok (.if_icmp .ge 10, 3) := by decide +kernel
theorem dX4_holds_160 : decode cX4_holds 160 = .ok (.aload_n 3, 1) := by decide +kernel
theorem dX4_holds_161 : decode cX4_holds 161 = .ok (.iload 6, 2) := by decide +kernel
theorem dX4_holds_163 : decode cX4_holds 163 = .ok (.iaload, 1) := by decide +kernel
theorem dX4_holds_164 : decode cX4_holds 164 = .ok (.goto 10, 3) := by decide +kernel
theorem dX4_holds_167 : decode cX4_holds 167 = .ok (.aload_n 0, 1) := by decide +kernel
theorem dX4_holds_168 : decode cX4_holds 168 = .ok (.getfield 27, 3) := by decide +kernel
theorem dX4_holds_171 : decode cX4_holds 171 = .ok (.iload 5, 2) := by decide +kernel
theorem dX4_holds_173 : decode cX4_holds 173 = .ok (.iaload, 1) := by decide +kernel
theorem dX4_holds_174 : decode cX4_holds 174 = .ok (.iastore, 1) := by decide +kernel
theorem dX4_holds_175 : decode cX4_holds 175 = .ok (.iinc 4 1, 3) := by decide +kernel
theorem dX4_holds_178 : decode cX4_holds 178 = .ok (.iinc 5 1, 3) := by decide +kernel
theorem dX4_holds_181 : decode cX4_holds 181 = .ok (.goto (-175), 3) := by decide +kernel
theorem dX4_holds_184 : decode cX4_holds 184 = .ok (.iload 4, 2) := by decide +kernel
theorem dX4_holds_186 : decode cX4_holds 186 = .ok (.ifCond .eq 12, 3) := by decide +kernel
theorem dX4_holds_189 : decode cX4_holds 189 = .ok (.aload_n 0, 1) := by decide +kernel
theorem dX4_holds_190 : decode cX4_holds 190 = .ok (.getfield 30, 3) := by decide +kernel
theorem dX4_holds_193 : decode cX4_holds 193 = .ok (.iconst 0, 1) := by decide +kernel
theorem dX4_holds_194 : decode cX4_holds 194 = .ok (.iaload, 1) := by decide +kernel
theorem dX4_holds_195 : decode cX4_holds 195 = .ok (.ifCond .eq 7, 3) := by decide +kernel
theorem dX4_holds_198 : decode cX4_holds 198 = .ok (.iconst 1, 1) := by decide +kernel
theorem dX4_holds_199 : decode cX4_holds 199 = .ok (.goto 4, 3) := by decide +kernel
theorem dX4_holds_202 : decode cX4_holds 202 = .ok (.iconst 0, 1) := by decide +kernel
theorem dX4_holds_203 : decode cX4_holds 203 = .ok (.ireturn, 1) := by decide +kernel
set_option maxRecDepth 100000 in
set_option maxHeartbeats 200000 in
theorem T_X4_holds_184 {X : CX} (hX : Ok X cX4_holds 7 RX4 (some .boolean)) (hdx : dX X = 3) {r : Bool × Hp} (k0 : Nat) (hk0 : isLaw k0) (x4 : Int32) (h : Hp) (hf : F_X4_holds_184 k0 x4 h = some r) : J X ((.inl (some (.int (b2i r.1))), r.2)) 184 [(0, .ref k0), (4, .int x4)] [] h := by
  unfold F_X4_holds_184 at hf
  refine J_iload hX 1 dX4_holds_184 rfl ?_
  rcases ifE hf with ⟨c_1, hf⟩ | ⟨c_1, hf⟩
  · refine J_if_eqT hX 198 dX4_holds_186 rfl c_1 ?_
    refine J_iconst hX 1 dX4_holds_198 rfl ?_
    refine J_goto hX 203 dX4_holds_199 rfl ?_
    exact E_Zi hX dX4_holds_203 rfl hf
  · refine J_if_eqF hX 198 dX4_holds_186 rfl c_1 ?_
    refine J_aload_n hX 0 dX4_holds_189 rfl rfl ?_
    refine J_getR hX (k0 + 7) dX4_holds_190 fl_X4_30 (law_ob hk0) rfl rfl ?_
    refine J_iconst hX 0 dX4_holds_193 rfl ?_
    refine J_ald hX 0 dX4_holds_194 (law_ar 7 32 (by decide) hk0) (Or.inl ⟨rfl, rfl⟩) (by decide) (by decide) ?_
    rcases ifE hf with ⟨c_2, hf⟩ | ⟨c_2, hf⟩
    · refine J_if_eqT hX 202 dX4_holds_195 rfl c_2 ?_
      refine J_iconst hX 0 dX4_holds_202 rfl ?_
      exact E_Zi hX dX4_holds_203 rfl hf
    · refine J_if_eqF hX 202 dX4_holds_195 rfl c_2 ?_
      refine J_iconst hX 1 dX4_holds_198 rfl ?_
      refine J_goto hX 203 dX4_holds_199 rfl ?_
      exact E_Zi hX dX4_holds_203 rfl hf
set_option maxRecDepth 100000 in
set_option maxHeartbeats 200000 in
theorem T_X4_holds_174 {X : CX} (hX : Ok X cX4_holds 7 RX4 (some .boolean)) (hdx : dX X = 3) {r : Bool × Hp} (k0 : Nat) (hk0 : isLaw k0) (x2 : Int32) (x4 : Int32) (x5 : Int32) (t0 : Int32) (t1 : Int32) (q_6 : Int32 → Int32 → Hp → Option (Bool × Hp)) (hq_6 : ∀ (x4 : Int32) (x5 : Int32) (h : Hp), q_6 x4 x5 h = some r → J X ((.inl (some (.int (b2i r.1))), r.2)) 6 [(0, .ref k0), (2, .int x2), (3, .ref 14), (4, .int x4), (5, .int x5)] [] h) (h : Hp) (hf : F_X4_holds_174 q_6 k0 x2 x4 x5 t0 t1 h = some r) : J X ((.inl (some (.int (b2i r.1))), r.2)) 174 [(0, .ref k0), (2, .int x2), (3, .ref 14), (4, .int x4), (5, .int x5)] [.int t0, .int t1, .ref (k0 + 7)] h := by
  unfold F_X4_holds_174 at hf
  obtain ⟨g_1, hf⟩ := gdE hf
  obtain ⟨h_2, e_3, hf⟩ := bndE hf
  refine J_ast hX t1.toNatClampNeg t0 dX4_holds_174 (law_ar 7 32 (by decide) hk0) (Or.inl ⟨rfl, rfl, rfl⟩) g_1 rfl ?_
  refine J_nmh e_3 ?_
  refine J_iinc hX (x4 + 1) 3 [(4, .int (x4 + 1)), (0, .ref k0), (2, .int x2), (3, .ref 14), (5, .int x5)] dX4_holds_175 rfl rfl rfl rfl ?_
  refine J_iinc hX (x5 + 1) 4 [(5, .int (x5 + 1)), (4, .int (x4 + 1)), (0, .ref k0), (2, .int x2), (3, .ref 14)] dX4_holds_178 rfl rfl rfl rfl ?_
  refine J_goto hX 6 dX4_holds_181 rfl ?_
  refine J_sub [2, 3, 4, 1, 0] [(0, .ref k0), (2, .int x2), (3, .ref 14), (4, .int (x4 + 1)), (5, .int (x5 + 1))] rfl ?_
  exact hq_6 (x4 + 1) (x5 + 1) h_2 hf
set_option maxRecDepth 100000 in
set_option maxHeartbeats 200000 in
theorem T_X4_holds_167 {X : CX} (hX : Ok X cX4_holds 7 RX4 (some .boolean)) (hdx : dX X = 3) {r : Bool × Hp} (k0 : Nat) (hk0 : isLaw k0) (x2 : Int32) (x4 : Int32) (x5 : Int32) (t0 : Int32) (q_6 : Int32 → Int32 → Hp → Option (Bool × Hp)) (hq_6 : ∀ (x4 : Int32) (x5 : Int32) (h : Hp), q_6 x4 x5 h = some r → J X ((.inl (some (.int (b2i r.1))), r.2)) 6 [(0, .ref k0), (2, .int x2), (3, .ref 14), (4, .int x4), (5, .int x5)] [] h) (h : Hp) (hf : F_X4_holds_167 q_6 k0 x2 x4 x5 t0 h = some r) : J X ((.inl (some (.int (b2i r.1))), r.2)) 167 [(0, .ref k0), (2, .int x2), (3, .ref 14), (4, .int x4), (5, .int x5)] [.int t0, .ref (k0 + 7)] h := by
  unfold F_X4_holds_167 at hf
  refine J_aload_n hX 0 dX4_holds_167 rfl rfl ?_
  refine J_getR hX (k0 + 6) dX4_holds_168 fl_X4_27 (law_ob hk0) rfl rfl ?_
  refine J_iload hX 4 dX4_holds_171 rfl ?_
  obtain ⟨g_1, hf⟩ := gdE hf
  refine J_ald hX x5.toNatClampNeg dX4_holds_173 (law_ar 6 400 (by decide) hk0) (Or.inl ⟨rfl, rfl⟩) g_1 rfl ?_
  exact T_X4_holds_174 hX hdx k0 hk0 x2 x4 x5 (h (k0 + 6) x5.toNatClampNeg) t0 q_6 hq_6 h hf
set_option maxRecDepth 100000 in
set_option maxHeartbeats 200000 in
theorem T_X4_holds_6_s {X : CX} (hX : Ok X cX4_holds 7 RX4 (some .boolean)) (hdx : dX X = 3) {r : Bool × Hp} (k0 : Nat) (hk0 : isLaw k0) (x2 : Int32) (q_6 : Int32 → Int32 → Hp → Option (Bool × Hp)) (hq_6 : ∀ (x4 : Int32) (x5 : Int32) (h : Hp), q_6 x4 x5 h = some r → J X ((.inl (some (.int (b2i r.1))), r.2)) 6 [(0, .ref k0), (2, .int x2), (3, .ref 14), (4, .int x4), (5, .int x5)] [] h) (x4 : Int32) (x5 : Int32) (h : Hp) (hf : S_X4_holds_6 k0 x2 q_6 x4 x5 h = some r) : J X ((.inl (some (.int (b2i r.1))), r.2)) 6 [(0, .ref k0), (2, .int x2), (3, .ref 14), (4, .int x4), (5, .int x5)] [] h := by
  unfold S_X4_holds_6 at hf
  refine J_iload hX 4 dX4_holds_6 rfl ?_
  rcases ifE hf with ⟨c_1, hf⟩ | ⟨c_1, hf⟩
  · refine J_if_ltT hX 184 dX4_holds_8 rfl c_1 ?_
    refine J_sub [0, 3] [(0, .ref k0), (4, .int x4)] rfl ?_
    exact T_X4_holds_184 hX hdx k0 hk0 x4 h hf
  · refine J_if_ltF hX 184 dX4_holds_8 rfl c_1 ?_
    refine J_iload hX 4 dX4_holds_11 rfl ?_
    refine J_iload_n hX 1 dX4_holds_13 rfl rfl ?_
    rcases ifE hf with ⟨c_2, hf⟩ | ⟨c_2, hf⟩
    · refine J_icmp_geF hX 184 dX4_holds_14 rfl c_2 ?_
      refine J_iload hX 4 dX4_holds_17 rfl ?_
      refine J_sipush hX 400 dX4_holds_19 rfl ?_
      rcases ifE hf with ⟨c_3, hf⟩ | ⟨c_3, hf⟩
      · refine J_icmp_geF hX 184 dX4_holds_22 rfl c_3 ?_
        refine J_aload_n hX 0 dX4_holds_25 rfl rfl ?_
        refine J_getR hX (k0 + 5) dX4_holds_26 fl_X4_24 (law_ob hk0) rfl rfl ?_
        refine J_iload hX 4 dX4_holds_29 rfl ?_
        obtain ⟨g_4, hf⟩ := gdE hf
        refine J_ald hX x5.toNatClampNeg dX4_holds_31 (law_ar 5 400 (by decide) hk0) (Or.inl ⟨rfl, rfl⟩) g_4 rfl ?_
        obtain ⟨x6_5, e_6, hf⟩ := bndE hf
        refine J_nm e_6 ?_
        refine J_istore hX [(6, .int x6_5), (0, .ref k0), (2, .int x2), (3, .ref 14), (4, .int x4), (5, .int x5)] dX4_holds_32 rfl rfl ?_
        refine J_iload hX 0 dX4_holds_34 rfl ?_
        refine J_bipush hX 10 dX4_holds_36 rfl ?_
        rcases ifE hf with ⟨c_7, hf⟩ | ⟨c_7, hf⟩
        · refine J_icmp_neF hX 77 dX4_holds_38 rfl c_7 ?_
          refine J_iload hX 4 dX4_holds_41 rfl ?_
          refine J_iconst hX 1 dX4_holds_43 rfl ?_
          rcases ifE hf with ⟨c_8, hf⟩ | ⟨c_8, hf⟩
          · refine J_icmp_ltT hX 178 dX4_holds_44 rfl c_8 ?_
            refine J_iinc hX (x5 + 1) 5 [(5, .int (x5 + 1)), (6, .int x6_5), (0, .ref k0), (2, .int x2), (3, .ref 14), (4, .int x4)] dX4_holds_178 rfl rfl rfl rfl ?_
            refine J_goto hX 6 dX4_holds_181 rfl ?_
            refine J_sub [2, 3, 4, 5, 0] [(0, .ref k0), (2, .int x2), (3, .ref 14), (4, .int x4), (5, .int (x5 + 1))] rfl ?_
            exact hq_6 x4 (x5 + 1) h hf
          · refine J_icmp_ltF hX 178 dX4_holds_44 rfl c_8 ?_
            refine J_iload hX 4 dX4_holds_47 rfl ?_
            refine J_bipush hX 32 dX4_holds_49 rfl ?_
            rcases ifE hf with ⟨c_9, hf⟩ | ⟨c_9, hf⟩
            · refine J_icmp_gtT hX 178 dX4_holds_51 rfl c_9 ?_
              refine J_iinc hX (x5 + 1) 5 [(5, .int (x5 + 1)), (6, .int x6_5), (0, .ref k0), (2, .int x2), (3, .ref 14), (4, .int x4)] dX4_holds_178 rfl rfl rfl rfl ?_
              refine J_goto hX 6 dX4_holds_181 rfl ?_
              refine J_sub [2, 3, 4, 5, 0] [(0, .ref k0), (2, .int x2), (3, .ref 14), (4, .int x4), (5, .int (x5 + 1))] rfl ?_
              exact hq_6 x4 (x5 + 1) h hf
            · refine J_icmp_gtF hX 178 dX4_holds_51 rfl c_9 ?_
              refine J_aload_n hX 1 dX4_holds_54 rfl rfl ?_
              refine J_getR hX (k0 + 7) dX4_holds_55 fl_X4_30 (law_ob hk0) rfl rfl ?_
              refine J_iload hX 4 dX4_holds_58 rfl ?_
              refine J_iconst hX 1 dX4_holds_60 rfl ?_
              refine J_isub hX dX4_holds_61 ?_
              refine J_iconst hX 1 dX4_holds_62 rfl ?_
              refine J_aload_n hX 1 dX4_holds_63 rfl rfl ?_
              refine J_getR hX (k0 + 7) dX4_holds_64 fl_X4_30 (law_ob hk0) rfl rfl ?_
              refine J_iload hX 4 dX4_holds_67 rfl ?_
              refine J_iconst hX 1 dX4_holds_69 rfl ?_
              refine J_isub hX dX4_holds_70 ?_
              obtain ⟨g_10, hf⟩ := gdE hf
              refine J_ald hX ((x4 - 1).toNatClampNeg) dX4_holds_71 (law_ar 7 32 (by decide) hk0) (Or.inl ⟨rfl, rfl⟩) g_10 rfl ?_
              refine J_isub hX dX4_holds_72 ?_
              obtain ⟨g_11, hf⟩ := gdE hf
              obtain ⟨h_12, e_13, hf⟩ := bndE hf
              refine J_ast hX ((x4 - 1).toNatClampNeg) (1 - (h (k0 + 7) ((x4 - 1).toNatClampNeg))) dX4_holds_73 (law_ar 7 32 (by decide) hk0) (Or.inl ⟨rfl, rfl, rfl⟩) g_11 rfl ?_
              refine J_nmh e_13 ?_
              refine J_goto hX 178 dX4_holds_74 rfl ?_
              refine J_iinc hX (x5 + 1) 5 [(5, .int (x5 + 1)), (6, .int x6_5), (0, .ref k0), (2, .int x2), (3, .ref 14), (4, .int x4)] dX4_holds_178 rfl rfl rfl rfl ?_
              refine J_goto hX 6 dX4_holds_181 rfl ?_
              refine J_sub [2, 3, 4, 5, 0] [(0, .ref k0), (2, .int x2), (3, .ref 14), (4, .int x4), (5, .int (x5 + 1))] rfl ?_
              exact hq_6 x4 (x5 + 1) h_12 hf
        · refine J_icmp_neT hX 77 dX4_holds_38 rfl c_7 ?_
          refine J_iload hX 0 dX4_holds_77 rfl ?_
          refine J_bipush hX 10 dX4_holds_79 rfl ?_
          rcases ifE hf with ⟨c_14, hf⟩ | ⟨c_14, hf⟩
          · refine J_icmp_leF hX 135 dX4_holds_81 rfl c_14 ?_
            refine J_iload hX 4 dX4_holds_84 rfl ?_
            refine J_iconst hX 2 dX4_holds_86 rfl ?_
            rcases ifE hf with ⟨c_15, hf⟩ | ⟨c_15, hf⟩
            · refine J_icmp_ltT hX 178 dX4_holds_87 rfl c_15 ?_
              refine J_iinc hX (x5 + 1) 5 [(5, .int (x5 + 1)), (6, .int x6_5), (0, .ref k0), (2, .int x2), (3, .ref 14), (4, .int x4)] dX4_holds_178 rfl rfl rfl rfl ?_
              refine J_goto hX 6 dX4_holds_181 rfl ?_
              refine J_sub [2, 3, 4, 5, 0] [(0, .ref k0), (2, .int x2), (3, .ref 14), (4, .int x4), (5, .int (x5 + 1))] rfl ?_
              exact hq_6 x4 (x5 + 1) h hf
            · refine J_icmp_ltF hX 178 dX4_holds_87 rfl c_15 ?_
              refine J_iload hX 4 dX4_holds_90 rfl ?_
              refine J_bipush hX 32 dX4_holds_92 rfl ?_
              rcases ifE hf with ⟨c_16, hf⟩ | ⟨c_16, hf⟩
              · refine J_icmp_gtT hX 178 dX4_holds_94 rfl c_16 ?_
                refine J_iinc hX (x5 + 1) 5 [(5, .int (x5 + 1)), (6, .int x6_5), (0, .ref k0), (2, .int x2), (3, .ref 14), (4, .int x4)] dX4_holds_178 rfl rfl rfl rfl ?_
                refine J_goto hX 6 dX4_holds_181 rfl ?_
                refine J_sub [2, 3, 4, 5, 0] [(0, .ref k0), (2, .int x2), (3, .ref 14), (4, .int x4), (5, .int (x5 + 1))] rfl ?_
                exact hq_6 x4 (x5 + 1) h hf
              · refine J_icmp_gtF hX 178 dX4_holds_94 rfl c_16 ?_
                refine J_aload_n hX 1 dX4_holds_97 rfl rfl ?_
                refine J_getR hX (k0 + 7) dX4_holds_98 fl_X4_30 (law_ob hk0) rfl rfl ?_
                refine J_iload hX 4 dX4_holds_101 rfl ?_
                refine J_iconst hX 2 dX4_holds_103 rfl ?_
                refine J_isub hX dX4_holds_104 ?_
                refine J_iload hX 0 dX4_holds_105 rfl ?_
                refine J_aload_n hX 1 dX4_holds_107 rfl rfl ?_
                refine J_getR hX (k0 + 7) dX4_holds_108 fl_X4_30 (law_ob hk0) rfl rfl ?_
                refine J_iload hX 4 dX4_holds_111 rfl ?_
                refine J_iconst hX 2 dX4_holds_113 rfl ?_
                refine J_isub hX dX4_holds_114 ?_
                obtain ⟨g_17, hf⟩ := gdE hf
                refine J_ald hX ((x4 - 2).toNatClampNeg) dX4_holds_115 (law_ar 7 32 (by decide) hk0) (Or.inl ⟨rfl, rfl⟩) g_17 rfl ?_
                refine J_aload_n hX 1 dX4_holds_116 rfl rfl ?_
                refine J_getR hX (k0 + 7) dX4_holds_117 fl_X4_30 (law_ob hk0) rfl rfl ?_
                refine J_iload hX 4 dX4_holds_120 rfl ?_
                refine J_iconst hX 1 dX4_holds_122 rfl ?_
                refine J_isub hX dX4_holds_123 ?_
                obtain ⟨g_18, hf⟩ := gdE hf
                refine J_ald hX ((x4 - 1).toNatClampNeg) dX4_holds_124 (law_ar 7 32 (by decide) hk0) (Or.inl ⟨rfl, rfl⟩) g_18 rfl ?_
                refine S_1 hX [.int x6_5, .int (h (k0 + 7) ((x4 - 2).toNatClampNeg)), .int (h (k0 + 7) ((x4 - 1).toNatClampNeg))] dX4_holds_125 cw_X4_50 (C_X4_joined (okG hX) rfl) (ltD hdx rfl) rfl rfl rfl rfl ?_
                obtain ⟨g_19, hf⟩ := gdE hf
                obtain ⟨h_20, e_21, hf⟩ := bndE hf
                refine J_ast hX ((x4 - 2).toNatClampNeg) (f_X4_joined x6_5 (h (k0 + 7) ((x4 - 2).toNatClampNeg)) (h (k0 + 7) ((x4 - 1).toNatClampNeg)) h) dX4_holds_128 (law_ar 7 32 (by decide) hk0) (Or.inl ⟨rfl, rfl, rfl⟩) g_19 rfl ?_
                refine J_nmh e_21 ?_
                refine J_iinc hX (x4 + (-1)) 4 [(4, .int (x4 + (-1))), (6, .int x6_5), (0, .ref k0), (2, .int x2), (3, .ref 14), (5, .int x5)] dX4_holds_129 rfl rfl rfl rfl ?_
                refine J_goto hX 178 dX4_holds_132 rfl ?_
                refine J_iinc hX (x5 + 1) 5 [(5, .int (x5 + 1)), (4, .int (x4 + (-1))), (6, .int x6_5), (0, .ref k0), (2, .int x2), (3, .ref 14)] dX4_holds_178 rfl rfl rfl rfl ?_
                refine J_goto hX 6 dX4_holds_181 rfl ?_
                refine J_sub [3, 4, 5, 1, 0] [(0, .ref k0), (2, .int x2), (3, .ref 14), (4, .int (x4 + (-1))), (5, .int (x5 + 1))] rfl ?_
                exact hq_6 (x4 + (-1)) (x5 + 1) h_20 hf
          · refine J_icmp_leT hX 135 dX4_holds_81 rfl c_14 ?_
            refine J_iload hX 4 dX4_holds_135 rfl ?_
            refine J_bipush hX 32 dX4_holds_137 rfl ?_
            rcases ifE hf with ⟨c_22, hf⟩ | ⟨c_22, hf⟩
            · refine J_icmp_geF hX 178 dX4_holds_139 rfl c_22 ?_
              refine J_aload_n hX 1 dX4_holds_142 rfl rfl ?_
              refine J_getR hX (k0 + 7) dX4_holds_143 fl_X4_30 (law_ob hk0) rfl rfl ?_
              refine J_iload hX 4 dX4_holds_146 rfl ?_
              refine J_iload hX 0 dX4_holds_148 rfl ?_
              rcases ifE hf with ⟨c_23, hf⟩ | ⟨c_23, hf⟩
              · refine J_if_ltT hX 167 dX4_holds_150 rfl c_23 ?_
                refine J_sub [1, 2, 3, 4, 5] [(0, .ref k0), (2, .int x2), (3, .ref 14), (4, .int x4), (5, .int x5)] rfl ?_
                exact T_X4_holds_167 hX hdx k0 hk0 x2 x4 x5 x4 q_6 hq_6 h hf
              · refine J_if_ltF hX 167 dX4_holds_150 rfl c_23 ?_
                refine J_iload hX 0 dX4_holds_153 rfl ?_
                refine J_aload_n hX 3 dX4_holds_155 rfl rfl ?_
                refine J_alen hX 9 dX4_holds_156 ar_14 (by decide) rfl ?_
                rcases ifE hf with ⟨c_24, hf⟩ | ⟨c_24, hf⟩
                · refine J_icmp_geF hX 167 dX4_holds_157 rfl c_24 ?_
                  refine J_aload_n hX 3 dX4_holds_160 rfl rfl ?_
                  refine J_iload hX 0 dX4_holds_161 rfl ?_
                  obtain ⟨g_25, hf⟩ := gdE hf
                  refine J_ald hX x6_5.toNatClampNeg dX4_holds_163 ar_14 (Or.inl ⟨rfl, rfl⟩) g_25 rfl ?_
                  refine J_goto hX 174 dX4_holds_164 rfl ?_
                  refine J_sub [1, 2, 3, 4, 5] [(0, .ref k0), (2, .int x2), (3, .ref 14), (4, .int x4), (5, .int x5)] rfl ?_
                  exact T_X4_holds_174 hX hdx k0 hk0 x2 x4 x5 (h 14 x6_5.toNatClampNeg) x4 q_6 hq_6 h hf
                · refine J_icmp_geT hX 167 dX4_holds_157 rfl c_24 ?_
                  refine J_sub [1, 2, 3, 4, 5] [(0, .ref k0), (2, .int x2), (3, .ref 14), (4, .int x4), (5, .int x5)] rfl ?_
                  exact T_X4_holds_167 hX hdx k0 hk0 x2 x4 x5 x4 q_6 hq_6 h hf
            · refine J_icmp_geT hX 178 dX4_holds_139 rfl c_22 ?_
              refine J_iinc hX (x5 + 1) 5 [(5, .int (x5 + 1)), (6, .int x6_5), (0, .ref k0), (2, .int x2), (3, .ref 14), (4, .int x4)] dX4_holds_178 rfl rfl rfl rfl ?_
              refine J_goto hX 6 dX4_holds_181 rfl ?_
              refine J_sub [2, 3, 4, 5, 0] [(0, .ref k0), (2, .int x2), (3, .ref 14), (4, .int x4), (5, .int (x5 + 1))] rfl ?_
              exact hq_6 x4 (x5 + 1) h hf
      · refine J_icmp_geT hX 184 dX4_holds_22 rfl c_3 ?_
        refine J_sub [0, 3] [(0, .ref k0), (4, .int x4)] rfl ?_
        exact T_X4_holds_184 hX hdx k0 hk0 x4 h hf
    · refine J_icmp_geT hX 184 dX4_holds_14 rfl c_2 ?_
      refine J_sub [0, 3] [(0, .ref k0), (4, .int x4)] rfl ?_
      exact T_X4_holds_184 hX hdx k0 hk0 x4 h hf
set_option maxRecDepth 100000 in
set_option maxHeartbeats 200000 in
theorem T_X4_holds_6 {X : CX} (hX : Ok X cX4_holds 7 RX4 (some .boolean)) (hdx : dX X = 3) {r : Bool × Hp} (k0 : Nat) (hk0 : isLaw k0) (x2 : Int32) : ∀ (n : Nat) (x4 : Int32) (x5 : Int32) (h : Hp), F_X4_holds_6 k0 x2 n x4 x5 h = some r → J X ((.inl (some (.int (b2i r.1))), r.2)) 6 [(0, .ref k0), (2, .int x2), (3, .ref 14), (4, .int x4), (5, .int x5)] [] h := by
  intro n
  induction n with
  | zero => intro x4 x5 h hf; exact nomatch hf
  | succ n ih => intro x4 x5 h hf; exact T_X4_holds_6_s hX hdx k0 hk0 x2 _ (fun x4 x5 h hf => ih x4 x5 h hf) x4 x5 h hf
set_option maxRecDepth 100000 in
set_option maxHeartbeats 200000 in
theorem T_X4_holds_0 {X : CX} (hX : Ok X cX4_holds 7 RX4 (some .boolean)) (hdx : dX X = 3) {r : Bool × Hp} (k0 : Nat) (hk0 : isLaw k0) (x1 : Int32) (x2 : Int32) (h : Hp) (hf : f_X4_holds k0 x1 x2 h = some r) : J X ((.inl (some (.int (b2i r.1))), r.2)) 0 [(0, .ref k0), (1, .int x1), (2, .int x2), (3, .ref 14)] [] h := by
  unfold f_X4_holds at hf
  refine J_iconst hX 0 dX4_holds_0 rfl ?_
  refine J_istore hX [(4, .int 0), (0, .ref k0), (1, .int x1), (2, .int x2), (3, .ref 14)] dX4_holds_1 rfl rfl ?_
  refine J_iload_n hX 2 dX4_holds_3 rfl rfl ?_
  refine J_istore hX [(5, .int x1), (4, .int 0), (0, .ref k0), (1, .int x1), (2, .int x2), (3, .ref 14)] dX4_holds_4 rfl rfl ?_
  refine J_sub [2, 4, 5, 1, 0] [(0, .ref k0), (2, .int x2), (3, .ref 14), (4, .int 0), (5, .int x1)] rfl ?_
  exact T_X4_holds_6 hX hdx k0 hk0 x2 FU 0 x1 h hf
set_option maxRecDepth 100000 in
set_option maxHeartbeats 200000 in
theorem C_X4_holds {G : GX} (hG : GOk G) {k0 : Nat} {x1 : Int32} {x2 : Int32} {h : Hp} {r : Bool × Hp} (hk0 : isLaw k0) (hf : f_X4_holds k0 x1 x2 h = some r) : Ctr G 3 yX4_holds cX4_holds 7 (some .boolean) [.ref k0, .int x1, .int x2, .ref 14] h ((.inl (some (.int (b2i r.1))), r.2)) :=
  Ctr_of hG RX4 rfl (by decide) rfl (fun X _ hdx hX => T_X4_holds_0 hX hdx k0 hk0 x1 x2 h hf)
theorem dX4_sumOf_0 : decode cX4_sumOf 0 = .ok (.iconst 0, 1) := by decide +kernel
theorem dX4_sumOf_1 : decode cX4_sumOf 1 = .ok (.istore_n 3, 1) := by decide +kernel
theorem dX4_sumOf_2 : decode cX4_sumOf 2 = .ok (.iconst 0, 1) := by decide +kernel
theorem dX4_sumOf_3 : decode cX4_sumOf 3 = .ok (.istore 4, 2) := by decide +kernel
theorem dX4_sumOf_5 : decode cX4_sumOf 5 = .ok (.iload 4, 2) := by decide +kernel
theorem dX4_sumOf_7 : decode cX4_sumOf 7 = .ok (.aload_n 0, 1) := by decide +kernel
theorem dX4_sumOf_8 : decode cX4_sumOf 8 = .ok (.getfield 33, 3) := by decide +kernel
theorem dX4_sumOf_11 : decode cX4_sumOf 11 = .ok (.if_icmp .ge 59, 3) := by decide +kernel
theorem dX4_sumOf_14 : decode cX4_sumOf 14 = .ok (.iload 4, 2) := by decide +kernel
theorem dX4_sumOf_16 : decode cX4_sumOf 16 = .ok (.bipush 12, 2) := by decide +kernel
theorem dX4_sumOf_18 : decode cX4_sumOf 18 = .ok (.if_icmp .ge 52, 3) := by decide +kernel
theorem dX4_sumOf_21 : decode cX4_sumOf 21 = .ok (.aload_n 0, 1) := by decide +kernel
theorem dX4_sumOf_22 : decode cX4_sumOf 22 = .ok (.getfield 9, 3) := by decide +kernel
theorem dX4_sumOf_25 : decode cX4_sumOf 25 = .ok (.iload 4, 2) := by decide +kernel
theorem dX4_sumOf_27 : decode cX4_sumOf 27 = .ok (.iaload, 1) := by decide +kernel
theorem dX4_sumOf_28 : decode cX4_sumOf 28 = .ok (.iload_n 1, 1) := by decide +kernel
theorem dX4_sumOf_29 : decode cX4_sumOf 29 = .ok (.if_icmp .ne 35, 3) := by decide +kernel
theorem dX4_sumOf_32 : decode cX4_sumOf 32 = .ok (.aload_n 0, 1) := by decide +kernel
theorem dX4_sumOf_33 : decode cX4_sumOf 33 = .ok (.aload_n 0, 1) := by decide +kernel
theorem dX4_sumOf_34 : decode cX4_sumOf 34 = .ok (.getfield 18, 3) := by decide +kernel
theorem dX4_sumOf_37 : decode cX4_sumOf 37 = .ok (.iload 4, 2) := by decide +kernel
theorem dX4_sumOf_39 : decode cX4_sumOf 39 = .ok (.iaload, 1) := by decide +kernel
theorem dX4_sumOf_40 : decode cX4_sumOf 40 = .ok (.aload_n 0, 1) := by decide +kernel
theorem dX4_sumOf_41 : decode cX4_sumOf 41 = .ok (.getfield 21, 3) := by decide +kernel
theorem dX4_sumOf_44 : decode cX4_sumOf 44 = .ok (.iload 4, 2) := by decide +kernel
theorem dX4_sumOf_46 : decode cX4_sumOf 46 = .ok (.iaload, 1) := by decide +kernel
theorem dX4_sumOf_47 : decode cX4_sumOf 47 = .ok (.aload_n 2, 1) := by decide +kernel
theorem dX4_sumOf_48 : decode cX4_sumOf 48 = .ok (.invokevirtual 46, 3) := by decide +kernel
theorem dX4_sumOf_51 : decode cX4_sumOf 51 = .ok (.ifCond .eq 13, 3) := by decide +kernel
theorem dX4_sumOf_54 : decode cX4_sumOf 54 = .ok (.iload_n 3, 1) := by decide +kernel
theorem dX4_sumOf_55 : decode cX4_sumOf 55 = .ok (.aload_n 0, 1) := by decide +kernel
theorem dX4_sumOf_56 : decode cX4_sumOf 56 = .ok (.getfield 15, 3) := by decide +kernel
theorem dX4_sumOf_59 : decode cX4_sumOf 59 = .ok (.iload 4, 2) := by decide +kernel
theorem dX4_sumOf_61 : decode cX4_sumOf 61 = .ok (.iaload, 1) := by decide +kernel
theorem dX4_sumOf_62 : decode cX4_sumOf 62 = .ok (.iadd, 1) := by decide +kernel
theorem dX4_sumOf_63 : decode cX4_sumOf 63 = .ok (.istore_n 3, 1) := by decide +kernel
theorem dX4_sumOf_64 : decode cX4_sumOf 64 = .ok (.iinc 4 1, 3) := by decide +kernel
theorem dX4_sumOf_67 : decode cX4_sumOf 67 = .ok (.goto (-62), 3) := by decide +kernel
theorem dX4_sumOf_70 : decode cX4_sumOf 70 = .ok (.iload_n 3, 1) := by decide +kernel
theorem dX4_sumOf_71 : decode cX4_sumOf 71 = .ok (.ireturn, 1) := by decide +kernel
set_option maxRecDepth 100000 in
set_option maxHeartbeats 200000 in
theorem T_X4_sumOf_5_s {X : CX} (hX : Ok X cX4_sumOf 5 RX4 (some .int)) (hdx : dX X = 4) {r : Int32 × Hp} (k0 : Nat) (hk0 : isLaw k0) (x1 : Int32) (q_5 : Int32 → Int32 → Hp → Option (Int32 × Hp)) (hq_5 : ∀ (x3 : Int32) (x4 : Int32) (h : Hp), q_5 x3 x4 h = some r → J X ((.inl (some (.int r.1)), r.2)) 5 [(0, .ref k0), (1, .int x1), (2, .ref 14), (3, .int x3), (4, .int x4)] [] h) (x3 : Int32) (x4 : Int32) (h : Hp) (hf : S_X4_sumOf_5 k0 x1 q_5 x3 x4 h = some r) : J X ((.inl (some (.int r.1)), r.2)) 5 [(0, .ref k0), (1, .int x1), (2, .ref 14), (3, .int x3), (4, .int x4)] [] h := by
  unfold S_X4_sumOf_5 at hf
  refine J_iload hX 4 dX4_sumOf_5 rfl ?_
  refine J_aload_n hX 0 dX4_sumOf_7 rfl rfl ?_
  refine J_getI hX dX4_sumOf_8 fl_X4_33 (law_ob hk0) rfl ?_
  rcases ifE hf with ⟨c_1, hf⟩ | ⟨c_1, hf⟩
  · refine J_icmp_geF hX 70 dX4_sumOf_11 rfl c_1 ?_
    refine J_iload hX 4 dX4_sumOf_14 rfl ?_
    refine J_bipush hX 12 dX4_sumOf_16 rfl ?_
    rcases ifE hf with ⟨c_2, hf⟩ | ⟨c_2, hf⟩
    · refine J_icmp_geF hX 70 dX4_sumOf_18 rfl c_2 ?_
      refine J_aload_n hX 0 dX4_sumOf_21 rfl rfl ?_
      refine J_getR hX (k0 + 1) dX4_sumOf_22 fl_X4_9 (law_ob hk0) rfl rfl ?_
      refine J_iload hX 4 dX4_sumOf_25 rfl ?_
      obtain ⟨g_3, hf⟩ := gdE hf
      refine J_ald hX x4.toNatClampNeg dX4_sumOf_27 (law_ar 1 12 (by decide) hk0) (Or.inl ⟨rfl, rfl⟩) g_3 rfl ?_
      refine J_iload_n hX 1 dX4_sumOf_28 rfl rfl ?_
      rcases ifE hf with ⟨c_4, hf⟩ | ⟨c_4, hf⟩
      · refine J_icmp_neF hX 64 dX4_sumOf_29 rfl c_4 ?_
        refine J_aload_n hX 0 dX4_sumOf_32 rfl rfl ?_
        refine J_aload_n hX 0 dX4_sumOf_33 rfl rfl ?_
        refine J_getR hX (k0 + 3) dX4_sumOf_34 fl_X4_18 (law_ob hk0) rfl rfl ?_
        refine J_iload hX 4 dX4_sumOf_37 rfl ?_
        obtain ⟨g_5, hf⟩ := gdE hf
        refine J_ald hX x4.toNatClampNeg dX4_sumOf_39 (law_ar 3 12 (by decide) hk0) (Or.inl ⟨rfl, rfl⟩) g_5 rfl ?_
        refine J_aload_n hX 0 dX4_sumOf_40 rfl rfl ?_
        refine J_getR hX (k0 + 4) dX4_sumOf_41 fl_X4_21 (law_ob hk0) rfl rfl ?_
        refine J_iload hX 4 dX4_sumOf_44 rfl ?_
        obtain ⟨g_6, hf⟩ := gdE hf
        refine J_ald hX x4.toNatClampNeg dX4_sumOf_46 (law_ar 4 12 (by decide) hk0) (Or.inl ⟨rfl, rfl⟩) g_6 rfl ?_
        refine J_aload_n hX 2 dX4_sumOf_47 rfl rfl ?_
        obtain ⟨r_7, e_8, hf⟩ := bdE hf
        refine V_1 hX [.int (h (k0 + 3) x4.toNatClampNeg), .int (h (k0 + 4) x4.toNatClampNeg), .ref 14] dX4_sumOf_48 cw_X4_46 (law_ob hk0) rfl (C_X4_holds (okG hX) hk0 e_8) (ltD hdx rfl) rfl rfl rfl rfl ?_
        rcases ifE hf with ⟨c_9, hf⟩ | ⟨c_9, hf⟩
        · refine J_if_eqF hX 64 dX4_sumOf_51 rfl (b2iT c_9) ?_
          refine J_iload_n hX 3 dX4_sumOf_54 rfl rfl ?_
          refine J_aload_n hX 0 dX4_sumOf_55 rfl rfl ?_
          refine J_getR hX (k0 + 2) dX4_sumOf_56 fl_X4_15 (law_ob hk0) rfl rfl ?_
          refine J_iload hX 4 dX4_sumOf_59 rfl ?_
          obtain ⟨g_10, hf⟩ := gdE hf
          refine J_ald hX x4.toNatClampNeg dX4_sumOf_61 (law_ar 2 12 (by decide) hk0) (Or.inl ⟨rfl, rfl⟩) g_10 rfl ?_
          refine J_iadd hX dX4_sumOf_62 ?_
          obtain ⟨x3_11, e_12, hf⟩ := bndE hf
          refine J_nm e_12 ?_
          refine J_istore_n hX [(3, .int x3_11), (0, .ref k0), (1, .int x1), (2, .ref 14), (4, .int x4)] dX4_sumOf_63 rfl rfl rfl ?_
          refine J_iinc hX (x4 + 1) 4 [(4, .int (x4 + 1)), (3, .int x3_11), (0, .ref k0), (1, .int x1), (2, .ref 14)] dX4_sumOf_64 rfl rfl rfl rfl ?_
          refine J_goto hX 5 dX4_sumOf_67 rfl ?_
          refine J_sub [2, 3, 4, 1, 0] [(0, .ref k0), (1, .int x1), (2, .ref 14), (3, .int x3_11), (4, .int (x4 + 1))] rfl ?_
          exact hq_5 x3_11 (x4 + 1) r_7.2 hf
        · refine J_if_eqT hX 64 dX4_sumOf_51 rfl (b2iF c_9) ?_
          refine J_iinc hX (x4 + 1) 4 [(4, .int (x4 + 1)), (0, .ref k0), (1, .int x1), (2, .ref 14), (3, .int x3)] dX4_sumOf_64 rfl rfl rfl rfl ?_
          refine J_goto hX 5 dX4_sumOf_67 rfl ?_
          refine J_sub [1, 2, 3, 4, 0] [(0, .ref k0), (1, .int x1), (2, .ref 14), (3, .int x3), (4, .int (x4 + 1))] rfl ?_
          exact hq_5 x3 (x4 + 1) r_7.2 hf
      · refine J_icmp_neT hX 64 dX4_sumOf_29 rfl c_4 ?_
        refine J_iinc hX (x4 + 1) 4 [(4, .int (x4 + 1)), (0, .ref k0), (1, .int x1), (2, .ref 14), (3, .int x3)] dX4_sumOf_64 rfl rfl rfl rfl ?_
        refine J_goto hX 5 dX4_sumOf_67 rfl ?_
        refine J_sub [1, 2, 3, 4, 0] [(0, .ref k0), (1, .int x1), (2, .ref 14), (3, .int x3), (4, .int (x4 + 1))] rfl ?_
        exact hq_5 x3 (x4 + 1) h hf
    · refine J_icmp_geT hX 70 dX4_sumOf_18 rfl c_2 ?_
      refine J_iload_n hX 3 dX4_sumOf_70 rfl rfl ?_
      exact E_Ii hX dX4_sumOf_71 hf
  · refine J_icmp_geT hX 70 dX4_sumOf_11 rfl c_1 ?_
    refine J_iload_n hX 3 dX4_sumOf_70 rfl rfl ?_
    exact E_Ii hX dX4_sumOf_71 hf
set_option maxRecDepth 100000 in
set_option maxHeartbeats 200000 in
theorem T_X4_sumOf_5 {X : CX} (hX : Ok X cX4_sumOf 5 RX4 (some .int)) (hdx : dX X = 4) {r : Int32 × Hp} (k0 : Nat) (hk0 : isLaw k0) (x1 : Int32) : ∀ (n : Nat) (x3 : Int32) (x4 : Int32) (h : Hp), F_X4_sumOf_5 k0 x1 n x3 x4 h = some r → J X ((.inl (some (.int r.1)), r.2)) 5 [(0, .ref k0), (1, .int x1), (2, .ref 14), (3, .int x3), (4, .int x4)] [] h := by
  intro n
  induction n with
  | zero => intro x3 x4 h hf; exact nomatch hf
  | succ n ih => intro x3 x4 h hf; exact T_X4_sumOf_5_s hX hdx k0 hk0 x1 _ (fun x3 x4 h hf => ih x3 x4 h hf) x3 x4 h hf
set_option maxRecDepth 100000 in
set_option maxHeartbeats 200000 in
theorem T_X4_sumOf_0 {X : CX} (hX : Ok X cX4_sumOf 5 RX4 (some .int)) (hdx : dX X = 4) {r : Int32 × Hp} (k0 : Nat) (hk0 : isLaw k0) (x1 : Int32) (h : Hp) (hf : f_X4_sumOf k0 x1 h = some r) : J X ((.inl (some (.int r.1)), r.2)) 0 [(0, .ref k0), (1, .int x1), (2, .ref 14)] [] h := by
  unfold f_X4_sumOf at hf
  refine J_iconst hX 0 dX4_sumOf_0 rfl ?_
  refine J_istore_n hX [(3, .int 0), (0, .ref k0), (1, .int x1), (2, .ref 14)] dX4_sumOf_1 rfl rfl rfl ?_
  refine J_iconst hX 0 dX4_sumOf_2 rfl ?_
  refine J_istore hX [(4, .int 0), (3, .int 0), (0, .ref k0), (1, .int x1), (2, .ref 14)] dX4_sumOf_3 rfl rfl ?_
  refine J_sub [2, 3, 4, 1, 0] [(0, .ref k0), (1, .int x1), (2, .ref 14), (3, .int 0), (4, .int 0)] rfl ?_
  exact T_X4_sumOf_5 hX hdx k0 hk0 x1 FU 0 0 h hf
set_option maxRecDepth 100000 in
set_option maxHeartbeats 200000 in
theorem C_X4_sumOf {G : GX} (hG : GOk G) {k0 : Nat} {x1 : Int32} {h : Hp} {r : Int32 × Hp} (hk0 : isLaw k0) (hf : f_X4_sumOf k0 x1 h = some r) : Ctr G 4 yX4_sumOf cX4_sumOf 5 (some .int) [.ref k0, .int x1, .ref 14] h ((.inl (some (.int r.1)), r.2)) :=
  Ctr_of hG RX4 rfl (by decide) rfl (fun X _ hdx hX => T_X4_sumOf_0 hX hdx k0 hk0 x1 h hf)
