theorem dX10_byteAt_0 : decode cX10_byteAt 0 = .ok (.iload_n 1, 1) := by decide +kernel
theorem dX10_byteAt_1 : decode cX10_byteAt 1 = .ok (.ifCond .lt 21, 3) := by decide +kernel
theorem dX10_byteAt_4 : decode cX10_byteAt 4 = .ok (.iload_n 1, 1) := by decide +kernel
theorem dX10_byteAt_5 : decode cX10_byteAt 5 = .ok (.aload_n 0, 1) := by decide +kernel
theorem dX10_byteAt_6 : decode cX10_byteAt 6 = .ok (.getfield 9, 3) := by decide +kernel
theorem dX10_byteAt_9 : decode cX10_byteAt 9 = .ok (.arraylength, 1) := by decide +kernel
theorem dX10_byteAt_10 : decode cX10_byteAt 10 = .ok (.if_icmp .ge 12, 3) := by decide +kernel
theorem dX10_byteAt_13 : decode cX10_byteAt 13 = .ok (.aload_n 0, 1) := by decide +kernel
theorem dX10_byteAt_14 : decode cX10_byteAt 14 = .ok (.getfield 9, 3) := by decide +kernel
theorem dX10_byteAt_17 : decode cX10_byteAt 17 = .ok (.iload_n 1, 1) := by decide +kernel
theorem dX10_byteAt_18 : decode cX10_byteAt 18 = .ok (.iaload, 1) := by decide +kernel
theorem dX10_byteAt_19 : decode cX10_byteAt 19 = .ok (.goto 4, 3) := by decide +kernel
theorem dX10_byteAt_22 : decode cX10_byteAt 22 = .ok (.iconst (-1), 1) := by decide +kernel
theorem dX10_byteAt_23 : decode cX10_byteAt 23 = .ok (.ireturn, 1) := by decide +kernel
set_option maxRecDepth 100000 in
set_option maxHeartbeats 200000 in
theorem T_X10_byteAt_0 {X : CX} (hX : Ok X cX10_byteAt 2 RX10 (some .int)) (hdx : dX X = 2) {r : Int32} (x1 : Int32) (h : Hp) (hf : f_X10_byteAt x1 h = some r) : J X ((.inl (some (.int r)), h)) 0 [(0, .ref 2), (1, .int x1)] [] h := by
  unfold f_X10_byteAt at hf
  refine J_iload_n hX 1 dX10_byteAt_0 rfl rfl ?_
  rcases ifE hf with ⟨c_1, hf⟩ | ⟨c_1, hf⟩
  · refine J_if_ltT hX 22 dX10_byteAt_1 rfl c_1 ?_
    refine J_iconst hX (-1) dX10_byteAt_22 rfl ?_
    exact E_Ip hX dX10_byteAt_23 hf
  · refine J_if_ltF hX 22 dX10_byteAt_1 rfl c_1 ?_
    refine J_iload_n hX 1 dX10_byteAt_4 rfl rfl ?_
    refine J_aload_n hX 0 dX10_byteAt_5 rfl rfl ?_
    refine J_getR hX 3 dX10_byteAt_6 fl_X10_9 ob_2 rfl rfl ?_
    refine J_alen hX 400 dX10_byteAt_9 ar_3 (by decide) rfl ?_
    rcases ifE hf with ⟨c_2, hf⟩ | ⟨c_2, hf⟩
    · refine J_icmp_geF hX 22 dX10_byteAt_10 rfl c_2 ?_
      refine J_aload_n hX 0 dX10_byteAt_13 rfl rfl ?_
      refine J_getR hX 3 dX10_byteAt_14 fl_X10_9 ob_2 rfl rfl ?_
      refine J_iload_n hX 1 dX10_byteAt_17 rfl rfl ?_
      obtain ⟨g_3, hf⟩ := gdE hf
      refine J_ald hX x1.toNatClampNeg dX10_byteAt_18 ar_3 (Or.inl ⟨rfl, rfl⟩) g_3 rfl ?_
      refine J_goto hX 23 dX10_byteAt_19 rfl ?_
      exact E_Ip hX dX10_byteAt_23 hf
    · refine J_icmp_geT hX 22 dX10_byteAt_10 rfl c_2 ?_
      refine J_iconst hX (-1) dX10_byteAt_22 rfl ?_
      exact E_Ip hX dX10_byteAt_23 hf
set_option maxRecDepth 100000 in
set_option maxHeartbeats 200000 in
theorem C_X10_byteAt {G : GX} (hG : GOk G) {x1 : Int32} {h : Hp} {r : Int32} (hf : f_X10_byteAt x1 h = some r) : Ctr G 2 yX10_byteAt cX10_byteAt 2 (some .int) [.ref 2, .int x1] h ((.inl (some (.int r)), h)) :=
  Ctr_of hG RX10 rfl (by decide) rfl (fun X _ hdx hX => T_X10_byteAt_0 hX hdx x1 h hf)
theorem dX0_tell_0 : decode cX0_tell 0 = .ok (.aload_n 0, 1) := by decide +kernel
theorem dX0_tell_1 : decode cX0_tell 1 = .ok (.iconst 0, 1) := by decide +kernel
theorem dX0_tell_2 : decode cX0_tell 2 = .ok (.putfield 21, 3) := by decide +kernel
theorem dX0_tell_5 : decode cX0_tell 5 = .ok (.iconst 0, 1) := by decide +kernel
theorem dX0_tell_6 : decode cX0_tell 6 = .ok (.istore_n 3, 1) := by decide +kernel
theorem dX0_tell_7 : decode cX0_tell 7 = .ok (.iload_n 3, 1) := by decide +kernel
theorem dX0_tell_8 : decode cX0_tell 8 = .ok (.iload_n 2, 1) := by decide +kernel
theorem dX0_tell_9 : decode cX0_tell 9 = .ok (.if_icmp .ge 36, 3) := by decide +kernel
theorem dX0_tell_12 : decode cX0_tell 12 = .ok (.iload_n 3, 1) := by decide +kernel
theorem dX0_tell_13 : decode cX0_tell 13 = .ok (.bipush 40, 2) := by decide +kernel
theorem dX0_tell_15 : decode cX0_tell 15 = .ok (.if_icmp .ge 30, 3) := by decide +kernel
theorem dX0_tell_18 : decode cX0_tell 18 = .ok (.aload_n 0, 1) := by decide +kernel
theorem dX0_tell_19 : decode cX0_tell 19 = .ok (.getfield 18, 3) := by decide +kernel
theorem dX0_tell_22 : decode cX0_tell 22 = .ok (.iload_n 3, 1) := by decide +kernel
theorem dX0_tell_23 : decode cX0_tell 23 = .ok (.aload_n 1, 1) := by decide +kernel
theorem dX0_tell_24 : decode cX0_tell 24 = .ok (.iload_n 3, 1) := by decide +kernel
theorem dX0_tell_25 : decode cX0_tell 25 = .ok (.invokevirtual 25, 3) := by decide +kernel
theorem dX0_tell_28 : decode cX0_tell 28 = .ok (.iastore, 1) := by decide +kernel
theorem dX0_tell_29 : decode cX0_tell 29 = .ok (.aload_n 0, 1) := by decide +kernel
theorem dX0_tell_30 : decode cX0_tell 30 = .ok (.dup, 1) := by decide +kernel
theorem dX0_tell_31 : decode cX0_tell 31 = .ok (.getfield 21, 3) := by decide +kernel
theorem dX0_tell_34 : decode cX0_tell 34 = .ok (.iconst 1, 1) := by decide +kernel
theorem dX0_tell_35 : decode cX0_tell 35 = .ok (.iadd, 1) := by decide +kernel
theorem dX0_tell_36 : decode cX0_tell 36 = .ok (.putfield 21, 3) := by decide +kernel
theorem dX0_tell_39 : decode cX0_tell 39 = .ok (.iinc 3 1, 3) := by decide +kernel
theorem dX0_tell_42 : decode cX0_tell 42 = .ok (.goto (-35), 3) := by decide +kernel
theorem dX0_tell_45 : decode cX0_tell 45 = .ok (.return_, 1) := by decide +kernel
set_option maxRecDepth 100000 in
set_option maxHeartbeats 200000 in
theorem T_X0_tell_7_s {X : CX} (hX : Ok X cX0_tell 4 RX0 none) (hdx : dX X = 3) {r : Hp} (x2 : Int32) (q_7 : Int32 → Hp → Option Hp) (hq_7 : ∀ (x3 : Int32) (h : Hp), q_7 x3 h = some r → J X ((.inl none, r)) 7 [(0, .ref 23), (1, .ref 2), (2, .int x2), (3, .int x3)] [] h) (x3 : Int32) (h : Hp) (hf : S_X0_tell_7 x2 q_7 x3 h = some r) : J X ((.inl none, r)) 7 [(0, .ref 23), (1, .ref 2), (2, .int x2), (3, .int x3)] [] h := by
  unfold S_X0_tell_7 at hf
  refine J_iload_n hX 3 dX0_tell_7 rfl rfl ?_
  refine J_iload_n hX 2 dX0_tell_8 rfl rfl ?_
  rcases ifE hf with ⟨c_1, hf⟩ | ⟨c_1, hf⟩
  · refine J_icmp_geF hX 45 dX0_tell_9 rfl c_1 ?_
    refine J_iload_n hX 3 dX0_tell_12 rfl rfl ?_
    refine J_bipush hX 40 dX0_tell_13 rfl ?_
    rcases ifE hf with ⟨c_2, hf⟩ | ⟨c_2, hf⟩
    · refine J_icmp_geF hX 45 dX0_tell_15 rfl c_2 ?_
      refine J_aload_n hX 0 dX0_tell_18 rfl rfl ?_
      refine J_getR hX 26 dX0_tell_19 fl_X0_18 ob_23 rfl rfl ?_
      refine J_iload_n hX 3 dX0_tell_22 rfl rfl ?_
      refine J_aload_n hX 1 dX0_tell_23 rfl rfl ?_
      refine J_iload_n hX 3 dX0_tell_24 rfl rfl ?_
      obtain ⟨r_3, e_4, hf⟩ := bdE hf
      refine V_1 hX [.int x3] dX0_tell_25 cw_X0_25 ob_2 rfl (C_X10_byteAt (okG hX) e_4) (ltD hdx rfl) rfl rfl rfl rfl ?_
      obtain ⟨g_5, hf⟩ := gdE hf
      obtain ⟨h_6, e_7, hf⟩ := bndE hf
      refine J_ast hX x3.toNatClampNeg r_3 dX0_tell_28 ar_26 (Or.inl ⟨rfl, rfl, rfl⟩) g_5 rfl ?_
      refine J_nmh e_7 ?_
      refine J_aload_n hX 0 dX0_tell_29 rfl rfl ?_
      refine J_dup hX dX0_tell_30 rfl ?_
      refine J_getI hX dX0_tell_31 fl_X0_21 ob_23 rfl ?_
      refine J_iconst hX 1 dX0_tell_34 rfl ?_
      refine J_iadd hX dX0_tell_35 ?_
      obtain ⟨h_8, e_9, hf⟩ := bndE hf
      refine J_putI hX dX0_tell_36 fl_X0_21 fw_0_4 ob_23 rfl rfl rfl ?_
      refine J_nmh e_9 ?_
      refine J_iinc hX (x3 + 1) 3 [(3, .int (x3 + 1)), (0, .ref 23), (1, .ref 2), (2, .int x2)] dX0_tell_39 rfl rfl rfl rfl ?_
      refine J_goto hX 7 dX0_tell_42 rfl ?_
      refine J_sub [1, 2, 3, 0] [(0, .ref 23), (1, .ref 2), (2, .int x2), (3, .int (x3 + 1))] rfl ?_
      exact hq_7 (x3 + 1) h_8 hf
    · refine J_icmp_geT hX 45 dX0_tell_15 rfl c_2 ?_
      exact E_Vi hX dX0_tell_45 hf
  · refine J_icmp_geT hX 45 dX0_tell_9 rfl c_1 ?_
    exact E_Vi hX dX0_tell_45 hf
set_option maxRecDepth 100000 in
set_option maxHeartbeats 200000 in
theorem T_X0_tell_7 {X : CX} (hX : Ok X cX0_tell 4 RX0 none) (hdx : dX X = 3) {r : Hp} (x2 : Int32) : ∀ (n : Nat) (x3 : Int32) (h : Hp), F_X0_tell_7 x2 n x3 h = some r → J X ((.inl none, r)) 7 [(0, .ref 23), (1, .ref 2), (2, .int x2), (3, .int x3)] [] h := by
  intro n
  induction n with
  | zero => intro x3 h hf; exact nomatch hf
  | succ n ih => intro x3 h hf; exact T_X0_tell_7_s hX hdx x2 _ (fun x3 h hf => ih x3 h hf) x3 h hf
set_option maxRecDepth 100000 in
set_option maxHeartbeats 200000 in
theorem T_X0_tell_0 {X : CX} (hX : Ok X cX0_tell 4 RX0 none) (hdx : dX X = 3) {r : Hp} (x2 : Int32) (h : Hp) (hf : f_X0_tell x2 h = some r) : J X ((.inl none, r)) 0 [(0, .ref 23), (1, .ref 2), (2, .int x2)] [] h := by
  unfold f_X0_tell at hf
  refine J_aload_n hX 0 dX0_tell_0 rfl rfl ?_
  refine J_iconst hX 0 dX0_tell_1 rfl ?_
  obtain ⟨h_1, e_2, hf⟩ := bndE hf
  refine J_putI hX dX0_tell_2 fl_X0_21 fw_0_4 ob_23 rfl rfl rfl ?_
  refine J_nmh e_2 ?_
  refine J_iconst hX 0 dX0_tell_5 rfl ?_
  refine J_istore_n hX [(3, .int 0), (0, .ref 23), (1, .ref 2), (2, .int x2)] dX0_tell_6 rfl rfl rfl ?_
  refine J_sub [1, 2, 3, 0] [(0, .ref 23), (1, .ref 2), (2, .int x2), (3, .int 0)] rfl ?_
  exact T_X0_tell_7 hX hdx x2 FU 0 h_1 hf
set_option maxRecDepth 100000 in
set_option maxHeartbeats 200000 in
theorem C_X0_tell {G : GX} (hG : GOk G) {x2 : Int32} {h : Hp} {r : Hp} (hf : f_X0_tell x2 h = some r) : Ctr G 3 yX0_tell cX0_tell 4 none [.ref 23, .ref 2, .int x2] h ((.inl none, r)) :=
  Ctr_of hG RX0 rfl (by decide) rfl (fun X _ hdx hX => T_X0_tell_0 hX hdx x2 h hf)
theorem dX1_isHouse_0 : decode cX1_isHouse 0 = .ok (.iload_n 1, 1) := by decide +kernel
theorem dX1_isHouse_1 : decode cX1_isHouse 1 = .ok (.ifCond .lt 21, 3) := by decide +kernel
theorem dX1_isHouse_4 : decode cX1_isHouse 4 = .ok (.iload_n 1, 1) := by decide +kernel
theorem dX1_isHouse_5 : decode cX1_isHouse 5 = .ok (.aload_n 0, 1) := by decide +kernel
theorem dX1_isHouse_6 : decode cX1_isHouse 6 = .ok (.getfield 60, 3) := by decide +kernel
theorem dX1_isHouse_9 : decode cX1_isHouse 9 = .ok (.if_icmp .ge 13, 3) := by decide +kernel
theorem dX1_isHouse_12 : decode cX1_isHouse 12 = .ok (.iload_n 1, 1) := by decide +kernel
theorem dX1_isHouse_13 : decode cX1_isHouse 13 = .ok (.bipush 8, 2) := by decide +kernel
theorem dX1_isHouse_15 : decode cX1_isHouse 15 = .ok (.if_icmp .ge 7, 3) := by decide +kernel
theorem dX1_isHouse_18 : decode cX1_isHouse 18 = .ok (.iconst 1, 1) := by decide +kernel
theorem dX1_isHouse_19 : decode cX1_isHouse 19 = .ok (.goto 4, 3) := by decide +kernel
theorem dX1_isHouse_22 : decode cX1_isHouse 22 = .ok (.iconst 0, 1) := by decide +kernel
theorem dX1_isHouse_23 : decode cX1_isHouse 23 = .ok (.ireturn, 1) := by decide +kernel
set_option maxRecDepth 100000 in
set_option maxHeartbeats 200000 in
theorem T_X1_isHouse_0 {X : CX} (hX : Ok X cX1_isHouse 2 RX1 (some .boolean)) (hdx : dX X = 2) {r : Bool} (k0 : Nat) (hk0 : isCity k0) (x1 : Int32) (h : Hp) (hf : f_X1_isHouse k0 x1 h = r) : J X ((.inl (some (.int (b2i r))), h)) 0 [(0, .ref k0), (1, .int x1)] [] h := by
  unfold f_X1_isHouse at hf
  refine J_iload_n hX 1 dX1_isHouse_0 rfl rfl ?_
  rcases ifE hf with ⟨c_1, hf⟩ | ⟨c_1, hf⟩
  · refine J_if_ltT hX 22 dX1_isHouse_1 rfl c_1 ?_
    refine J_iconst hX 0 dX1_isHouse_22 rfl ?_
    exact E_Zt hX dX1_isHouse_23 rfl hf
  · refine J_if_ltF hX 22 dX1_isHouse_1 rfl c_1 ?_
    refine J_iload_n hX 1 dX1_isHouse_4 rfl rfl ?_
    refine J_aload_n hX 0 dX1_isHouse_5 rfl rfl ?_
    refine J_getI hX dX1_isHouse_6 fl_X1_60 (city_ob hk0) rfl ?_
    rcases ifE hf with ⟨c_2, hf⟩ | ⟨c_2, hf⟩
    · refine J_icmp_geF hX 22 dX1_isHouse_9 rfl c_2 ?_
      refine J_iload_n hX 1 dX1_isHouse_12 rfl rfl ?_
      refine J_bipush hX 8 dX1_isHouse_13 rfl ?_
      rcases ifE hf with ⟨c_3, hf⟩ | ⟨c_3, hf⟩
      · refine J_icmp_geF hX 22 dX1_isHouse_15 rfl c_3 ?_
        refine J_iconst hX 1 dX1_isHouse_18 rfl ?_
        refine J_goto hX 23 dX1_isHouse_19 rfl ?_
        exact E_Zt hX dX1_isHouse_23 rfl hf
      · refine J_icmp_geT hX 22 dX1_isHouse_15 rfl c_3 ?_
        refine J_iconst hX 0 dX1_isHouse_22 rfl ?_
        exact E_Zt hX dX1_isHouse_23 rfl hf
    · refine J_icmp_geT hX 22 dX1_isHouse_9 rfl c_2 ?_
      refine J_iconst hX 0 dX1_isHouse_22 rfl ?_
      exact E_Zt hX dX1_isHouse_23 rfl hf
set_option maxRecDepth 100000 in
set_option maxHeartbeats 200000 in
theorem C_X1_isHouse {G : GX} (hG : GOk G) {k0 : Nat} {x1 : Int32} {h : Hp} {r : Bool} (hk0 : isCity k0) (hf : f_X1_isHouse k0 x1 h = r) : Ctr G 2 yX1_isHouse cX1_isHouse 2 (some .boolean) [.ref k0, .int x1] h ((.inl (some (.int (b2i r))), h)) :=
  Ctr_of hG RX1 rfl (by decide) rfl (fun X _ hdx hX => T_X1_isHouse_0 hX hdx k0 hk0 x1 h hf)
theorem dX1_partOf_0 : decode cX1_partOf 0 = .ok (.aload_n 0, 1) := by decide +kernel
theorem dX1_partOf_1 : decode cX1_partOf 1 = .ok (.iload_n 1, 1) := by decide +kernel
theorem dX1_partOf_2 : decode cX1_partOf 2 = .ok (.invokevirtual 81, 3) := by decide +kernel
theorem dX1_partOf_5 : decode cX1_partOf 5 = .ok (.ifCond .eq 25, 3) := by decide +kernel
theorem dX1_partOf_8 : decode cX1_partOf 8 = .ok (.aload_n 0, 1) := by decide +kernel
theorem dX1_partOf_9 : decode cX1_partOf 9 = .ok (.iload_n 2, 1) := by decide +kernel
theorem dX1_partOf_10 : decode cX1_partOf 10 = .ok (.invokevirtual 81, 3) := by decide +kernel
theorem dX1_partOf_13 : decode cX1_partOf 13 = .ok (.ifCond .eq 17, 3) := by decide +kernel
theorem dX1_partOf_16 : decode cX1_partOf 16 = .ok (.aload_n 0, 1) := by decide +kernel
theorem dX1_partOf_17 : decode cX1_partOf 17 = .ok (.getfield 24, 3) := by decide +kernel
theorem dX1_partOf_20 : decode cX1_partOf 20 = .ok (.iload_n 1, 1) := by decide +kernel
theorem dX1_partOf_21 : decode cX1_partOf 21 = .ok (.bipush 8, 2) := by decide +kernel
theorem dX1_partOf_23 : decode cX1_partOf 23 = .ok (.imul, 1) := by decide +kernel
theorem dX1_partOf_24 : decode cX1_partOf 24 = .ok (.iload_n 2, 1) := by decide +kernel
theorem dX1_partOf_25 : decode cX1_partOf 25 = .ok (.iadd, 1) := by decide +kernel
theorem dX1_partOf_26 : decode cX1_partOf 26 = .ok (.iaload, 1) := by decide +kernel
theorem dX1_partOf_27 : decode cX1_partOf 27 = .ok (.goto 4, 3) := by decide +kernel
theorem dX1_partOf_30 : decode cX1_partOf 30 = .ok (.iconst 0, 1) := by decide +kernel
theorem dX1_partOf_31 : decode cX1_partOf 31 = .ok (.ireturn, 1) := by decide +kernel
set_option maxRecDepth 100000 in
set_option maxHeartbeats 200000 in
theorem T_X1_partOf_0 {X : CX} (hX : Ok X cX1_partOf 3 RX1 (some .int)) (hdx : dX X = 3) {r : Int32} (k0 : Nat) (hk0 : isCity k0) (x1 : Int32) (x2 : Int32) (h : Hp) (hf : f_X1_partOf k0 x1 x2 h = some r) : J X ((.inl (some (.int r)), h)) 0 [(0, .ref k0), (1, .int x1), (2, .int x2)] [] h := by
  unfold f_X1_partOf at hf
  refine J_aload_n hX 0 dX1_partOf_0 rfl rfl ?_
  refine J_iload_n hX 1 dX1_partOf_1 rfl rfl ?_
  refine V_1 hX [.int x1] dX1_partOf_2 cw_X1_81 (city_ob hk0) rfl (C_X1_isHouse (okG hX) hk0 rfl) (ltD hdx rfl) rfl rfl rfl rfl ?_
  rcases ifE hf with ⟨c_1, hf⟩ | ⟨c_1, hf⟩
  · refine J_if_eqF hX 30 dX1_partOf_5 rfl (b2iT c_1) ?_
    refine J_aload_n hX 0 dX1_partOf_8 rfl rfl ?_
    refine J_iload_n hX 2 dX1_partOf_9 rfl rfl ?_
    refine V_1 hX [.int x2] dX1_partOf_10 cw_X1_81 (city_ob hk0) rfl (C_X1_isHouse (okG hX) hk0 rfl) (ltD hdx rfl) rfl rfl rfl rfl ?_
    rcases ifE hf with ⟨c_2, hf⟩ | ⟨c_2, hf⟩
    · refine J_if_eqF hX 30 dX1_partOf_13 rfl (b2iT c_2) ?_
      refine J_aload_n hX 0 dX1_partOf_16 rfl rfl ?_
      refine J_getR hX (k0 + 5) dX1_partOf_17 fl_X1_24 (city_ob hk0) rfl rfl ?_
      refine J_iload_n hX 1 dX1_partOf_20 rfl rfl ?_
      refine J_bipush hX 8 dX1_partOf_21 rfl ?_
      refine J_imul hX dX1_partOf_23 ?_
      refine J_iload_n hX 2 dX1_partOf_24 rfl rfl ?_
      refine J_iadd hX dX1_partOf_25 ?_
      obtain ⟨g_3, hf⟩ := gdE hf
      refine J_ald hX (((x1 * 8) + x2).toNatClampNeg) dX1_partOf_26 (city_ar 5 64 (by decide) hk0) (Or.inl ⟨rfl, rfl⟩) g_3 rfl ?_
      refine J_goto hX 31 dX1_partOf_27 rfl ?_
      exact E_Ip hX dX1_partOf_31 hf
    · refine J_if_eqT hX 30 dX1_partOf_13 rfl (b2iF c_2) ?_
      refine J_iconst hX 0 dX1_partOf_30 rfl ?_
      exact E_Ip hX dX1_partOf_31 hf
  · refine J_if_eqT hX 30 dX1_partOf_5 rfl (b2iF c_1) ?_
    refine J_iconst hX 0 dX1_partOf_30 rfl ?_
    exact E_Ip hX dX1_partOf_31 hf
set_option maxRecDepth 100000 in
set_option maxHeartbeats 200000 in
theorem C_X1_partOf {G : GX} (hG : GOk G) {k0 : Nat} {x1 : Int32} {x2 : Int32} {h : Hp} {r : Int32} (hk0 : isCity k0) (hf : f_X1_partOf k0 x1 x2 h = some r) : Ctr G 3 yX1_partOf cX1_partOf 3 (some .int) [.ref k0, .int x1, .int x2] h ((.inl (some (.int r)), h)) :=
  Ctr_of hG RX1 rfl (by decide) rfl (fun X _ hdx hX => T_X1_partOf_0 hX hdx k0 hk0 x1 x2 h hf)
theorem dX6_copyFrom_0 : decode cX6_copyFrom 0 = .ok (.aload_n 0, 1) := by decide +kernel
theorem dX6_copyFrom_1 : decode cX6_copyFrom 1 = .ok (.aload_n 1, 1) := by decide +kernel
theorem dX6_copyFrom_2 : decode cX6_copyFrom 2 = .ok (.getfield 15, 3) := by decide +kernel
theorem dX6_copyFrom_5 : decode cX6_copyFrom 5 = .ok (.putfield 15, 3) := by decide +kernel
theorem dX6_copyFrom_8 : decode cX6_copyFrom 8 = .ok (.aload_n 1, 1) := by decide +kernel
theorem dX6_copyFrom_9 : decode cX6_copyFrom 9 = .ok (.getfield 9, 3) := by decide +kernel
theorem dX6_copyFrom_12 : decode cX6_copyFrom 12 = .ok (.iconst 0, 1) := by decide +kernel
theorem dX6_copyFrom_13 : decode cX6_copyFrom 13 = .ok (.aload_n 0, 1) := by decide +kernel
theorem dX6_copyFrom_14 : decode cX6_copyFrom 14 = .ok (.getfield 9, 3) := by decide +kernel
theorem dX6_copyFrom_17 : decode cX6_copyFrom 17 = .ok (.iconst 0, 1) := by decide +kernel
theorem dX6_copyFrom_18 : decode cX6_copyFrom 18 = .ok (.aload_n 0, 1) := by decide +kernel
theorem dX6_copyFrom_19 : decode cX6_copyFrom 19 = .ok (.getfield 9, 3) := by decide +kernel
theorem dX6_copyFrom_22 : decode cX6_copyFrom 22 = .ok (.arraylength, 1) := by decide +kernel
theorem dX6_copyFrom_23 : decode cX6_copyFrom 23 = .ok (.invokestatic 19, 3) := by decide +kernel
theorem dX6_copyFrom_26 : decode cX6_copyFrom 26 = .ok (.return_, 1) := by decide +kernel
set_option maxRecDepth 100000 in
set_option maxHeartbeats 200000 in
theorem T_X6_copyFrom_0 {X : CX} (hX : Ok X cX6_copyFrom 2 RX6 none) (hdx : dX X = 2) {r : Hp} (k0 : Nat) (hk0 : isLog k0) (k1 : Nat) (hk1 : isLog k1) (h : Hp) (hf : f_X6_copyFrom k0 k1 h = some r) : J X ((.inl none, r)) 0 [(0, .ref k0), (1, .ref k1)] [] h := by
  unfold f_X6_copyFrom at hf
  refine J_aload_n hX 0 dX6_copyFrom_0 rfl rfl ?_
  refine J_aload_n hX 1 dX6_copyFrom_1 rfl rfl ?_
  refine J_getI hX dX6_copyFrom_2 fl_X6_15 (log_ob hk1) rfl ?_
  obtain ⟨h_1, e_2, hf⟩ := bndE hf
  refine J_putI hX dX6_copyFrom_5 fl_X6_15 fw_4_1 (log_ob hk0) rfl rfl rfl ?_
  refine J_nmh e_2 ?_
  refine J_aload_n hX 1 dX6_copyFrom_8 rfl rfl ?_
  refine J_getR hX (k1 + 1) dX6_copyFrom_9 fl_X6_9 (log_ob hk1) rfl rfl ?_
  refine J_iconst hX 0 dX6_copyFrom_12 rfl ?_
  refine J_aload_n hX 0 dX6_copyFrom_13 rfl rfl ?_
  refine J_getR hX (k0 + 1) dX6_copyFrom_14 fl_X6_9 (log_ob hk0) rfl rfl ?_
  refine J_iconst hX 0 dX6_copyFrom_17 rfl ?_
  refine J_aload_n hX 0 dX6_copyFrom_18 rfl rfl ?_
  refine J_getR hX (k0 + 1) dX6_copyFrom_19 fl_X6_9 (log_ob hk0) rfl rfl ?_
  refine J_alen hX 360 dX6_copyFrom_22 (log_ar hk0) (by decide) rfl ?_
  obtain ⟨h_3, e_4, hf⟩ := bndE hf
  refine J_copy hX 0 0 360 dX6_copyFrom_23 aw_X6_19 (log_ar hk1) (log_ar hk0) (by decide) (by decide) (by decide) (by decide) (by decide) (by decide) (by decide) (by decide) (ltD hdx rfl) rfl ?_
  refine J_nmh e_4 ?_
  exact E_Vi hX dX6_copyFrom_26 hf
set_option maxRecDepth 100000 in
set_option maxHeartbeats 200000 in
theorem C_X6_copyFrom {G : GX} (hG : GOk G) {k0 : Nat} {k1 : Nat} {h : Hp} {r : Hp} (hk0 : isLog k0) (hk1 : isLog k1) (hf : f_X6_copyFrom k0 k1 h = some r) : Ctr G 2 yX6_copyFrom cX6_copyFrom 2 none [.ref k0, .ref k1] h ((.inl none, r)) :=
  Ctr_of hG RX6 rfl (by decide) rfl (fun X _ hdx hX => T_X6_copyFrom_0 hX hdx k0 hk0 k1 hk1 h hf)
theorem dX1_copyFrom_0 : decode cX1_copyFrom 0 = .ok (.aload_n 1, 1) := by decide +kernel
theorem dX1_copyFrom_1 : decode cX1_copyFrom 1 = .ok (.getfield 9, 3) := by decide +kernel
theorem dX1_copyFrom_4 : decode cX1_copyFrom 4 = .ok (.iconst 0, 1) := by decide +kernel
theorem dX1_copyFrom_5 : decode cX1_copyFrom 5 = .ok (.aload_n 0, 1) := by decide +kernel
theorem dX1_copyFrom_6 : decode cX1_copyFrom 6 = .ok (.getfield 9, 3) := by decide +kernel
theorem dX1_copyFrom_9 : decode cX1_copyFrom 9 = .ok (.iconst 0, 1) := by decide +kernel
theorem dX1_copyFrom_10 : decode cX1_copyFrom 10 = .ok (.bipush 8, 2) := by decide +kernel
theorem dX1_copyFrom_12 : decode cX1_copyFrom 12 = .ok (.invokestatic 50, 3) := by decide +kernel
theorem dX1_copyFrom_15 : decode cX1_copyFrom 15 = .ok (.aload_n 1, 1) := by decide +kernel
theorem dX1_copyFrom_16 : decode cX1_copyFrom 16 = .ok (.getfield 15, 3) := by decide +kernel
theorem dX1_copyFrom_19 : decode cX1_copyFrom 19 = .ok (.iconst 0, 1) := by decide +kernel
theorem dX1_copyFrom_20 : decode cX1_copyFrom 20 = .ok (.aload_n 0, 1) := by decide +kernel
theorem dX1_copyFrom_21 : decode cX1_copyFrom 21 = .ok (.getfield 15, 3) := by decide +kernel
theorem dX1_copyFrom_24 : decode cX1_copyFrom 24 = .ok (.iconst 0, 1) := by decide +kernel
theorem dX1_copyFrom_25 : decode cX1_copyFrom 25 = .ok (.bipush 8, 2) := by decide +kernel
theorem dX1_copyFrom_27 : decode cX1_copyFrom 27 = .ok (.invokestatic 50, 3) := by decide +kernel
theorem dX1_copyFrom_30 : decode cX1_copyFrom 30 = .ok (.aload_n 1, 1) := by decide +kernel
theorem dX1_copyFrom_31 : decode cX1_copyFrom 31 = .ok (.getfield 18, 3) := by decide +kernel
theorem dX1_copyFrom_34 : decode cX1_copyFrom 34 = .ok (.iconst 0, 1) := by decide +kernel
theorem dX1_copyFrom_35 : decode cX1_copyFrom 35 = .ok (.aload_n 0, 1) := by decide +kernel
theorem dX1_copyFrom_36 : decode cX1_copyFrom 36 = .ok (.getfield 18, 3) := by decide +kernel
theorem dX1_copyFrom_39 : decode cX1_copyFrom 39 = .ok (.iconst 0, 1) := by decide +kernel
theorem dX1_copyFrom_40 : decode cX1_copyFrom 40 = .ok (.bipush 8, 2) := by decide +kernel
theorem dX1_copyFrom_42 : decode cX1_copyFrom 42 = .ok (.invokestatic 50, 3) := by decide +kernel
theorem dX1_copyFrom_45 : decode cX1_copyFrom 45 = .ok (.aload_n 1, 1) := by decide +kernel
theorem dX1_copyFrom_46 : decode cX1_copyFrom 46 = .ok (.getfield 21, 3) := by decide +kernel
theorem dX1_copyFrom_49 : decode cX1_copyFrom 49 = .ok (.iconst 0, 1) := by decide +kernel
theorem dX1_copyFrom_50 : decode cX1_copyFrom 50 = .ok (.aload_n 0, 1) := by decide +kernel
theorem dX1_copyFrom_51 : decode cX1_copyFrom 51 = .ok (.getfield 21, 3) := by decide +kernel
theorem dX1_copyFrom_54 : decode cX1_copyFrom 54 = .ok (.iconst 0, 1) := by decide +kernel
theorem dX1_copyFrom_55 : decode cX1_copyFrom 55 = .ok (.bipush 8, 2) := by decide +kernel
theorem dX1_copyFrom_57 : decode cX1_copyFrom 57 = .ok (.invokestatic 50, 3) := by decide +kernel
theorem dX1_copyFrom_60 : decode cX1_copyFrom 60 = .ok (.aload_n 1, 1) := by decide +kernel
theorem dX1_copyFrom_61 : decode cX1_copyFrom 61 = .ok (.getfield 24, 3) := by decide +kernel
theorem dX1_copyFrom_64 : decode cX1_copyFrom 64 = .ok (.iconst 0, 1) := by decide +kernel
theorem dX1_copyFrom_65 : decode cX1_copyFrom 65 = .ok (.aload_n 0, 1) := by decide +kernel
theorem dX1_copyFrom_66 : decode cX1_copyFrom 66 = .ok (.getfield 24, 3) := by decide +kernel
theorem dX1_copyFrom_69 : decode cX1_copyFrom 69 = .ok (.iconst 0, 1) := by decide +kernel
theorem dX1_copyFrom_70 : decode cX1_copyFrom 70 = .ok (.bipush 64, 2) := by decide +kernel
theorem dX1_copyFrom_72 : decode cX1_copyFrom 72 = .ok (.invokestatic 50, 3) := by decide +kernel
theorem dX1_copyFrom_75 : decode cX1_copyFrom 75 = .ok (.aload_n 1, 1) := by decide +kernel
theorem dX1_copyFrom_76 : decode cX1_copyFrom 76 = .ok (.getfield 27, 3) := by decide +kernel
theorem dX1_copyFrom_79 : decode cX1_copyFrom 79 = .ok (.iconst 0, 1) := by decide +kernel
theorem dX1_copyFrom_80 : decode cX1_copyFrom 80 = .ok (.aload_n 0, 1) := by decide +kernel
theorem dX1_copyFrom_81 : decode cX1_copyFrom 81 = .ok (.getfield 27, 3) := by decide +kernel
theorem dX1_copyFrom_84 : decode cX1_copyFrom 84 = .ok (.iconst 0, 1) := by decide +kernel
theorem dX1_copyFrom_85 : decode cX1_copyFrom 85 = .ok (.bipush 6, 2) := by decide +kernel
theorem dX1_copyFrom_87 : decode cX1_copyFrom 87 = .ok (.invokestatic 50, 3) := by decide +kernel
theorem dX1_copyFrom_90 : decode cX1_copyFrom 90 = .ok (.aload_n 1, 1) := by decide +kernel
theorem dX1_copyFrom_91 : decode cX1_copyFrom 91 = .ok (.getfield 30, 3) := by decide +kernel
theorem dX1_copyFrom_94 : decode cX1_copyFrom 94 = .ok (.iconst 0, 1) := by decide +kernel
theorem dX1_copyFrom_95 : decode cX1_copyFrom 95 = .ok (.aload_n 0, 1) := by decide +kernel
theorem dX1_copyFrom_96 : decode cX1_copyFrom 96 = .ok (.getfield 30, 3) := by decide +kernel
theorem dX1_copyFrom_99 : decode cX1_copyFrom 99 = .ok (.iconst 0, 1) := by decide +kernel
theorem dX1_copyFrom_100 : decode cX1_copyFrom 100 = .ok (.bipush 6, 2) := by decide +kernel
theorem dX1_copyFrom_102 : decode cX1_copyFrom 102 = .ok (.invokestatic 50, 3) := by decide +kernel
theorem dX1_copyFrom_105 : decode cX1_copyFrom 105 = .ok (.aload_n 1, 1) := by decide +kernel
theorem dX1_copyFrom_106 : decode cX1_copyFrom 106 = .ok (.getfield 33, 3) := by decide +kernel
theorem dX1_copyFrom_109 : decode cX1_copyFrom 109 = .ok (.iconst 0, 1) := by decide +kernel
theorem dX1_copyFrom_110 : decode cX1_copyFrom 110 = .ok (.aload_n 0, 1) := by decide +kernel
theorem dX1_copyFrom_111 : decode cX1_copyFrom 111 = .ok (.getfield 33, 3) := by decide +kernel
theorem dX1_copyFrom_114 : decode cX1_copyFrom 114 = .ok (.iconst 0, 1) := by decide +kernel
theorem dX1_copyFrom_115 : decode cX1_copyFrom 115 = .ok (.bipush 6, 2) := by decide +kernel
theorem dX1_copyFrom_117 : decode cX1_copyFrom 117 = .ok (.invokestatic 50, 3) := by decide +kernel
theorem dX1_copyFrom_120 : decode cX1_copyFrom 120 = .ok (.aload_n 0, 1) := by decide +kernel
theorem dX1_copyFrom_121 : decode cX1_copyFrom 121 = .ok (.getfield 39, 3) := by decide +kernel
theorem dX1_copyFrom_124 : decode cX1_copyFrom 124 = .ok (.aload_n 1, 1) := by decide +kernel
theorem dX1_copyFrom_125 : decode cX1_copyFrom 125 = .ok (.getfield 39, 3) := by decide +kernel
theorem dX1_copyFrom_128 : decode cX1_copyFrom 128 = .ok (.invokevirtual 56, 3) := by decide +kernel
theorem dX1_copyFrom_131 : decode cX1_copyFrom 131 = .ok (.aload_n 0, 1) := by decide +kernel
theorem dX1_copyFrom_132 : decode cX1_copyFrom 132 = .ok (.aload_n 1, 1) := by decide +kernel
theorem dX1_copyFrom_133 : decode cX1_copyFrom 133 = .ok (.getfield 60, 3) := by decide +kernel
theorem dX1_copyFrom_136 : decode cX1_copyFrom 136 = .ok (.putfield 60, 3) := by decide +kernel
theorem dX1_copyFrom_139 : decode cX1_copyFrom 139 = .ok (.aload_n 0, 1) := by decide +kernel
theorem dX1_copyFrom_140 : decode cX1_copyFrom 140 = .ok (.aload_n 1, 1) := by decide +kernel
theorem dX1_copyFrom_141 : decode cX1_copyFrom 141 = .ok (.getfield 63, 3) := by decide +kernel
theorem dX1_copyFrom_144 : decode cX1_copyFrom 144 = .ok (.putfield 63, 3) := by decide +kernel
theorem dX1_copyFrom_147 : decode cX1_copyFrom 147 = .ok (.aload_n 0, 1) := by decide +kernel
theorem dX1_copyFrom_148 : decode cX1_copyFrom 148 = .ok (.aload_n 1, 1) := by decide +kernel
theorem dX1_copyFrom_149 : decode cX1_copyFrom 149 = .ok (.getfield 66, 3) := by decide +kernel
theorem dX1_copyFrom_152 : decode cX1_copyFrom 152 = .ok (.putfield 66, 3) := by decide +kernel
theorem dX1_copyFrom_155 : decode cX1_copyFrom 155 = .ok (.aload_n 0, 1) := by decide +kernel
theorem dX1_copyFrom_156 : decode cX1_copyFrom 156 = .ok (.aload_n 1, 1) := by decide +kernel
theorem dX1_copyFrom_157 : decode cX1_copyFrom 157 = .ok (.getfield 69, 3) := by decide +kernel
theorem dX1_copyFrom_160 : decode cX1_copyFrom 160 = .ok (.putfield 69, 3) := by decide +kernel
theorem dX1_copyFrom_163 : decode cX1_copyFrom 163 = .ok (.aload_n 0, 1) := by decide +kernel
theorem dX1_copyFrom_164 : decode cX1_copyFrom 164 = .ok (.aload_n 1, 1) := by decide +kernel
theorem dX1_copyFrom_165 : decode cX1_copyFrom 165 = .ok (.getfield 72, 3) := by decide +kernel
theorem dX1_copyFrom_168 : decode cX1_copyFrom 168 = .ok (.putfield 72, 3) := by decide +kernel
theorem dX1_copyFrom_171 : decode cX1_copyFrom 171 = .ok (.aload_n 0, 1) := by decide +kernel
theorem dX1_copyFrom_172 : decode cX1_copyFrom 172 = .ok (.aload_n 1, 1) := by decide +kernel
theorem dX1_copyFrom_173 : decode cX1_copyFrom 173 = .ok (.getfield 75, 3) := by decide +kernel
theorem dX1_copyFrom_176 : decode cX1_copyFrom 176 = .ok (.putfield 75, 3) := by decide +kernel
theorem dX1_copyFrom_179 : decode cX1_copyFrom 179 = .ok (.aload_n 0, 1) := by decide +kernel
theorem dX1_copyFrom_180 : decode cX1_copyFrom 180 = .ok (.aload_n 1, 1) := by decide +kernel
theorem dX1_copyFrom_181 : decode cX1_copyFrom 181 = .ok (.getfield 43, 3) := by decide +kernel
theorem dX1_copyFrom_184 : decode cX1_copyFrom 184 = .ok (.putfield 43, 3) := by decide +kernel
theorem dX1_copyFrom_187 : decode cX1_copyFrom 187 = .ok (.aload_n 0, 1) := by decide +kernel
theorem dX1_copyFrom_188 : decode cX1_copyFrom 188 = .ok (.aload_n 1, 1) := by decide +kernel
theorem dX1_copyFrom_189 : decode cX1_copyFrom 189 = .ok (.getfield 78, 3) := by decide +kernel
theorem dX1_copyFrom_192 : decode cX1_copyFrom 192 = .ok (.putfield 78, 3) := by decide +kernel
theorem dX1_copyFrom_195 : decode cX1_copyFrom 195 = .ok (.aload_n 0, 1) := by decide +kernel
theorem dX1_copyFrom_196 : decode cX1_copyFrom 196 = .ok (.aload_n 1, 1) := by decide +kernel
theorem dX1_copyFrom_197 : decode cX1_copyFrom 197 = .ok (.getfield 47, 3) := by decide +kernel
theorem dX1_copyFrom_200 : decode cX1_copyFrom 200 = .ok (.putfield 47, 3) := by decide +kernel
theorem dX1_copyFrom_203 : decode cX1_copyFrom 203 = .ok (.return_, 1) := by decide +kernel
set_option maxRecDepth 100000 in
set_option maxHeartbeats 200000 in
theorem T_X1_copyFrom_0 {X : CX} (hX : Ok X cX1_copyFrom 2 RX1 none) (hdx : dX X = 3) {r : Hp} (k0 : Nat) (hk0 : isCity k0) (k1 : Nat) (hk1 : isCity k1) (h : Hp) (hf : f_X1_copyFrom k0 k1 h = some r) : J X ((.inl none, r)) 0 [(0, .ref k0), (1, .ref k1)] [] h := by
  unfold f_X1_copyFrom at hf
  refine J_aload_n hX 1 dX1_copyFrom_0 rfl rfl ?_
  refine J_getR hX (k1 + 1) dX1_copyFrom_1 fl_X1_9 (city_ob hk1) rfl rfl ?_
  refine J_iconst hX 0 dX1_copyFrom_4 rfl ?_
  refine J_aload_n hX 0 dX1_copyFrom_5 rfl rfl ?_
  refine J_getR hX (k0 + 1) dX1_copyFrom_6 fl_X1_9 (city_ob hk0) rfl rfl ?_
  refine J_iconst hX 0 dX1_copyFrom_9 rfl ?_
  refine J_bipush hX 8 dX1_copyFrom_10 rfl ?_
  obtain ⟨h_1, e_2, hf⟩ := bndE hf
  refine J_copy hX 0 0 8 dX1_copyFrom_12 aw_X1_50 (city_ar 1 8 (by decide) hk1) (city_ar 1 8 (by decide) hk0) (by decide) (by decide) (by decide) (by decide) (by decide) (by decide) (by decide) (by decide) (ltD hdx rfl) rfl ?_
  refine J_nmh e_2 ?_
  refine J_aload_n hX 1 dX1_copyFrom_15 rfl rfl ?_
  refine J_getR hX (k1 + 2) dX1_copyFrom_16 fl_X1_15 (city_ob hk1) rfl rfl ?_
  refine J_iconst hX 0 dX1_copyFrom_19 rfl ?_
  refine J_aload_n hX 0 dX1_copyFrom_20 rfl rfl ?_
  refine J_getR hX (k0 + 2) dX1_copyFrom_21 fl_X1_15 (city_ob hk0) rfl rfl ?_
  refine J_iconst hX 0 dX1_copyFrom_24 rfl ?_
  refine J_bipush hX 8 dX1_copyFrom_25 rfl ?_
  obtain ⟨h_3, e_4, hf⟩ := bndE hf
  refine J_copy hX 0 0 8 dX1_copyFrom_27 aw_X1_50 (city_ar 2 8 (by decide) hk1) (city_ar 2 8 (by decide) hk0) (by decide) (by decide) (by decide) (by decide) (by decide) (by decide) (by decide) (by decide) (ltD hdx rfl) rfl ?_
  refine J_nmh e_4 ?_
  refine J_aload_n hX 1 dX1_copyFrom_30 rfl rfl ?_
  refine J_getR hX (k1 + 3) dX1_copyFrom_31 fl_X1_18 (city_ob hk1) rfl rfl ?_
  refine J_iconst hX 0 dX1_copyFrom_34 rfl ?_
  refine J_aload_n hX 0 dX1_copyFrom_35 rfl rfl ?_
  refine J_getR hX (k0 + 3) dX1_copyFrom_36 fl_X1_18 (city_ob hk0) rfl rfl ?_
  refine J_iconst hX 0 dX1_copyFrom_39 rfl ?_
  refine J_bipush hX 8 dX1_copyFrom_40 rfl ?_
  obtain ⟨h_5, e_6, hf⟩ := bndE hf
  refine J_copy hX 0 0 8 dX1_copyFrom_42 aw_X1_50 (city_ar 3 8 (by decide) hk1) (city_ar 3 8 (by decide) hk0) (by decide) (by decide) (by decide) (by decide) (by decide) (by decide) (by decide) (by decide) (ltD hdx rfl) rfl ?_
  refine J_nmh e_6 ?_
  refine J_aload_n hX 1 dX1_copyFrom_45 rfl rfl ?_
  refine J_getR hX (k1 + 4) dX1_copyFrom_46 fl_X1_21 (city_ob hk1) rfl rfl ?_
  refine J_iconst hX 0 dX1_copyFrom_49 rfl ?_
  refine J_aload_n hX 0 dX1_copyFrom_50 rfl rfl ?_
  refine J_getR hX (k0 + 4) dX1_copyFrom_51 fl_X1_21 (city_ob hk0) rfl rfl ?_
  refine J_iconst hX 0 dX1_copyFrom_54 rfl ?_
  refine J_bipush hX 8 dX1_copyFrom_55 rfl ?_
  obtain ⟨h_7, e_8, hf⟩ := bndE hf
  refine J_copy hX 0 0 8 dX1_copyFrom_57 aw_X1_50 (city_ar 4 8 (by decide) hk1) (city_ar 4 8 (by decide) hk0) (by decide) (by decide) (by decide) (by decide) (by decide) (by decide) (by decide) (by decide) (ltD hdx rfl) rfl ?_
  refine J_nmh e_8 ?_
  refine J_aload_n hX 1 dX1_copyFrom_60 rfl rfl ?_
  refine J_getR hX (k1 + 5) dX1_copyFrom_61 fl_X1_24 (city_ob hk1) rfl rfl ?_
  refine J_iconst hX 0 dX1_copyFrom_64 rfl ?_
  refine J_aload_n hX 0 dX1_copyFrom_65 rfl rfl ?_
  refine J_getR hX (k0 + 5) dX1_copyFrom_66 fl_X1_24 (city_ob hk0) rfl rfl ?_
  refine J_iconst hX 0 dX1_copyFrom_69 rfl ?_
  refine J_bipush hX 64 dX1_copyFrom_70 rfl ?_
  obtain ⟨h_9, e_10, hf⟩ := bndE hf
  refine J_copy hX 0 0 64 dX1_copyFrom_72 aw_X1_50 (city_ar 5 64 (by decide) hk1) (city_ar 5 64 (by decide) hk0) (by decide) (by decide) (by decide) (by decide) (by decide) (by decide) (by decide) (by decide) (ltD hdx rfl) rfl ?_
  refine J_nmh e_10 ?_
  refine J_aload_n hX 1 dX1_copyFrom_75 rfl rfl ?_
  refine J_getR hX (k1 + 6) dX1_copyFrom_76 fl_X1_27 (city_ob hk1) rfl rfl ?_
  refine J_iconst hX 0 dX1_copyFrom_79 rfl ?_
  refine J_aload_n hX 0 dX1_copyFrom_80 rfl rfl ?_
  refine J_getR hX (k0 + 6) dX1_copyFrom_81 fl_X1_27 (city_ob hk0) rfl rfl ?_
  refine J_iconst hX 0 dX1_copyFrom_84 rfl ?_
  refine J_bipush hX 6 dX1_copyFrom_85 rfl ?_
  obtain ⟨h_11, e_12, hf⟩ := bndE hf
  refine J_copy hX 0 0 6 dX1_copyFrom_87 aw_X1_50 (city_ar 6 6 (by decide) hk1) (city_ar 6 6 (by decide) hk0) (by decide) (by decide) (by decide) (by decide) (by decide) (by decide) (by decide) (by decide) (ltD hdx rfl) rfl ?_
  refine J_nmh e_12 ?_
  refine J_aload_n hX 1 dX1_copyFrom_90 rfl rfl ?_
  refine J_getR hX (k1 + 7) dX1_copyFrom_91 fl_X1_30 (city_ob hk1) rfl rfl ?_
  refine J_iconst hX 0 dX1_copyFrom_94 rfl ?_
  refine J_aload_n hX 0 dX1_copyFrom_95 rfl rfl ?_
  refine J_getR hX (k0 + 7) dX1_copyFrom_96 fl_X1_30 (city_ob hk0) rfl rfl ?_
  refine J_iconst hX 0 dX1_copyFrom_99 rfl ?_
  refine J_bipush hX 6 dX1_copyFrom_100 rfl ?_
  obtain ⟨h_13, e_14, hf⟩ := bndE hf
  refine J_copy hX 0 0 6 dX1_copyFrom_102 aw_X1_50 (city_ar 7 6 (by decide) hk1) (city_ar 7 6 (by decide) hk0) (by decide) (by decide) (by decide) (by decide) (by decide) (by decide) (by decide) (by decide) (ltD hdx rfl) rfl ?_
  refine J_nmh e_14 ?_
  refine J_aload_n hX 1 dX1_copyFrom_105 rfl rfl ?_
  refine J_getR hX (k1 + 8) dX1_copyFrom_106 fl_X1_33 (city_ob hk1) rfl rfl ?_
  refine J_iconst hX 0 dX1_copyFrom_109 rfl ?_
  refine J_aload_n hX 0 dX1_copyFrom_110 rfl rfl ?_
  refine J_getR hX (k0 + 8) dX1_copyFrom_111 fl_X1_33 (city_ob hk0) rfl rfl ?_
  refine J_iconst hX 0 dX1_copyFrom_114 rfl ?_
  refine J_bipush hX 6 dX1_copyFrom_115 rfl ?_
  obtain ⟨h_15, e_16, hf⟩ := bndE hf
  refine J_copy hX 0 0 6 dX1_copyFrom_117 aw_X1_50 (city_ar 8 6 (by decide) hk1) (city_ar 8 6 (by decide) hk0) (by decide) (by decide) (by decide) (by decide) (by decide) (by decide) (by decide) (by decide) (ltD hdx rfl) rfl ?_
  refine J_nmh e_16 ?_
  refine J_aload_n hX 0 dX1_copyFrom_120 rfl rfl ?_
  refine J_getR hX (k0 + 9) dX1_copyFrom_121 fl_X1_39 (city_ob hk0) rfl rfl ?_
  refine J_aload_n hX 1 dX1_copyFrom_124 rfl rfl ?_
  refine J_getR hX (k1 + 9) dX1_copyFrom_125 fl_X1_39 (city_ob hk1) rfl rfl ?_
  obtain ⟨r_17, e_18, hf⟩ := bdE hf
  refine V_0 hX [.ref (k1 + 9)] dX1_copyFrom_128 cw_X1_56 (log_ob (city_log hk0)) rfl (C_X6_copyFrom (okG hX) (city_log hk0) (city_log hk1) e_18) (ltD hdx rfl) rfl rfl rfl rfl ?_
  refine J_aload_n hX 0 dX1_copyFrom_131 rfl rfl ?_
  refine J_aload_n hX 1 dX1_copyFrom_132 rfl rfl ?_
  refine J_getI hX dX1_copyFrom_133 fl_X1_60 (city_ob hk1) rfl ?_
  obtain ⟨h_19, e_20, hf⟩ := bndE hf
  refine J_putI hX dX1_copyFrom_136 fl_X1_60 fw_1_9 (city_ob hk0) rfl rfl rfl ?_
  refine J_nmh e_20 ?_
  refine J_aload_n hX 0 dX1_copyFrom_139 rfl rfl ?_
  refine J_aload_n hX 1 dX1_copyFrom_140 rfl rfl ?_
  refine J_getI hX dX1_copyFrom_141 fl_X1_63 (city_ob hk1) rfl ?_
  obtain ⟨h_21, e_22, hf⟩ := bndE hf
  refine J_putI hX dX1_copyFrom_144 fl_X1_63 fw_1_10 (city_ob hk0) rfl rfl rfl ?_
  refine J_nmh e_22 ?_
  refine J_aload_n hX 0 dX1_copyFrom_147 rfl rfl ?_
  refine J_aload_n hX 1 dX1_copyFrom_148 rfl rfl ?_
  refine J_getI hX dX1_copyFrom_149 fl_X1_66 (city_ob hk1) rfl ?_
  obtain ⟨h_23, e_24, hf⟩ := bndE hf
  refine J_putI hX dX1_copyFrom_152 fl_X1_66 fw_1_11 (city_ob hk0) rfl rfl rfl ?_
  refine J_nmh e_24 ?_
  refine J_aload_n hX 0 dX1_copyFrom_155 rfl rfl ?_
  refine J_aload_n hX 1 dX1_copyFrom_156 rfl rfl ?_
  refine J_getI hX dX1_copyFrom_157 fl_X1_69 (city_ob hk1) rfl ?_
  obtain ⟨h_25, e_26, hf⟩ := bndE hf
  refine J_putI hX dX1_copyFrom_160 fl_X1_69 fw_1_12 (city_ob hk0) rfl rfl rfl ?_
  refine J_nmh e_26 ?_
  refine J_aload_n hX 0 dX1_copyFrom_163 rfl rfl ?_
  refine J_aload_n hX 1 dX1_copyFrom_164 rfl rfl ?_
  refine J_getI hX dX1_copyFrom_165 fl_X1_72 (city_ob hk1) rfl ?_
  obtain ⟨h_27, e_28, hf⟩ := bndE hf
  refine J_putI hX dX1_copyFrom_168 fl_X1_72 fw_1_13 (city_ob hk0) rfl rfl rfl ?_
  refine J_nmh e_28 ?_
  refine J_aload_n hX 0 dX1_copyFrom_171 rfl rfl ?_
  refine J_aload_n hX 1 dX1_copyFrom_172 rfl rfl ?_
  refine J_getI hX dX1_copyFrom_173 fl_X1_75 (city_ob hk1) rfl ?_
  obtain ⟨h_29, e_30, hf⟩ := bndE hf
  refine J_putI hX dX1_copyFrom_176 fl_X1_75 fw_1_14 (city_ob hk0) rfl rfl rfl ?_
  refine J_nmh e_30 ?_
  refine J_aload_n hX 0 dX1_copyFrom_179 rfl rfl ?_
  refine J_aload_n hX 1 dX1_copyFrom_180 rfl rfl ?_
  refine J_getI hX dX1_copyFrom_181 fl_X1_43 (city_ob hk1) rfl ?_
  obtain ⟨h_31, e_32, hf⟩ := bndE hf
  refine J_putI hX dX1_copyFrom_184 fl_X1_43 fw_1_15 (city_ob hk0) rfl rfl rfl ?_
  refine J_nmh e_32 ?_
  refine J_aload_n hX 0 dX1_copyFrom_187 rfl rfl ?_
  refine J_aload_n hX 1 dX1_copyFrom_188 rfl rfl ?_
  refine J_getI hX dX1_copyFrom_189 fl_X1_78 (city_ob hk1) rfl ?_
  obtain ⟨h_33, e_34, hf⟩ := bndE hf
  refine J_putI hX dX1_copyFrom_192 fl_X1_78 fw_1_16 (city_ob hk0) rfl rfl rfl ?_
  refine J_nmh e_34 ?_
  refine J_aload_n hX 0 dX1_copyFrom_195 rfl rfl ?_
  refine J_aload_n hX 1 dX1_copyFrom_196 rfl rfl ?_
  refine J_getI hX dX1_copyFrom_197 fl_X1_47 (city_ob hk1) rfl ?_
  obtain ⟨h_35, e_36, hf⟩ := bndE hf
  refine J_putI hX dX1_copyFrom_200 fl_X1_47 fw_1_17 (city_ob hk0) rfl rfl rfl ?_
  refine J_nmh e_36 ?_
  exact E_Vi hX dX1_copyFrom_203 hf
set_option maxRecDepth 100000 in
set_option maxHeartbeats 200000 in
theorem C_X1_copyFrom {G : GX} (hG : GOk G) {k0 : Nat} {k1 : Nat} {h : Hp} {r : Hp} (hk0 : isCity k0) (hk1 : isCity k1) (hf : f_X1_copyFrom k0 k1 h = some r) : Ctr G 3 yX1_copyFrom cX1_copyFrom 2 none [.ref k0, .ref k1] h ((.inl none, r)) :=
  Ctr_of hG RX1 rfl (by decide) rfl (fun X _ hdx hX => T_X1_copyFrom_0 hX hdx k0 hk0 k1 hk1 h hf)
theorem dX1_setPart_0 : decode cX1_setPart 0 = .ok (.aload_n 0, 1) := by decide +kernel
theorem dX1_setPart_1 : decode cX1_setPart 1 = .ok (.iload_n 1, 1) := by decide +kernel
theorem dX1_setPart_2 : decode cX1_setPart 2 = .ok (.invokevirtual 81, 3) := by decide +kernel
theorem dX1_setPart_5 : decode cX1_setPart 5 = .ok (.ifCond .eq 23, 3) := by decide +kernel
theorem dX1_setPart_8 : decode cX1_setPart 8 = .ok (.aload_n 0, 1) := by decide +kernel
theorem dX1_setPart_9 : decode cX1_setPart 9 = .ok (.iload_n 2, 1) := by decide +kernel
theorem dX1_setPart_10 : decode cX1_setPart 10 = .ok (.invokevirtual 81, 3) := by decide +kernel
theorem dX1_setPart_13 : decode cX1_setPart 13 = .ok (.ifCond .eq 15, 3) := by decide +kernel
theorem dX1_setPart_16 : decode cX1_setPart 16 = .ok (.aload_n 0, 1) := by decide +kernel
theorem dX1_setPart_17 : decode cX1_setPart 17 = .ok (.getfield 24, 3) := by decide +kernel
theorem dX1_setPart_20 : decode cX1_setPart 20 = .ok (.iload_n 1, 1) := by decide +kernel
theorem dX1_setPart_21 : decode cX1_setPart 21 = .ok (.bipush 8, 2) := by decide +kernel
theorem dX1_setPart_23 : decode cX1_setPart 23 = .ok (.imul, 1) := by decide +kernel
theorem dX1_setPart_24 : decode cX1_setPart 24 = .ok (.iload_n 2, 1) := by decide +kernel
theorem dX1_setPart_25 : decode cX1_setPart 25 = .ok (.iadd, 1) := by decide +kernel
theorem dX1_setPart_26 : decode cX1_setPart 26 = .ok (.iload_n 3, 1) := by decide +kernel
theorem dX1_setPart_27 : decode cX1_setPart 27 = .ok (.iastore, 1) := by decide +kernel
theorem dX1_setPart_28 : decode cX1_setPart 28 = .ok (.return_, 1) := by decide +kernel
set_option maxRecDepth 100000 in
set_option maxHeartbeats 200000 in
theorem T_X1_setPart_0 {X : CX} (hX : Ok X cX1_setPart 4 RX1 none) (hdx : dX X = 3) {r : Hp} (k0 : Nat) (hk0 : isCity k0) (x1 : Int32) (x2 : Int32) (x3 : Int32) (h : Hp) (hf : f_X1_setPart k0 x1 x2 x3 h = some r) : J X ((.inl none, r)) 0 [(0, .ref k0), (1, .int x1), (2, .int x2), (3, .int x3)] [] h := by
  unfold f_X1_setPart at hf
  refine J_aload_n hX 0 dX1_setPart_0 rfl rfl ?_
  refine J_iload_n hX 1 dX1_setPart_1 rfl rfl ?_
  refine V_1 hX [.int x1] dX1_setPart_2 cw_X1_81 (city_ob hk0) rfl (C_X1_isHouse (okG hX) hk0 rfl) (ltD hdx rfl) rfl rfl rfl rfl ?_
  rcases ifE hf with ⟨c_1, hf⟩ | ⟨c_1, hf⟩
  · refine J_if_eqF hX 28 dX1_setPart_5 rfl (b2iT c_1) ?_
    refine J_aload_n hX 0 dX1_setPart_8 rfl rfl ?_
    refine J_iload_n hX 2 dX1_setPart_9 rfl rfl ?_
    refine V_1 hX [.int x2] dX1_setPart_10 cw_X1_81 (city_ob hk0) rfl (C_X1_isHouse (okG hX) hk0 rfl) (ltD hdx rfl) rfl rfl rfl rfl ?_
    rcases ifE hf with ⟨c_2, hf⟩ | ⟨c_2, hf⟩
    · refine J_if_eqF hX 28 dX1_setPart_13 rfl (b2iT c_2) ?_
      refine J_aload_n hX 0 dX1_setPart_16 rfl rfl ?_
      refine J_getR hX (k0 + 5) dX1_setPart_17 fl_X1_24 (city_ob hk0) rfl rfl ?_
      refine J_iload_n hX 1 dX1_setPart_20 rfl rfl ?_
      refine J_bipush hX 8 dX1_setPart_21 rfl ?_
      refine J_imul hX dX1_setPart_23 ?_
      refine J_iload_n hX 2 dX1_setPart_24 rfl rfl ?_
      refine J_iadd hX dX1_setPart_25 ?_
      refine J_iload_n hX 3 dX1_setPart_26 rfl rfl ?_
      obtain ⟨g_3, hf⟩ := gdE hf
      obtain ⟨h_4, e_5, hf⟩ := bndE hf
      refine J_ast hX (((x1 * 8) + x2).toNatClampNeg) x3 dX1_setPart_27 (city_ar 5 64 (by decide) hk0) (Or.inl ⟨rfl, rfl, rfl⟩) g_3 rfl ?_
      refine J_nmh e_5 ?_
      exact E_Vi hX dX1_setPart_28 hf
    · refine J_if_eqT hX 28 dX1_setPart_13 rfl (b2iF c_2) ?_
      exact E_Vi hX dX1_setPart_28 hf
  · refine J_if_eqT hX 28 dX1_setPart_5 rfl (b2iF c_1) ?_
    exact E_Vi hX dX1_setPart_28 hf
set_option maxRecDepth 100000 in
set_option maxHeartbeats 200000 in
theorem C_X1_setPart {G : GX} (hG : GOk G) {k0 : Nat} {x1 : Int32} {x2 : Int32} {x3 : Int32} {h : Hp} {r : Hp} (hk0 : isCity k0) (hf : f_X1_setPart k0 x1 x2 x3 h = some r) : Ctr G 3 yX1_setPart cX1_setPart 4 none [.ref k0, .int x1, .int x2, .int x3] h ((.inl none, r)) :=
  Ctr_of hG RX1 rfl (by decide) rfl (fun X _ hdx hX => T_X1_setPart_0 hX hdx k0 hk0 x1 x2 x3 h hf)
theorem dX9_countParts_0 : decode cX9_countParts 0 = .ok (.aload_n 0, 1) := by decide +kernel
theorem dX9_countParts_1 : decode cX9_countParts 1 = .ok (.iconst 0, 1) := by decide +kernel
theorem dX9_countParts_2 : decode cX9_countParts 2 = .ok (.putfield 85, 3) := by decide +kernel
theorem dX9_countParts_5 : decode cX9_countParts 5 = .ok (.iconst 0, 1) := by decide +kernel
theorem dX9_countParts_6 : decode cX9_countParts 6 = .ok (.istore_n 2, 1) := by decide +kernel
theorem dX9_countParts_7 : decode cX9_countParts 7 = .ok (.iload_n 2, 1) := by decide +kernel
theorem dX9_countParts_8 : decode cX9_countParts 8 = .ok (.bipush 8, 2) := by decide +kernel
theorem dX9_countParts_10 : decode cX9_countParts 10 = .ok (.if_icmp .ge 75, 3) := by decide +kernel
theorem dX9_countParts_13 : decode cX9_countParts 13 = .ok (.iconst 0, 1) := by decide +kernel
theorem dX9_countParts_14 : decode cX9_countParts 14 = .ok (.istore_n 3, 1) := by decide +kernel
theorem dX9_countParts_15 : decode cX9_countParts 15 = .ok (.iconst 0, 1) := by decide +kernel
theorem dX9_countParts_16 : decode cX9_countParts 16 = .ok (.istore 4, 2) := by decide +kernel
theorem dX9_countParts_18 : decode cX9_countParts 18 = .ok (.iload 4, 2) := by decide +kernel
theorem dX9_countParts_20 : decode cX9_countParts 20 = .ok (.bipush 8, 2) := by decide +kernel
theorem dX9_countParts_22 : decode cX9_countParts 22 = .ok (.if_icmp .ge 50, 3) := by decide +kernel
theorem dX9_countParts_25 : decode cX9_countParts 25 = .ok (.aload_n 1, 1) := by decide +kernel
theorem dX9_countParts_26 : decode cX9_countParts 26 = .ok (.getfield 89, 3) := by decide +kernel
theorem dX9_countParts_29 : decode cX9_countParts 29 = .ok (.iload_n 2, 1) := by decide +kernel
theorem dX9_countParts_30 : decode cX9_countParts 30 = .ok (.bipush 8, 2) := by decide +kernel
theorem dX9_countParts_32 : decode cX9_countParts 32 = .ok (.imul, 1) := by decide +kernel
theorem dX9_countParts_33 : decode cX9_countParts 33 = .ok (.iload 4, 2) := by decide +kernel
theorem dX9_countParts_35 : decode cX9_countParts 35 = .ok (.iadd, 1) := by decide +kernel
theorem dX9_countParts_36 : decode cX9_countParts 36 = .ok (.iaload, 1) := by decide +kernel
theorem dX9_countParts_37 : decode cX9_countParts 37 = .ok (.istore 5, 2) := by decide +kernel
theorem dX9_countParts_39 : decode cX9_countParts 39 = .ok (.iload_n 3, 1) := by decide +kernel
theorem dX9_countParts_40 : decode cX9_countParts 40 = .ok (.iload 5, 2) := by decide +kernel
theorem dX9_countParts_42 : decode cX9_countParts 42 = .ok (.iadd, 1) := by decide +kernel
theorem dX9_countParts_43 : decode cX9_countParts 43 = .ok (.istore_n 3, 1) := by decide +kernel
theorem dX9_countParts_44 : decode cX9_countParts 44 = .ok (.aload_n 0, 1) := by decide +kernel
theorem dX9_countParts_45 : decode cX9_countParts 45 = .ok (.dup, 1) := by decide +kernel
theorem dX9_countParts_46 : decode cX9_countParts 46 = .ok (.getfield 85, 3) := by decide +kernel
theorem dX9_countParts_49 : decode cX9_countParts 49 = .ok (.iload 5, 2) := by decide +kernel
theorem dX9_countParts_51 : decode cX9_countParts 51 = .ok (.ifCond .le 10, 3) := by decide +kernel
theorem dX9_countParts_54 : decode cX9_countParts 54 = .ok (.iconst 1, 1) := by decide +kernel
theorem dX9_countParts_55 : decode cX9_countParts 55 = .ok (.iload 4, 2) := by decide +kernel
theorem dX9_countParts_57 : decode cX9_countParts 57 = .ok (.ishl, 1) := by decide +kernel
theorem dX9_countParts_58 : decode cX9_countParts 58 = .ok (.goto 4, 3) := by decide +kernel
theorem dX9_countParts_61 : decode cX9_countParts 61 = .ok (.iconst 0, 1) := by decide +kernel
theorem dX9_countParts_62 : decode cX9_countParts 62 = .ok (.ior, 1) := by decide +kernel
theorem dX9_countParts_63 : decode cX9_countParts 63 = .ok (.putfield 85, 3) := by decide +kernel
theorem dX9_countParts_66 : decode cX9_countParts 66 = .ok (.iinc 4 1, 3) := by decide +kernel
theorem dX9_countParts_69 : decode cX9_countParts 69 = .ok (.goto (-51), 3) := by decide +kernel
theorem dX9_countParts_72 : decode cX9_countParts 72 = .ok (.aload_n 0, 1) := by decide +kernel
theorem dX9_countParts_73 : decode cX9_countParts 73 = .ok (.getfield 30, 3) := by decide +kernel
theorem dX9_countParts_76 : decode cX9_countParts 76 = .ok (.iload_n 2, 1) := by decide +kernel
theorem dX9_countParts_77 : decode cX9_countParts 77 = .ok (.iload_n 3, 1) := by decide +kernel
theorem dX9_countParts_78 : decode cX9_countParts 78 = .ok (.iastore, 1) := by decide +kernel
theorem dX9_countParts_79 : decode cX9_countParts 79 = .ok (.iinc 2 1, 3) := by decide +kernel
theorem dX9_countParts_82 : decode cX9_countParts 82 = .ok (.goto (-75), 3) := by decide +kernel
theorem dX9_countParts_85 : decode cX9_countParts 85 = .ok (.return_, 1) := by decide +kernel
set_option maxRecDepth 100000 in
set_option maxHeartbeats 200000 in
theorem T_X9_countParts_62 {X : CX} (hX : Ok X cX9_countParts 6 RX9 none) (hdx : dX X = 2) {r : Hp} (k1 : Nat) (hk1 : isCity k1) (x2 : Int32) (x3 : Int32) (x4 : Int32) (t0 : Int32) (t1 : Int32) (q_7 : Int32 → Hp → Option Hp) (hq_7 : ∀ (x2 : Int32) (h : Hp), q_7 x2 h = some r → J X ((.inl none, r)) 7 [(0, .ref 5), (1, .ref k1), (2, .int x2)] [] h) (q_18 : Int32 → Int32 → Hp → Option Hp) (hq_18 : ∀ (x3 : Int32) (x4 : Int32) (h : Hp), q_18 x3 x4 h = some r → J X ((.inl none, r)) 18 [(0, .ref 5), (1, .ref k1), (2, .int x2), (3, .int x3), (4, .int x4)] [] h) (h : Hp) (hf : F_X9_countParts_62 q_7 q_18 k1 x2 x3 x4 t0 t1 h = some r) : J X ((.inl none, r)) 62 [(0, .ref 5), (1, .ref k1), (2, .int x2), (3, .int x3), (4, .int x4)] [.int t0, .int t1, .ref 5] h := by
  unfold F_X9_countParts_62 at hf
  refine J_ior hX dX9_countParts_62 ?_
  obtain ⟨h_1, e_2, hf⟩ := bndE hf
  refine J_putI hX dX9_countParts_63 fl_X9_85 fw_7_9 ob_5 rfl rfl rfl ?_
  refine J_nmh e_2 ?_
  refine J_iinc hX (x4 + 1) 4 [(4, .int (x4 + 1)), (0, .ref 5), (1, .ref k1), (2, .int x2), (3, .int x3)] dX9_countParts_66 rfl rfl rfl rfl ?_
  refine J_goto hX 18 dX9_countParts_69 rfl ?_
  refine J_sub [1, 2, 3, 4, 0] [(0, .ref 5), (1, .ref k1), (2, .int x2), (3, .int x3), (4, .int (x4 + 1))] rfl ?_
  exact hq_18 x3 (x4 + 1) h_1 hf
set_option maxRecDepth 100000 in
set_option maxHeartbeats 200000 in
theorem T_X9_countParts_18_s {X : CX} (hX : Ok X cX9_countParts 6 RX9 none) (hdx : dX X = 2) {r : Hp} (k1 : Nat) (hk1 : isCity k1) (x2 : Int32) (q_7 : Int32 → Hp → Option Hp) (hq_7 : ∀ (x2 : Int32) (h : Hp), q_7 x2 h = some r → J X ((.inl none, r)) 7 [(0, .ref 5), (1, .ref k1), (2, .int x2)] [] h) (q_18 : Int32 → Int32 → Hp → Option Hp) (hq_18 : ∀ (x3 : Int32) (x4 : Int32) (h : Hp), q_18 x3 x4 h = some r → J X ((.inl none, r)) 18 [(0, .ref 5), (1, .ref k1), (2, .int x2), (3, .int x3), (4, .int x4)] [] h) (x3 : Int32) (x4 : Int32) (h : Hp) (hf : S_X9_countParts_18 q_7 k1 x2 q_18 x3 x4 h = some r) : J X ((.inl none, r)) 18 [(0, .ref 5), (1, .ref k1), (2, .int x2), (3, .int x3), (4, .int x4)] [] h := by
  unfold S_X9_countParts_18 at hf
  refine J_iload hX 4 dX9_countParts_18 rfl ?_
  refine J_bipush hX 8 dX9_countParts_20 rfl ?_
  rcases ifE hf with ⟨c_1, hf⟩ | ⟨c_1, hf⟩
  · refine J_icmp_geF hX 72 dX9_countParts_22 rfl c_1 ?_
    refine J_aload_n hX 1 dX9_countParts_25 rfl rfl ?_
    refine J_getR hX (k1 + 5) dX9_countParts_26 fl_X9_89 (city_ob hk1) rfl rfl ?_
    refine J_iload_n hX 2 dX9_countParts_29 rfl rfl ?_
    refine J_bipush hX 8 dX9_countParts_30 rfl ?_
    refine J_imul hX dX9_countParts_32 ?_
    refine J_iload hX 4 dX9_countParts_33 rfl ?_
    refine J_iadd hX dX9_countParts_35 ?_
    obtain ⟨g_2, hf⟩ := gdE hf
    refine J_ald hX (((x2 * 8) + x4).toNatClampNeg) dX9_countParts_36 (city_ar 5 64 (by decide) hk1) (Or.inl ⟨rfl, rfl⟩) g_2 rfl ?_
    obtain ⟨x5_3, e_4, hf⟩ := bndE hf
    refine J_nm e_4 ?_
    refine J_istore hX [(5, .int x5_3), (0, .ref 5), (1, .ref k1), (2, .int x2), (3, .int x3), (4, .int x4)] dX9_countParts_37 rfl rfl ?_
    refine J_iload_n hX 4 dX9_countParts_39 rfl rfl ?_
    refine J_iload hX 0 dX9_countParts_40 rfl ?_
    refine J_iadd hX dX9_countParts_42 ?_
    obtain ⟨x3_5, e_6, hf⟩ := bndE hf
    refine J_nm e_6 ?_
    refine J_istore_n hX [(3, .int x3_5), (5, .int x5_3), (0, .ref 5), (1, .ref k1), (2, .int x2), (4, .int x4)] dX9_countParts_43 rfl rfl rfl ?_
    refine J_aload_n hX 2 dX9_countParts_44 rfl rfl ?_
    refine J_dup hX dX9_countParts_45 rfl ?_
    refine J_getI hX dX9_countParts_46 fl_X9_85 ob_5 rfl ?_
    refine J_iload hX 1 dX9_countParts_49 rfl ?_
    rcases ifE hf with ⟨c_7, hf⟩ | ⟨c_7, hf⟩
    · refine J_if_leF hX 61 dX9_countParts_51 rfl c_7 ?_
      refine J_iconst hX 1 dX9_countParts_54 rfl ?_
      refine J_iload hX 5 dX9_countParts_55 rfl ?_
      refine J_ishl hX dX9_countParts_57 ?_
      refine J_goto hX 62 dX9_countParts_58 rfl ?_
      refine J_sub [2, 3, 4, 0, 5] [(0, .ref 5), (1, .ref k1), (2, .int x2), (3, .int x3_5), (4, .int x4)] rfl ?_
      exact T_X9_countParts_62 hX hdx k1 hk1 x2 x3_5 x4 (shl 1 x4) (h 5 9) q_7 hq_7 q_18 hq_18 h hf
    · refine J_if_leT hX 61 dX9_countParts_51 rfl c_7 ?_
      refine J_iconst hX 0 dX9_countParts_61 rfl ?_
      refine J_sub [2, 3, 4, 0, 5] [(0, .ref 5), (1, .ref k1), (2, .int x2), (3, .int x3_5), (4, .int x4)] rfl ?_
      exact T_X9_countParts_62 hX hdx k1 hk1 x2 x3_5 x4 0 (h 5 9) q_7 hq_7 q_18 hq_18 h hf
  · refine J_icmp_geT hX 72 dX9_countParts_22 rfl c_1 ?_
    refine J_aload_n hX 0 dX9_countParts_72 rfl rfl ?_
    refine J_getR hX 12 dX9_countParts_73 fl_X9_30 ob_5 rfl rfl ?_
    refine J_iload_n hX 2 dX9_countParts_76 rfl rfl ?_
    refine J_iload_n hX 3 dX9_countParts_77 rfl rfl ?_
    obtain ⟨g_8, hf⟩ := gdE hf
    obtain ⟨h_9, e_10, hf⟩ := bndE hf
    refine J_ast hX x2.toNatClampNeg x3 dX9_countParts_78 ar_12 (Or.inl ⟨rfl, rfl, rfl⟩) g_8 rfl ?_
    refine J_nmh e_10 ?_
    refine J_iinc hX (x2 + 1) 2 [(2, .int (x2 + 1)), (0, .ref 5), (1, .ref k1), (3, .int x3), (4, .int x4)] dX9_countParts_79 rfl rfl rfl rfl ?_
    refine J_goto hX 7 dX9_countParts_82 rfl ?_
    refine J_sub [1, 2, 0] [(0, .ref 5), (1, .ref k1), (2, .int (x2 + 1))] rfl ?_
    exact hq_7 (x2 + 1) h_9 hf
set_option maxRecDepth 100000 in
set_option maxHeartbeats 200000 in
theorem T_X9_countParts_18 {X : CX} (hX : Ok X cX9_countParts 6 RX9 none) (hdx : dX X = 2) {r : Hp} (k1 : Nat) (hk1 : isCity k1) (x2 : Int32) (q_7 : Int32 → Hp → Option Hp) (hq_7 : ∀ (x2 : Int32) (h : Hp), q_7 x2 h = some r → J X ((.inl none, r)) 7 [(0, .ref 5), (1, .ref k1), (2, .int x2)] [] h) : ∀ (n : Nat) (x3 : Int32) (x4 : Int32) (h : Hp), F_X9_countParts_18 q_7 k1 x2 n x3 x4 h = some r → J X ((.inl none, r)) 18 [(0, .ref 5), (1, .ref k1), (2, .int x2), (3, .int x3), (4, .int x4)] [] h := by
  intro n
  induction n with
  | zero => intro x3 x4 h hf; exact nomatch hf
  | succ n ih => intro x3 x4 h hf; exact T_X9_countParts_18_s hX hdx k1 hk1 x2 q_7 hq_7 _ (fun x3 x4 h hf => ih x3 x4 h hf) x3 x4 h hf
set_option maxRecDepth 100000 in
set_option maxHeartbeats 200000 in
theorem T_X9_countParts_7_s {X : CX} (hX : Ok X cX9_countParts 6 RX9 none) (hdx : dX X = 2) {r : Hp} (k1 : Nat) (hk1 : isCity k1) (q_7 : Int32 → Hp → Option Hp) (hq_7 : ∀ (x2 : Int32) (h : Hp), q_7 x2 h = some r → J X ((.inl none, r)) 7 [(0, .ref 5), (1, .ref k1), (2, .int x2)] [] h) (x2 : Int32) (h : Hp) (hf : S_X9_countParts_7 k1 q_7 x2 h = some r) : J X ((.inl none, r)) 7 [(0, .ref 5), (1, .ref k1), (2, .int x2)] [] h := by
  unfold S_X9_countParts_7 at hf
  refine J_iload_n hX 2 dX9_countParts_7 rfl rfl ?_
  refine J_bipush hX 8 dX9_countParts_8 rfl ?_
  rcases ifE hf with ⟨c_1, hf⟩ | ⟨c_1, hf⟩
  · refine J_icmp_geF hX 85 dX9_countParts_10 rfl c_1 ?_
    refine J_iconst hX 0 dX9_countParts_13 rfl ?_
    refine J_istore_n hX [(3, .int 0), (0, .ref 5), (1, .ref k1), (2, .int x2)] dX9_countParts_14 rfl rfl rfl ?_
    refine J_iconst hX 0 dX9_countParts_15 rfl ?_
    refine J_istore hX [(4, .int 0), (3, .int 0), (0, .ref 5), (1, .ref k1), (2, .int x2)] dX9_countParts_16 rfl rfl ?_
    refine J_sub [2, 3, 4, 1, 0] [(0, .ref 5), (1, .ref k1), (2, .int x2), (3, .int 0), (4, .int 0)] rfl ?_
    exact T_X9_countParts_18 hX hdx k1 hk1 x2 q_7 hq_7 FU 0 0 h hf
  · refine J_icmp_geT hX 85 dX9_countParts_10 rfl c_1 ?_
    exact E_Vi hX dX9_countParts_85 hf
set_option maxRecDepth 100000 in
set_option maxHeartbeats 200000 in
theorem T_X9_countParts_7 {X : CX} (hX : Ok X cX9_countParts 6 RX9 none) (hdx : dX X = 2) {r : Hp} (k1 : Nat) (hk1 : isCity k1) : ∀ (n : Nat) (x2 : Int32) (h : Hp), F_X9_countParts_7 k1 n x2 h = some r → J X ((.inl none, r)) 7 [(0, .ref 5), (1, .ref k1), (2, .int x2)] [] h := by
  intro n
  induction n with
  | zero => intro x2 h hf; exact nomatch hf
  | succ n ih => intro x2 h hf; exact T_X9_countParts_7_s hX hdx k1 hk1 _ (fun x2 h hf => ih x2 h hf) x2 h hf
set_option maxRecDepth 100000 in
set_option maxHeartbeats 200000 in
theorem T_X9_countParts_0 {X : CX} (hX : Ok X cX9_countParts 6 RX9 none) (hdx : dX X = 2) {r : Hp} (k1 : Nat) (hk1 : isCity k1) (h : Hp) (hf : f_X9_countParts k1 h = some r) : J X ((.inl none, r)) 0 [(0, .ref 5), (1, .ref k1)] [] h := by
  unfold f_X9_countParts at hf
  refine J_aload_n hX 0 dX9_countParts_0 rfl rfl ?_
  refine J_iconst hX 0 dX9_countParts_1 rfl ?_
  obtain ⟨h_1, e_2, hf⟩ := bndE hf
  refine J_putI hX dX9_countParts_2 fl_X9_85 fw_7_9 ob_5 rfl rfl rfl ?_
  refine J_nmh e_2 ?_
  refine J_iconst hX 0 dX9_countParts_5 rfl ?_
  refine J_istore_n hX [(2, .int 0), (0, .ref 5), (1, .ref k1)] dX9_countParts_6 rfl rfl rfl ?_
  refine J_sub [1, 2, 0] [(0, .ref 5), (1, .ref k1), (2, .int 0)] rfl ?_
  exact T_X9_countParts_7 hX hdx k1 hk1 FU 0 h_1 hf
set_option maxRecDepth 100000 in
set_option maxHeartbeats 200000 in
theorem C_X9_countParts {G : GX} (hG : GOk G) {k1 : Nat} {h : Hp} {r : Hp} (hk1 : isCity k1) (hf : f_X9_countParts k1 h = some r) : Ctr G 2 yX9_countParts cX9_countParts 6 none [.ref 5, .ref k1] h ((.inl none, r)) :=
  Ctr_of hG RX9 rfl (by decide) rfl (fun X _ hdx hX => T_X9_countParts_0 hX hdx k1 hk1 h hf)
theorem dX9_pressOnce_0 : decode cX9_pressOnce 0 = .ok (.iconst 0, 1) := by decide +kernel
theorem dX9_pressOnce_1 : decode cX9_pressOnce 1 = .ok (.istore_n 2, 1) := by decide +kernel
theorem dX9_pressOnce_2 : decode cX9_pressOnce 2 = .ok (.iload_n 2, 1) := by decide +kernel
theorem dX9_pressOnce_3 : decode cX9_pressOnce 3 = .ok (.bipush 8, 2) := by decide +kernel
theorem dX9_pressOnce_5 : decode cX9_pressOnce 5 = .ok (.if_icmp .ge 16, 3) := by decide +kernel
theorem dX9_pressOnce_8 : decode cX9_pressOnce 8 = .ok (.aload_n 0, 1) := by decide +kernel
theorem dX9_pressOnce_9 : decode cX9_pressOnce 9 = .ok (.getfield 27, 3) := by decide +kernel
theorem dX9_pressOnce_12 : decode cX9_pressOnce 12 = .ok (.iload_n 2, 1) := by decide +kernel
theorem dX9_pressOnce_13 : decode cX9_pressOnce 13 = .ok (.iconst 0, 1) := by decide +kernel
theorem dX9_pressOnce_14 : decode cX9_pressOnce 14 = .ok (.iastore, 1) := by decide +kernel
theorem dX9_pressOnce_15 : decode cX9_pressOnce 15 = .ok (.iinc 2 1, 3) := by decide +kernel
theorem dX9_pressOnce_18 : decode cX9_pressOnce 18 = .ok (.goto (-16), 3) := by decide +kernel
theorem dX9_pressOnce_21 : decode cX9_pressOnce 21 = .ok (.iconst 0, 1) := by decide +kernel
theorem dX9_pressOnce_22 : decode cX9_pressOnce 22 = .ok (.istore_n 2, 1) := by decide +kernel
theorem dX9_pressOnce_23 : decode cX9_pressOnce 23 = .ok (.iload_n 2, 1) := by decide +kernel
theorem dX9_pressOnce_24 : decode cX9_pressOnce 24 = .ok (.bipush 8, 2) := by decide +kernel
theorem dX9_pressOnce_26 : decode cX9_pressOnce 26 = .ok (.if_icmp .ge 80, 3) := by decide +kernel
theorem dX9_pressOnce_29 : decode cX9_pressOnce 29 = .ok (.aload_n 0, 1) := by decide +kernel
theorem dX9_pressOnce_30 : decode cX9_pressOnce 30 = .ok (.getfield 30, 3) := by decide +kernel
theorem dX9_pressOnce_33 : decode cX9_pressOnce 33 = .ok (.iload_n 2, 1) := by decide +kernel
theorem dX9_pressOnce_34 : decode cX9_pressOnce 34 = .ok (.iaload, 1) := by decide +kernel
theorem dX9_pressOnce_35 : decode cX9_pressOnce 35 = .ok (.istore_n 3, 1) := by decide +kernel
theorem dX9_pressOnce_36 : decode cX9_pressOnce 36 = .ok (.iload_n 3, 1) := by decide +kernel
theorem dX9_pressOnce_37 : decode cX9_pressOnce 37 = .ok (.ifCond .le 63, 3) := by decide +kernel
theorem dX9_pressOnce_40 : decode cX9_pressOnce 40 = .ok (.aload_n 1, 1) := by decide +kernel
theorem dX9_pressOnce_41 : decode cX9_pressOnce 41 = .ok (.getfield 57, 3) := by decide +kernel
theorem dX9_pressOnce_44 : decode cX9_pressOnce 44 = .ok (.iload_n 2, 1) := by decide +kernel
theorem dX9_pressOnce_45 : decode cX9_pressOnce 45 = .ok (.iaload, 1) := by decide +kernel
theorem dX9_pressOnce_46 : decode cX9_pressOnce 46 = .ok (.aload_n 0, 1) := by decide +kernel
theorem dX9_pressOnce_47 : decode cX9_pressOnce 47 = .ok (.getfield 9, 3) := by decide +kernel
theorem dX9_pressOnce_50 : decode cX9_pressOnce 50 = .ok (.iload_n 2, 1) := by decide +kernel
theorem dX9_pressOnce_51 : decode cX9_pressOnce 51 = .ok (.iaload, 1) := by decide +kernel
theorem dX9_pressOnce_52 : decode cX9_pressOnce 52 = .ok (.iadd, 1) := by decide +kernel
theorem dX9_pressOnce_53 : decode cX9_pressOnce 53 = .ok (.iconst 2, 1) := by decide +kernel
theorem dX9_pressOnce_54 : decode cX9_pressOnce 54 = .ok (.idiv, 1) := by decide +kernel
theorem dX9_pressOnce_55 : decode cX9_pressOnce 55 = .ok (.istore 4, 2) := by decide +kernel
theorem dX9_pressOnce_57 : decode cX9_pressOnce 57 = .ok (.iconst 0, 1) := by decide +kernel
theorem dX9_pressOnce_58 : decode cX9_pressOnce 58 = .ok (.istore 5, 2) := by decide +kernel
theorem dX9_pressOnce_60 : decode cX9_pressOnce 60 = .ok (.iload 5, 2) := by decide +kernel
theorem dX9_pressOnce_62 : decode cX9_pressOnce 62 = .ok (.bipush 8, 2) := by decide +kernel
theorem dX9_pressOnce_64 : decode cX9_pressOnce 64 = .ok (.if_icmp .ge 36, 3) := by decide +kernel
theorem dX9_pressOnce_67 : decode cX9_pressOnce 67 = .ok (.aload_n 0, 1) := by decide +kernel
theorem dX9_pressOnce_68 : decode cX9_pressOnce 68 = .ok (.getfield 27, 3) := by decide +kernel
theorem dX9_pressOnce_71 : decode cX9_pressOnce 71 = .ok (.iload 5, 2) := by decide +kernel
theorem dX9_pressOnce_73 : decode cX9_pressOnce 73 = .ok (.dup2, 1) := by decide +kernel
theorem dX9_pressOnce_74 : decode cX9_pressOnce 74 = .ok (.iaload, 1) := by decide +kernel
theorem dX9_pressOnce_75 : decode cX9_pressOnce 75 = .ok (.iload 4, 2) := by decide +kernel
theorem dX9_pressOnce_77 : decode cX9_pressOnce 77 = .ok (.aload_n 1, 1) := by decide +kernel
theorem dX9_pressOnce_78 : decode cX9_pressOnce 78 = .ok (.getfield 89, 3) := by decide +kernel
theorem dX9_pressOnce_81 : decode cX9_pressOnce 81 = .ok (.iload_n 2, 1) := by decide +kernel
theorem dX9_pressOnce_82 : decode cX9_pressOnce 82 = .ok (.bipush 8, 2) := by decide +kernel
theorem dX9_pressOnce_84 : decode cX9_pressOnce 84 = .ok (.imul, 1) := by decide +kernel
theorem dX9_pressOnce_85 : decode cX9_pressOnce 85 = .ok (.iload 5, 2) := by decide +kernel
theorem dX9_pressOnce_87 : decode cX9_pressOnce 87 = .ok (.iadd, 1) := by decide +kernel
theorem dX9_pressOnce_88 : decode cX9_pressOnce 88 = .ok (.iaload, 1) := by decide +kernel
theorem dX9_pressOnce_89 : decode cX9_pressOnce 89 = .ok (.imul, 1) := by decide +kernel
theorem dX9_pressOnce_90 : decode cX9_pressOnce 90 = .ok (.iload_n 3, 1) := by decide +kernel
theorem dX9_pressOnce_91 : decode cX9_pressOnce 91 = .ok (.idiv, 1) := by decide +kernel
theorem dX9_pressOnce_92 : decode cX9_pressOnce 92 = .ok (.iadd, 1) := by decide +kernel
theorem dX9_pressOnce_93 : decode cX9_pressOnce 93 = .ok (.iastore, 1) := by decide +kernel
theorem dX9_pressOnce_94 : decode cX9_pressOnce 94 = .ok (.iinc 5 1, 3) := by decide +kernel
theorem dX9_pressOnce_97 : decode cX9_pressOnce 97 = .ok (.goto (-37), 3) := by decide +kernel
theorem dX9_pressOnce_100 : decode cX9_pressOnce 100 = .ok (.iinc 2 1, 3) := by decide +kernel
theorem dX9_pressOnce_103 : decode cX9_pressOnce 103 = .ok (.goto (-80), 3) := by decide +kernel
theorem dX9_pressOnce_106 : decode cX9_pressOnce 106 = .ok (.iconst 0, 1) := by decide +kernel
theorem dX9_pressOnce_107 : decode cX9_pressOnce 107 = .ok (.istore_n 2, 1) := by decide +kernel
theorem dX9_pressOnce_108 : decode cX9_pressOnce 108 = .ok (.iconst 0, 1) := by decide +kernel
theorem dX9_pressOnce_109 : decode cX9_pressOnce 109 = .ok (.istore_n 3, 1) := by decide +kernel
theorem dX9_pressOnce_110 : decode cX9_pressOnce 110 = .ok (.iload_n 3, 1) := by decide +kernel
theorem dX9_pressOnce_111 : decode cX9_pressOnce 111 = .ok (.bipush 8, 2) := by decide +kernel
theorem dX9_pressOnce_113 : decode cX9_pressOnce 113 = .ok (.if_icmp .ge 44, 3) := by decide +kernel
theorem dX9_pressOnce_116 : decode cX9_pressOnce 116 = .ok (.iload_n 2, 1) := by decide +kernel
theorem dX9_pressOnce_117 : decode cX9_pressOnce 117 = .ok (.aload_n 0, 1) := by decide +kernel
theorem dX9_pressOnce_118 : decode cX9_pressOnce 118 = .ok (.getfield 9, 3) := by decide +kernel
theorem dX9_pressOnce_121 : decode cX9_pressOnce 121 = .ok (.iload_n 3, 1) := by decide +kernel
theorem dX9_pressOnce_122 : decode cX9_pressOnce 122 = .ok (.iaload, 1) := by decide +kernel
theorem dX9_pressOnce_123 : decode cX9_pressOnce 123 = .ok (.aload_n 0, 1) := by decide +kernel
theorem dX9_pressOnce_124 : decode cX9_pressOnce 124 = .ok (.getfield 27, 3) := by decide +kernel
theorem dX9_pressOnce_127 : decode cX9_pressOnce 127 = .ok (.iload_n 3, 1) := by decide +kernel
theorem dX9_pressOnce_128 : decode cX9_pressOnce 128 = .ok (.iaload, 1) := by decide +kernel
theorem dX9_pressOnce_129 : decode cX9_pressOnce 129 = .ok (.if_icmp .eq 7, 3) := by decide +kernel
theorem dX9_pressOnce_132 : decode cX9_pressOnce 132 = .ok (.iconst 1, 1) := by decide +kernel
theorem dX9_pressOnce_133 : decode cX9_pressOnce 133 = .ok (.goto 4, 3) := by decide +kernel
theorem dX9_pressOnce_136 : decode cX9_pressOnce 136 = .ok (.iconst 0, 1) := by decide +kernel
theorem dX9_pressOnce_137 : decode cX9_pressOnce 137 = .ok (.ior, 1) := by decide +kernel
theorem dX9_pressOnce_138 : decode cX9_pressOnce 138 = .ok (.istore_n 2, 1) := by decide +kernel
theorem dX9_pressOnce_139 : decode cX9_pressOnce 139 = .ok (.aload_n 0, 1) := by decide +kernel
theorem dX9_pressOnce_140 : decode cX9_pressOnce 140 = .ok (.getfield 9, 3) := by decide +kernel
theorem dX9_pressOnce_143 : decode cX9_pressOnce 143 = .ok (.iload_n 3, 1) := by decide +kernel
theorem dX9_pressOnce_144 : decode cX9_pressOnce 144 = .ok (.aload_n 0, 1) := by decide +kernel
theorem dX9_pressOnce_145 : decode cX9_pressOnce 145 = .ok (.getfield 27, 3) := by decide +kernel
theorem dX9_pressOnce_148 : decode cX9_pressOnce 148 = .ok (.iload_n 3, 1) := by decide +kernel
theorem dX9_pressOnce_149 : decode cX9_pressOnce 149 = .ok (.iaload, 1) := by decide +kernel
theorem dX9_pressOnce_150 : decode cX9_pressOnce 150 = .ok (.iastore, 1) := by decide +kernel
theorem dX9_pressOnce_151 : decode cX9_pressOnce 151 = .ok (.iinc 3 1, 3) := by decide +kernel
theorem dX9_pressOnce_154 : decode cX9_pressOnce 154 = .ok (.goto (-44), 3) := by decide +kernel
theorem dX9_pressOnce_157 : decode cX9_pressOnce 157 = .ok (.iload_n 2, 1) := by decide +kernel
theorem dX9_pressOnce_158 : decode cX9_pressOnce 158 = .ok (.ireturn, 1) := by decide +kernel
set_option maxRecDepth 100000 in
set_option maxHeartbeats 200000 in
theorem T_X9_pressOnce_60_s {X : CX} (hX : Ok X cX9_pressOnce 6 RX9 (some .boolean)) (hdx : dX X = 2) {r : Bool × Hp} (k1 : Nat) (hk1 : isCity k1) (x2 : Int32) (x3 : Int32) (x4 : Int32) (q_23 : Int32 → Hp → Option (Bool × Hp)) (hq_23 : ∀ (x2 : Int32) (h : Hp), q_23 x2 h = some r → J X ((.inl (some (.int (b2i r.1))), r.2)) 23 [(0, .ref 5), (1, .ref k1), (2, .int x2)] [] h) (q_60 : Int32 → Hp → Option (Bool × Hp)) (hq_60 : ∀ (x5 : Int32) (h : Hp), q_60 x5 h = some r → J X ((.inl (some (.int (b2i r.1))), r.2)) 60 [(0, .ref 5), (1, .ref k1), (2, .int x2), (3, .int x3), (4, .int x4), (5, .int x5)] [] h) (x5 : Int32) (h : Hp) (hf : S_X9_pressOnce_60 q_23 k1 x2 x3 x4 q_60 x5 h = some r) : J X ((.inl (some (.int (b2i r.1))), r.2)) 60 [(0, .ref 5), (1, .ref k1), (2, .int x2), (3, .int x3), (4, .int x4), (5, .int x5)] [] h := by
  unfold S_X9_pressOnce_60 at hf
  refine J_iload hX 5 dX9_pressOnce_60 rfl ?_
  refine J_bipush hX 8 dX9_pressOnce_62 rfl ?_
  rcases ifE hf with ⟨c_1, hf⟩ | ⟨c_1, hf⟩
  · refine J_icmp_geF hX 100 dX9_pressOnce_64 rfl c_1 ?_
    refine J_aload_n hX 0 dX9_pressOnce_67 rfl rfl ?_
    refine J_getR hX 11 dX9_pressOnce_68 fl_X9_27 ob_5 rfl rfl ?_
    refine J_iload hX 5 dX9_pressOnce_71 rfl ?_
    refine J_dup2 hX dX9_pressOnce_73 rfl rfl ?_
    obtain ⟨g_2, hf⟩ := gdE hf
    refine J_ald hX x5.toNatClampNeg dX9_pressOnce_74 ar_11 (Or.inl ⟨rfl, rfl⟩) g_2 rfl ?_
    refine J_iload hX 4 dX9_pressOnce_75 rfl ?_
    refine J_aload_n hX 1 dX9_pressOnce_77 rfl rfl ?_
    refine J_getR hX (k1 + 5) dX9_pressOnce_78 fl_X9_89 (city_ob hk1) rfl rfl ?_
    refine J_iload_n hX 2 dX9_pressOnce_81 rfl rfl ?_
    refine J_bipush hX 8 dX9_pressOnce_82 rfl ?_
    refine J_imul hX dX9_pressOnce_84 ?_
    refine J_iload hX 5 dX9_pressOnce_85 rfl ?_
    refine J_iadd hX dX9_pressOnce_87 ?_
    obtain ⟨g_3, hf⟩ := gdE hf
    refine J_ald hX (((x2 * 8) + x5).toNatClampNeg) dX9_pressOnce_88 (city_ar 5 64 (by decide) hk1) (Or.inl ⟨rfl, rfl⟩) g_3 rfl ?_
    refine J_imul hX dX9_pressOnce_89 ?_
    refine J_iload_n hX 3 dX9_pressOnce_90 rfl rfl ?_
    obtain ⟨g_4, hf⟩ := gdE hf
    refine J_idiv hX g_4 dX9_pressOnce_91 ?_
    refine J_iadd hX dX9_pressOnce_92 ?_
    obtain ⟨g_5, hf⟩ := gdE hf
    obtain ⟨h_6, e_7, hf⟩ := bndE hf
    refine J_ast hX x5.toNatClampNeg ((h 11 x5.toNatClampNeg) + ((x4 * (h (k1 + 5) (((x2 * 8) + x5).toNatClampNeg))) / x3)) dX9_pressOnce_93 ar_11 (Or.inl ⟨rfl, rfl, rfl⟩) g_5 rfl ?_
    refine J_nmh e_7 ?_
    refine J_iinc hX (x5 + 1) 5 [(5, .int (x5 + 1)), (0, .ref 5), (1, .ref k1), (2, .int x2), (3, .int x3), (4, .int x4)] dX9_pressOnce_94 rfl rfl rfl rfl ?_
    refine J_goto hX 60 dX9_pressOnce_97 rfl ?_
    refine J_sub [1, 2, 3, 4, 5, 0] [(0, .ref 5), (1, .ref k1), (2, .int x2), (3, .int x3), (4, .int x4), (5, .int (x5 + 1))] rfl ?_
    exact hq_60 (x5 + 1) h_6 hf
  · refine J_icmp_geT hX 100 dX9_pressOnce_64 rfl c_1 ?_
    refine J_iinc hX (x2 + 1) 2 [(2, .int (x2 + 1)), (0, .ref 5), (1, .ref k1), (3, .int x3), (4, .int x4), (5, .int x5)] dX9_pressOnce_100 rfl rfl rfl rfl ?_
    refine J_goto hX 23 dX9_pressOnce_103 rfl ?_
    refine J_sub [1, 2, 0] [(0, .ref 5), (1, .ref k1), (2, .int (x2 + 1))] rfl ?_
    exact hq_23 (x2 + 1) h hf
set_option maxRecDepth 100000 in
set_option maxHeartbeats 200000 in
theorem T_X9_pressOnce_60 {X : CX} (hX : Ok X cX9_pressOnce 6 RX9 (some .boolean)) (hdx : dX X = 2) {r : Bool × Hp} (k1 : Nat) (hk1 : isCity k1) (x2 : Int32) (x3 : Int32) (x4 : Int32) (q_23 : Int32 → Hp → Option (Bool × Hp)) (hq_23 : ∀ (x2 : Int32) (h : Hp), q_23 x2 h = some r → J X ((.inl (some (.int (b2i r.1))), r.2)) 23 [(0, .ref 5), (1, .ref k1), (2, .int x2)] [] h) : ∀ (n : Nat) (x5 : Int32) (h : Hp), F_X9_pressOnce_60 q_23 k1 x2 x3 x4 n x5 h = some r → J X ((.inl (some (.int (b2i r.1))), r.2)) 60 [(0, .ref 5), (1, .ref k1), (2, .int x2), (3, .int x3), (4, .int x4), (5, .int x5)] [] h := by
  intro n
  induction n with
  | zero => intro x5 h hf; exact nomatch hf
  | succ n ih => intro x5 h hf; exact T_X9_pressOnce_60_s hX hdx k1 hk1 x2 x3 x4 q_23 hq_23 _ (fun x5 h hf => ih x5 h hf) x5 h hf
set_option maxRecDepth 100000 in
set_option maxHeartbeats 200000 in
theorem T_X9_pressOnce_137 {X : CX} (hX : Ok X cX9_pressOnce 6 RX9 (some .boolean)) (hdx : dX X = 2) {r : Bool × Hp} (x3 : Int32) (t0 : Int32) (t1 : Int32) (q_110 : Int32 → Int32 → Hp → Option (Bool × Hp)) (hq_110 : ∀ (x2 : Int32) (x3 : Int32) (h : Hp), q_110 x2 x3 h = some r → J X ((.inl (some (.int (b2i r.1))), r.2)) 110 [(0, .ref 5), (2, .int x2), (3, .int x3)] [] h) (h : Hp) (hf : F_X9_pressOnce_137 q_110 x3 t0 t1 h = some r) : J X ((.inl (some (.int (b2i r.1))), r.2)) 137 [(0, .ref 5), (3, .int x3)] [.int t0, .int t1] h := by
  unfold F_X9_pressOnce_137 at hf
  refine J_ior hX dX9_pressOnce_137 ?_
  obtain ⟨x2_1, e_2, hf⟩ := bndE hf
  refine J_nm e_2 ?_
  refine J_istore_n hX [(2, .int x2_1), (0, .ref 5), (3, .int x3)] dX9_pressOnce_138 rfl rfl rfl ?_
  refine J_aload_n hX 1 dX9_pressOnce_139 rfl rfl ?_
  refine J_getR hX 6 dX9_pressOnce_140 fl_X9_9 ob_5 rfl rfl ?_
  refine J_iload_n hX 2 dX9_pressOnce_143 rfl rfl ?_
  refine J_aload_n hX 1 dX9_pressOnce_144 rfl rfl ?_
  refine J_getR hX 11 dX9_pressOnce_145 fl_X9_27 ob_5 rfl rfl ?_
  refine J_iload_n hX 2 dX9_pressOnce_148 rfl rfl ?_
  obtain ⟨g_3, hf⟩ := gdE hf
  refine J_ald hX x3.toNatClampNeg dX9_pressOnce_149 ar_11 (Or.inl ⟨rfl, rfl⟩) g_3 rfl ?_
  obtain ⟨g_4, hf⟩ := gdE hf
  obtain ⟨h_5, e_6, hf⟩ := bndE hf
  refine J_ast hX x3.toNatClampNeg (h 11 x3.toNatClampNeg) dX9_pressOnce_150 ar_6 (Or.inl ⟨rfl, rfl, rfl⟩) g_4 rfl ?_
  refine J_nmh e_6 ?_
  refine J_iinc hX (x3 + 1) 2 [(3, .int (x3 + 1)), (2, .int x2_1), (0, .ref 5)] dX9_pressOnce_151 rfl rfl rfl rfl ?_
  refine J_goto hX 110 dX9_pressOnce_154 rfl ?_
  refine J_sub [2, 1, 0] [(0, .ref 5), (2, .int x2_1), (3, .int (x3 + 1))] rfl ?_
  exact hq_110 x2_1 (x3 + 1) h_5 hf
set_option maxRecDepth 100000 in
set_option maxHeartbeats 200000 in
theorem T_X9_pressOnce_110_s {X : CX} (hX : Ok X cX9_pressOnce 6 RX9 (some .boolean)) (hdx : dX X = 2) {r : Bool × Hp} (q_110 : Int32 → Int32 → Hp → Option (Bool × Hp)) (hq_110 : ∀ (x2 : Int32) (x3 : Int32) (h : Hp), q_110 x2 x3 h = some r → J X ((.inl (some (.int (b2i r.1))), r.2)) 110 [(0, .ref 5), (2, .int x2), (3, .int x3)] [] h) (x2 : Int32) (x3 : Int32) (h : Hp) (hf : S_X9_pressOnce_110 q_110 x2 x3 h = some r) : J X ((.inl (some (.int (b2i r.1))), r.2)) 110 [(0, .ref 5), (2, .int x2), (3, .int x3)] [] h := by
  unfold S_X9_pressOnce_110 at hf
  refine J_iload_n hX 2 dX9_pressOnce_110 rfl rfl ?_
  refine J_bipush hX 8 dX9_pressOnce_111 rfl ?_
  rcases ifE hf with ⟨c_1, hf⟩ | ⟨c_1, hf⟩
  · refine J_icmp_geF hX 157 dX9_pressOnce_113 rfl c_1 ?_
    refine J_iload_n hX 1 dX9_pressOnce_116 rfl rfl ?_
    refine J_aload_n hX 0 dX9_pressOnce_117 rfl rfl ?_
    refine J_getR hX 6 dX9_pressOnce_118 fl_X9_9 ob_5 rfl rfl ?_
    refine J_iload_n hX 2 dX9_pressOnce_121 rfl rfl ?_
    obtain ⟨g_2, hf⟩ := gdE hf
    refine J_ald hX x3.toNatClampNeg dX9_pressOnce_122 ar_6 (Or.inl ⟨rfl, rfl⟩) g_2 rfl ?_
    refine J_aload_n hX 0 dX9_pressOnce_123 rfl rfl ?_
    refine J_getR hX 11 dX9_pressOnce_124 fl_X9_27 ob_5 rfl rfl ?_
    refine J_iload_n hX 2 dX9_pressOnce_127 rfl rfl ?_
    obtain ⟨g_3, hf⟩ := gdE hf
    refine J_ald hX x3.toNatClampNeg dX9_pressOnce_128 ar_11 (Or.inl ⟨rfl, rfl⟩) g_3 rfl ?_
    rcases ifE hf with ⟨c_4, hf⟩ | ⟨c_4, hf⟩
    · refine J_icmp_eqT hX 136 dX9_pressOnce_129 rfl c_4 ?_
      refine J_iconst hX 0 dX9_pressOnce_136 rfl ?_
      refine J_sub [0, 2] [(0, .ref 5), (3, .int x3)] rfl ?_
      exact T_X9_pressOnce_137 hX hdx x3 0 x2 q_110 hq_110 h hf
    · refine J_icmp_eqF hX 136 dX9_pressOnce_129 rfl c_4 ?_
      refine J_iconst hX 1 dX9_pressOnce_132 rfl ?_
      refine J_goto hX 137 dX9_pressOnce_133 rfl ?_
      refine J_sub [0, 2] [(0, .ref 5), (3, .int x3)] rfl ?_
      exact T_X9_pressOnce_137 hX hdx x3 1 x2 q_110 hq_110 h hf
  · refine J_icmp_geT hX 157 dX9_pressOnce_113 rfl c_1 ?_
    refine J_iload_n hX 1 dX9_pressOnce_157 rfl rfl ?_
    obtain ⟨b_5, e_6, hf⟩ := bdE hf
    exact E_Zi hX dX9_pressOnce_158 (toBE e_6) hf
set_option maxRecDepth 100000 in
set_option maxHeartbeats 200000 in
theorem T_X9_pressOnce_110 {X : CX} (hX : Ok X cX9_pressOnce 6 RX9 (some .boolean)) (hdx : dX X = 2) {r : Bool × Hp} : ∀ (n : Nat) (x2 : Int32) (x3 : Int32) (h : Hp), F_X9_pressOnce_110 n x2 x3 h = some r → J X ((.inl (some (.int (b2i r.1))), r.2)) 110 [(0, .ref 5), (2, .int x2), (3, .int x3)] [] h := by
  intro n
  induction n with
  | zero => intro x2 x3 h hf; exact nomatch hf
  | succ n ih => intro x2 x3 h hf; exact T_X9_pressOnce_110_s hX hdx _ (fun x2 x3 h hf => ih x2 x3 h hf) x2 x3 h hf
set_option maxRecDepth 100000 in
set_option maxHeartbeats 200000 in
theorem T_X9_pressOnce_23_s {X : CX} (hX : Ok X cX9_pressOnce 6 RX9 (some .boolean)) (hdx : dX X = 2) {r : Bool × Hp} (k1 : Nat) (hk1 : isCity k1) (q_23 : Int32 → Hp → Option (Bool × Hp)) (hq_23 : ∀ (x2 : Int32) (h : Hp), q_23 x2 h = some r → J X ((.inl (some (.int (b2i r.1))), r.2)) 23 [(0, .ref 5), (1, .ref k1), (2, .int x2)] [] h) (x2 : Int32) (h : Hp) (hf : S_X9_pressOnce_23 k1 q_23 x2 h = some r) : J X ((.inl (some (.int (b2i r.1))), r.2)) 23 [(0, .ref 5), (1, .ref k1), (2, .int x2)] [] h := by
  unfold S_X9_pressOnce_23 at hf
  refine J_iload_n hX 2 dX9_pressOnce_23 rfl rfl ?_
  refine J_bipush hX 8 dX9_pressOnce_24 rfl ?_
  rcases ifE hf with ⟨c_1, hf⟩ | ⟨c_1, hf⟩
  · refine J_icmp_geF hX 106 dX9_pressOnce_26 rfl c_1 ?_
    refine J_aload_n hX 0 dX9_pressOnce_29 rfl rfl ?_
    refine J_getR hX 12 dX9_pressOnce_30 fl_X9_30 ob_5 rfl rfl ?_
    refine J_iload_n hX 2 dX9_pressOnce_33 rfl rfl ?_
    obtain ⟨g_2, hf⟩ := gdE hf
    refine J_ald hX x2.toNatClampNeg dX9_pressOnce_34 ar_12 (Or.inl ⟨rfl, rfl⟩) g_2 rfl ?_
    obtain ⟨x3_3, e_4, hf⟩ := bndE hf
    refine J_nm e_4 ?_
    refine J_istore_n hX [(3, .int x3_3), (0, .ref 5), (1, .ref k1), (2, .int x2)] dX9_pressOnce_35 rfl rfl rfl ?_
    refine J_iload_n hX 0 dX9_pressOnce_36 rfl rfl ?_
    rcases ifE hf with ⟨c_5, hf⟩ | ⟨c_5, hf⟩
    · refine J_if_leF hX 100 dX9_pressOnce_37 rfl c_5 ?_
      refine J_aload_n hX 2 dX9_pressOnce_40 rfl rfl ?_
      refine J_getR hX (k1 + 1) dX9_pressOnce_41 fl_X9_57 (city_ob hk1) rfl rfl ?_
      refine J_iload_n hX 3 dX9_pressOnce_44 rfl rfl ?_
      obtain ⟨g_6, hf⟩ := gdE hf
      refine J_ald hX x2.toNatClampNeg dX9_pressOnce_45 (city_ar 1 8 (by decide) hk1) (Or.inl ⟨rfl, rfl⟩) g_6 rfl ?_
      refine J_aload_n hX 1 dX9_pressOnce_46 rfl rfl ?_
      refine J_getR hX 6 dX9_pressOnce_47 fl_X9_9 ob_5 rfl rfl ?_
      refine J_iload_n hX 3 dX9_pressOnce_50 rfl rfl ?_
      obtain ⟨g_7, hf⟩ := gdE hf
      refine J_ald hX x2.toNatClampNeg dX9_pressOnce_51 ar_6 (Or.inl ⟨rfl, rfl⟩) g_7 rfl ?_
      refine J_iadd hX dX9_pressOnce_52 ?_
      refine J_iconst hX 2 dX9_pressOnce_53 rfl ?_
      refine J_idiv hX (by decide) dX9_pressOnce_54 ?_
      obtain ⟨x4_8, e_9, hf⟩ := bndE hf
      refine J_nm e_9 ?_
      refine J_istore hX [(4, .int x4_8), (3, .int x3_3), (0, .ref 5), (1, .ref k1), (2, .int x2)] dX9_pressOnce_55 rfl rfl ?_
      refine J_iconst hX 0 dX9_pressOnce_57 rfl ?_
      refine J_istore hX [(5, .int 0), (4, .int x4_8), (3, .int x3_3), (0, .ref 5), (1, .ref k1), (2, .int x2)] dX9_pressOnce_58 rfl rfl ?_
      refine J_sub [3, 4, 5, 2, 1, 0] [(0, .ref 5), (1, .ref k1), (2, .int x2), (3, .int x3_3), (4, .int x4_8), (5, .int 0)] rfl ?_
      exact T_X9_pressOnce_60 hX hdx k1 hk1 x2 x3_3 x4_8 q_23 hq_23 FU 0 h hf
    · refine J_if_leT hX 100 dX9_pressOnce_37 rfl c_5 ?_
      refine J_iinc hX (x2 + 1) 3 [(2, .int (x2 + 1)), (3, .int x3_3), (0, .ref 5), (1, .ref k1)] dX9_pressOnce_100 rfl rfl rfl rfl ?_
      refine J_goto hX 23 dX9_pressOnce_103 rfl ?_
      refine J_sub [2, 3, 0] [(0, .ref 5), (1, .ref k1), (2, .int (x2 + 1))] rfl ?_
      exact hq_23 (x2 + 1) h hf
  · refine J_icmp_geT hX 106 dX9_pressOnce_26 rfl c_1 ?_
    refine J_iconst hX 0 dX9_pressOnce_106 rfl ?_
    refine J_istore_n hX [(2, .int 0), (0, .ref 5), (1, .ref k1)] dX9_pressOnce_107 rfl rfl rfl ?_
    refine J_iconst hX 0 dX9_pressOnce_108 rfl ?_
    refine J_istore_n hX [(3, .int 0), (2, .int 0), (0, .ref 5), (1, .ref k1)] dX9_pressOnce_109 rfl rfl rfl ?_
    refine J_sub [2, 1, 0] [(0, .ref 5), (2, .int 0), (3, .int 0)] rfl ?_
    exact T_X9_pressOnce_110 hX hdx FU 0 0 h hf
set_option maxRecDepth 100000 in
set_option maxHeartbeats 200000 in
theorem T_X9_pressOnce_23 {X : CX} (hX : Ok X cX9_pressOnce 6 RX9 (some .boolean)) (hdx : dX X = 2) {r : Bool × Hp} (k1 : Nat) (hk1 : isCity k1) : ∀ (n : Nat) (x2 : Int32) (h : Hp), F_X9_pressOnce_23 k1 n x2 h = some r → J X ((.inl (some (.int (b2i r.1))), r.2)) 23 [(0, .ref 5), (1, .ref k1), (2, .int x2)] [] h := by
  intro n
  induction n with
  | zero => intro x2 h hf; exact nomatch hf
  | succ n ih => intro x2 h hf; exact T_X9_pressOnce_23_s hX hdx k1 hk1 _ (fun x2 h hf => ih x2 h hf) x2 h hf
set_option maxRecDepth 100000 in
set_option maxHeartbeats 200000 in
theorem T_X9_pressOnce_2_s {X : CX} (hX : Ok X cX9_pressOnce 6 RX9 (some .boolean)) (hdx : dX X = 2) {r : Bool × Hp} (k1 : Nat) (hk1 : isCity k1) (q_2 : Int32 → Hp → Option (Bool × Hp)) (hq_2 : ∀ (x2 : Int32) (h : Hp), q_2 x2 h = some r → J X ((.inl (some (.int (b2i r.1))), r.2)) 2 [(0, .ref 5), (1, .ref k1), (2, .int x2)] [] h) (x2 : Int32) (h : Hp) (hf : S_X9_pressOnce_2 k1 q_2 x2 h = some r) : J X ((.inl (some (.int (b2i r.1))), r.2)) 2 [(0, .ref 5), (1, .ref k1), (2, .int x2)] [] h := by
  unfold S_X9_pressOnce_2 at hf
  refine J_iload_n hX 2 dX9_pressOnce_2 rfl rfl ?_
  refine J_bipush hX 8 dX9_pressOnce_3 rfl ?_
  rcases ifE hf with ⟨c_1, hf⟩ | ⟨c_1, hf⟩
  · refine J_icmp_geF hX 21 dX9_pressOnce_5 rfl c_1 ?_
    refine J_aload_n hX 0 dX9_pressOnce_8 rfl rfl ?_
    refine J_getR hX 11 dX9_pressOnce_9 fl_X9_27 ob_5 rfl rfl ?_
    refine J_iload_n hX 2 dX9_pressOnce_12 rfl rfl ?_
    refine J_iconst hX 0 dX9_pressOnce_13 rfl ?_
    obtain ⟨g_2, hf⟩ := gdE hf
    obtain ⟨h_3, e_4, hf⟩ := bndE hf
    refine J_ast hX x2.toNatClampNeg 0 dX9_pressOnce_14 ar_11 (Or.inl ⟨rfl, rfl, rfl⟩) g_2 rfl ?_
    refine J_nmh e_4 ?_
    refine J_iinc hX (x2 + 1) 2 [(2, .int (x2 + 1)), (0, .ref 5), (1, .ref k1)] dX9_pressOnce_15 rfl rfl rfl rfl ?_
    refine J_goto hX 2 dX9_pressOnce_18 rfl ?_
    refine J_sub [1, 2, 0] [(0, .ref 5), (1, .ref k1), (2, .int (x2 + 1))] rfl ?_
    exact hq_2 (x2 + 1) h_3 hf
  · refine J_icmp_geT hX 21 dX9_pressOnce_5 rfl c_1 ?_
    refine J_iconst hX 0 dX9_pressOnce_21 rfl ?_
    refine J_istore_n hX [(2, .int 0), (0, .ref 5), (1, .ref k1)] dX9_pressOnce_22 rfl rfl rfl ?_
    refine J_sub [1, 2, 0] [(0, .ref 5), (1, .ref k1), (2, .int 0)] rfl ?_
    exact T_X9_pressOnce_23 hX hdx k1 hk1 FU 0 h hf
set_option maxRecDepth 100000 in
set_option maxHeartbeats 200000 in
theorem T_X9_pressOnce_2 {X : CX} (hX : Ok X cX9_pressOnce 6 RX9 (some .boolean)) (hdx : dX X = 2) {r : Bool × Hp} (k1 : Nat) (hk1 : isCity k1) : ∀ (n : Nat) (x2 : Int32) (h : Hp), F_X9_pressOnce_2 k1 n x2 h = some r → J X ((.inl (some (.int (b2i r.1))), r.2)) 2 [(0, .ref 5), (1, .ref k1), (2, .int x2)] [] h := by
  intro n
  induction n with
  | zero => intro x2 h hf; exact nomatch hf
  | succ n ih => intro x2 h hf; exact T_X9_pressOnce_2_s hX hdx k1 hk1 _ (fun x2 h hf => ih x2 h hf) x2 h hf
set_option maxRecDepth 100000 in
set_option maxHeartbeats 200000 in
theorem T_X9_pressOnce_0 {X : CX} (hX : Ok X cX9_pressOnce 6 RX9 (some .boolean)) (hdx : dX X = 2) {r : Bool × Hp} (k1 : Nat) (hk1 : isCity k1) (h : Hp) (hf : f_X9_pressOnce k1 h = some r) : J X ((.inl (some (.int (b2i r.1))), r.2)) 0 [(0, .ref 5), (1, .ref k1)] [] h := by
  unfold f_X9_pressOnce at hf
  refine J_iconst hX 0 dX9_pressOnce_0 rfl ?_
  refine J_istore_n hX [(2, .int 0), (0, .ref 5), (1, .ref k1)] dX9_pressOnce_1 rfl rfl rfl ?_
  refine J_sub [1, 2, 0] [(0, .ref 5), (1, .ref k1), (2, .int 0)] rfl ?_
  exact T_X9_pressOnce_2 hX hdx k1 hk1 FU 0 h hf
set_option maxRecDepth 100000 in
set_option maxHeartbeats 200000 in
theorem C_X9_pressOnce {G : GX} (hG : GOk G) {k1 : Nat} {h : Hp} {r : Bool × Hp} (hk1 : isCity k1) (hf : f_X9_pressOnce k1 h = some r) : Ctr G 2 yX9_pressOnce cX9_pressOnce 6 (some .boolean) [.ref 5, .ref k1] h ((.inl (some (.int (b2i r.1))), r.2)) :=
  Ctr_of hG RX9 rfl (by decide) rfl (fun X _ hdx hX => T_X9_pressOnce_0 hX hdx k1 hk1 h hf)
theorem dX9_measurePress_0 : decode cX9_measurePress 0 = .ok (.aload_n 0, 1) := by decide +kernel
theorem dX9_measurePress_1 : decode cX9_measurePress 1 = .ok (.aload_n 1, 1) := by decide +kernel
theorem dX9_measurePress_2 : decode cX9_measurePress 2 = .ok (.invokevirtual 78, 3) := by decide +kernel
theorem dX9_measurePress_5 : decode cX9_measurePress 5 = .ok (.iconst 0, 1) := by decide +kernel
theorem dX9_measurePress_6 : decode cX9_measurePress 6 = .ok (.istore_n 2, 1) := by decide +kernel
theorem dX9_measurePress_7 : decode cX9_measurePress 7 = .ok (.iload_n 2, 1) := by decide +kernel
theorem dX9_measurePress_8 : decode cX9_measurePress 8 = .ok (.bipush 8, 2) := by decide +kernel
theorem dX9_measurePress_10 : decode cX9_measurePress 10 = .ok (.if_icmp .ge 16, 3) := by decide +kernel
theorem dX9_measurePress_13 : decode cX9_measurePress 13 = .ok (.aload_n 0, 1) := by decide +kernel
theorem dX9_measurePress_14 : decode cX9_measurePress 14 = .ok (.getfield 9, 3) := by decide +kernel
theorem dX9_measurePress_17 : decode cX9_measurePress 17 = .ok (.iload_n 2, 1) := by decide +kernel
theorem dX9_measurePress_18 : decode cX9_measurePress 18 = .ok (.iconst 0, 1) := by decide +kernel
theorem dX9_measurePress_19 : decode cX9_measurePress 19 = .ok (.iastore, 1) := by decide +kernel
theorem dX9_measurePress_20 : decode cX9_measurePress 20 = .ok (.iinc 2 1, 3) := by decide +kernel
theorem dX9_measurePress_23 : decode cX9_measurePress 23 = .ok (.goto (-16), 3) := by decide +kernel
theorem dX9_measurePress_26 : decode cX9_measurePress 26 = .ok (.iconst 1, 1) := by decide +kernel
theorem dX9_measurePress_27 : decode cX9_measurePress 27 = .ok (.istore_n 2, 1) := by decide +kernel
theorem dX9_measurePress_28 : decode cX9_measurePress 28 = .ok (.iconst 0, 1) := by decide +kernel
theorem dX9_measurePress_29 : decode cX9_measurePress 29 = .ok (.istore_n 3, 1) := by decide +kernel
theorem dX9_measurePress_30 : decode cX9_measurePress 30 = .ok (.iload_n 2, 1) := by decide +kernel
theorem dX9_measurePress_31 : decode cX9_measurePress 31 = .ok (.ifCond .eq 21, 3) := by decide +kernel
theorem dX9_measurePress_34 : decode cX9_measurePress 34 = .ok (.iload_n 3, 1) := by decide +kernel
theorem dX9_measurePress_35 : decode cX9_measurePress 35 = .ok (.bipush 12, 2) := by decide +kernel
theorem dX9_measurePress_37 : decode cX9_measurePress 37 = .ok (.if_icmp .ge 15, 3) := by decide +kernel
theorem dX9_measurePress_40 : decode cX9_measurePress 40 = .ok (.aload_n 0, 1) := by decide +kernel
theorem dX9_measurePress_41 : decode cX9_measurePress 41 = .ok (.aload_n 1, 1) := by decide +kernel
theorem dX9_measurePress_42 : decode cX9_measurePress 42 = .ok (.invokevirtual 81, 3) := by decide +kernel
theorem dX9_measurePress_45 : decode cX9_measurePress 45 = .ok (.istore_n 2, 1) := by decide +kernel
theorem dX9_measurePress_46 : decode cX9_measurePress 46 = .ok (.iinc 3 1, 3) := by decide +kernel
theorem dX9_measurePress_49 : decode cX9_measurePress 49 = .ok (.goto (-19), 3) := by decide +kernel
theorem dX9_measurePress_52 : decode cX9_measurePress 52 = .ok (.return_, 1) := by decide +kernel
set_option maxRecDepth 100000 in
set_option maxHeartbeats 200000 in
theorem T_X9_measurePress_30_s {X : CX} (hX : Ok X cX9_measurePress 4 RX9 none) (hdx : dX X = 3) {r : Hp} (k1 : Nat) (hk1 : isCity k1) (q_30 : Int32 → Int32 → Hp → Option Hp) (hq_30 : ∀ (x2 : Int32) (x3 : Int32) (h : Hp), q_30 x2 x3 h = some r → J X ((.inl none, r)) 30 [(0, .ref 5), (1, .ref k1), (2, .int x2), (3, .int x3)] [] h) (x2 : Int32) (x3 : Int32) (h : Hp) (hf : S_X9_measurePress_30 k1 q_30 x2 x3 h = some r) : J X ((.inl none, r)) 30 [(0, .ref 5), (1, .ref k1), (2, .int x2), (3, .int x3)] [] h := by
  unfold S_X9_measurePress_30 at hf
  refine J_iload_n hX 2 dX9_measurePress_30 rfl rfl ?_
  rcases ifE hf with ⟨c_1, hf⟩ | ⟨c_1, hf⟩
  · refine J_if_eqT hX 52 dX9_measurePress_31 rfl c_1 ?_
    exact E_Vi hX dX9_measurePress_52 hf
  · refine J_if_eqF hX 52 dX9_measurePress_31 rfl c_1 ?_
    refine J_iload_n hX 3 dX9_measurePress_34 rfl rfl ?_
    refine J_bipush hX 12 dX9_measurePress_35 rfl ?_
    rcases ifE hf with ⟨c_2, hf⟩ | ⟨c_2, hf⟩
    · refine J_icmp_geF hX 52 dX9_measurePress_37 rfl c_2 ?_
      refine J_aload_n hX 0 dX9_measurePress_40 rfl rfl ?_
      refine J_aload_n hX 1 dX9_measurePress_41 rfl rfl ?_
      obtain ⟨r_3, e_4, hf⟩ := bdE hf
      refine V_1 hX [.ref k1] dX9_measurePress_42 cw_X9_81 ob_5 rfl (C_X9_pressOnce (okG hX) hk1 e_4) (ltD hdx rfl) rfl rfl rfl rfl ?_
      obtain ⟨x2_5, e_6, hf⟩ := bndE hf
      refine J_nm e_6 ?_
      refine J_istore_n hX [(2, .int x2_5), (0, .ref 5), (1, .ref k1), (3, .int x3)] dX9_measurePress_45 rfl rfl rfl ?_
      refine J_iinc hX (x3 + 1) 3 [(3, .int (x3 + 1)), (2, .int x2_5), (0, .ref 5), (1, .ref k1)] dX9_measurePress_46 rfl rfl rfl rfl ?_
      refine J_goto hX 30 dX9_measurePress_49 rfl ?_
      refine J_sub [2, 3, 1, 0] [(0, .ref 5), (1, .ref k1), (2, .int x2_5), (3, .int (x3 + 1))] rfl ?_
      exact hq_30 x2_5 (x3 + 1) r_3.2 hf
    · refine J_icmp_geT hX 52 dX9_measurePress_37 rfl c_2 ?_
      exact E_Vi hX dX9_measurePress_52 hf
set_option maxRecDepth 100000 in
set_option maxHeartbeats 200000 in
theorem T_X9_measurePress_30 {X : CX} (hX : Ok X cX9_measurePress 4 RX9 none) (hdx : dX X = 3) {r : Hp} (k1 : Nat) (hk1 : isCity k1) : ∀ (n : Nat) (x2 : Int32) (x3 : Int32) (h : Hp), F_X9_measurePress_30 k1 n x2 x3 h = some r → J X ((.inl none, r)) 30 [(0, .ref 5), (1, .ref k1), (2, .int x2), (3, .int x3)] [] h := by
  intro n
  induction n with
  | zero => intro x2 x3 h hf; exact nomatch hf
  | succ n ih => intro x2 x3 h hf; exact T_X9_measurePress_30_s hX hdx k1 hk1 _ (fun x2 x3 h hf => ih x2 x3 h hf) x2 x3 h hf
set_option maxRecDepth 100000 in
set_option maxHeartbeats 200000 in
theorem T_X9_measurePress_7_s {X : CX} (hX : Ok X cX9_measurePress 4 RX9 none) (hdx : dX X = 3) {r : Hp} (k1 : Nat) (hk1 : isCity k1) (q_7 : Int32 → Hp → Option Hp) (hq_7 : ∀ (x2 : Int32) (h : Hp), q_7 x2 h = some r → J X ((.inl none, r)) 7 [(0, .ref 5), (1, .ref k1), (2, .int x2)] [] h) (x2 : Int32) (h : Hp) (hf : S_X9_measurePress_7 k1 q_7 x2 h = some r) : J X ((.inl none, r)) 7 [(0, .ref 5), (1, .ref k1), (2, .int x2)] [] h := by
  unfold S_X9_measurePress_7 at hf
  refine J_iload_n hX 2 dX9_measurePress_7 rfl rfl ?_
  refine J_bipush hX 8 dX9_measurePress_8 rfl ?_
  rcases ifE hf with ⟨c_1, hf⟩ | ⟨c_1, hf⟩
  · refine J_icmp_geF hX 26 dX9_measurePress_10 rfl c_1 ?_
    refine J_aload_n hX 0 dX9_measurePress_13 rfl rfl ?_
    refine J_getR hX 6 dX9_measurePress_14 fl_X9_9 ob_5 rfl rfl ?_
    refine J_iload_n hX 2 dX9_measurePress_17 rfl rfl ?_
    refine J_iconst hX 0 dX9_measurePress_18 rfl ?_
    obtain ⟨g_2, hf⟩ := gdE hf
    obtain ⟨h_3, e_4, hf⟩ := bndE hf
    refine J_ast hX x2.toNatClampNeg 0 dX9_measurePress_19 ar_6 (Or.inl ⟨rfl, rfl, rfl⟩) g_2 rfl ?_
    refine J_nmh e_4 ?_
    refine J_iinc hX (x2 + 1) 2 [(2, .int (x2 + 1)), (0, .ref 5), (1, .ref k1)] dX9_measurePress_20 rfl rfl rfl rfl ?_
    refine J_goto hX 7 dX9_measurePress_23 rfl ?_
    refine J_sub [1, 2, 0] [(0, .ref 5), (1, .ref k1), (2, .int (x2 + 1))] rfl ?_
    exact hq_7 (x2 + 1) h_3 hf
  · refine J_icmp_geT hX 26 dX9_measurePress_10 rfl c_1 ?_
    refine J_iconst hX 1 dX9_measurePress_26 rfl ?_
    refine J_istore_n hX [(2, .int 1), (0, .ref 5), (1, .ref k1)] dX9_measurePress_27 rfl rfl rfl ?_
    refine J_iconst hX 0 dX9_measurePress_28 rfl ?_
    refine J_istore_n hX [(3, .int 0), (2, .int 1), (0, .ref 5), (1, .ref k1)] dX9_measurePress_29 rfl rfl rfl ?_
    refine J_sub [2, 3, 1, 0] [(0, .ref 5), (1, .ref k1), (2, .int 1), (3, .int 0)] rfl ?_
    exact T_X9_measurePress_30 hX hdx k1 hk1 FU 1 0 h hf
set_option maxRecDepth 100000 in
set_option maxHeartbeats 200000 in
theorem T_X9_measurePress_7 {X : CX} (hX : Ok X cX9_measurePress 4 RX9 none) (hdx : dX X = 3) {r : Hp} (k1 : Nat) (hk1 : isCity k1) : ∀ (n : Nat) (x2 : Int32) (h : Hp), F_X9_measurePress_7 k1 n x2 h = some r → J X ((.inl none, r)) 7 [(0, .ref 5), (1, .ref k1), (2, .int x2)] [] h := by
  intro n
  induction n with
  | zero => intro x2 h hf; exact nomatch hf
  | succ n ih => intro x2 h hf; exact T_X9_measurePress_7_s hX hdx k1 hk1 _ (fun x2 h hf => ih x2 h hf) x2 h hf
set_option maxRecDepth 100000 in
set_option maxHeartbeats 200000 in
theorem T_X9_measurePress_0 {X : CX} (hX : Ok X cX9_measurePress 4 RX9 none) (hdx : dX X = 3) {r : Hp} (k1 : Nat) (hk1 : isCity k1) (h : Hp) (hf : f_X9_measurePress k1 h = some r) : J X ((.inl none, r)) 0 [(0, .ref 5), (1, .ref k1)] [] h := by
  unfold f_X9_measurePress at hf
  refine J_aload_n hX 0 dX9_measurePress_0 rfl rfl ?_
  refine J_aload_n hX 1 dX9_measurePress_1 rfl rfl ?_
  obtain ⟨r_1, e_2, hf⟩ := bdE hf
  refine V_0 hX [.ref k1] dX9_measurePress_2 cw_X9_78 ob_5 rfl (C_X9_countParts (okG hX) hk1 e_2) (ltD hdx rfl) rfl rfl rfl rfl ?_
  refine J_iconst hX 0 dX9_measurePress_5 rfl ?_
  refine J_istore_n hX [(2, .int 0), (0, .ref 5), (1, .ref k1)] dX9_measurePress_6 rfl rfl rfl ?_
  refine J_sub [1, 2, 0] [(0, .ref 5), (1, .ref k1), (2, .int 0)] rfl ?_
  exact T_X9_measurePress_7 hX hdx k1 hk1 FU 0 r_1 hf
set_option maxRecDepth 100000 in
set_option maxHeartbeats 200000 in
theorem C_X9_measurePress {G : GX} (hG : GOk G) {k1 : Nat} {h : Hp} {r : Hp} (hk1 : isCity k1) (hf : f_X9_measurePress k1 h = some r) : Ctr G 3 yX9_measurePress cX9_measurePress 4 none [.ref 5, .ref k1] h ((.inl none, r)) :=
  Ctr_of hG RX9 rfl (by decide) rfl (fun X _ hdx hX => T_X9_measurePress_0 hX hdx k1 hk1 h hf)
theorem dX0_keepIfFits_0 : decode cX0_keepIfFits 0 = .ok (.iconst 0, 1) := by decide +kernel
theorem dX0_keepIfFits_1 : decode cX0_keepIfFits 1 = .ok (.istore_n 3, 1) := by decide +kernel
theorem dX0_keepIfFits_2 : decode cX0_keepIfFits 2 = .ok (.iload_n 3, 1) := by decide +kernel
theorem dX0_keepIfFits_3 : decode cX0_keepIfFits 3 = .ok (.iconst 1, 1) := by decide +kernel
theorem dX0_keepIfFits_4 : decode cX0_keepIfFits 4 = .ok (.iadd, 1) := by decide +kernel
theorem dX0_keepIfFits_5 : decode cX0_keepIfFits 5 = .ok (.aload_n 0, 1) := by decide +kernel
theorem dX0_keepIfFits_6 : decode cX0_keepIfFits 6 = .ok (.getfield 21, 3) := by decide +kernel
theorem dX0_keepIfFits_9 : decode cX0_keepIfFits 9 = .ok (.if_icmp .ge 66, 3) := by decide +kernel
theorem dX0_keepIfFits_12 : decode cX0_keepIfFits 12 = .ok (.iload_n 3, 1) := by decide +kernel
theorem dX0_keepIfFits_13 : decode cX0_keepIfFits 13 = .ok (.iconst 1, 1) := by decide +kernel
theorem dX0_keepIfFits_14 : decode cX0_keepIfFits 14 = .ok (.iadd, 1) := by decide +kernel
theorem dX0_keepIfFits_15 : decode cX0_keepIfFits 15 = .ok (.bipush 40, 2) := by decide +kernel
theorem dX0_keepIfFits_17 : decode cX0_keepIfFits 17 = .ok (.if_icmp .ge 58, 3) := by decide +kernel
theorem dX0_keepIfFits_20 : decode cX0_keepIfFits 20 = .ok (.aload_n 0, 1) := by decide +kernel
theorem dX0_keepIfFits_21 : decode cX0_keepIfFits 21 = .ok (.getfield 18, 3) := by decide +kernel
theorem dX0_keepIfFits_24 : decode cX0_keepIfFits 24 = .ok (.iload_n 3, 1) := by decide +kernel
theorem dX0_keepIfFits_25 : decode cX0_keepIfFits 25 = .ok (.iaload, 1) := by decide +kernel
theorem dX0_keepIfFits_26 : decode cX0_keepIfFits 26 = .ok (.istore 4, 2) := by decide +kernel
theorem dX0_keepIfFits_28 : decode cX0_keepIfFits 28 = .ok (.iload 4, 2) := by decide +kernel
theorem dX0_keepIfFits_30 : decode cX0_keepIfFits 30 = .ok (.ifCond .lt 17, 3) := by decide +kernel
theorem dX0_keepIfFits_33 : decode cX0_keepIfFits 33 = .ok (.iload 4, 2) := by decide +kernel
theorem dX0_keepIfFits_35 : decode cX0_keepIfFits 35 = .ok (.aload_n 2, 1) := by decide +kernel
theorem dX0_keepIfFits_36 : decode cX0_keepIfFits 36 = .ok (.arraylength, 1) := by decide +kernel
theorem dX0_keepIfFits_37 : decode cX0_keepIfFits 37 = .ok (.if_icmp .ge 10, 3) := by decide +kernel
theorem dX0_keepIfFits_40 : decode cX0_keepIfFits 40 = .ok (.aload_n 2, 1) := by decide +kernel
theorem dX0_keepIfFits_41 : decode cX0_keepIfFits 41 = .ok (.iload 4, 2) := by decide +kernel
theorem dX0_keepIfFits_43 : decode cX0_keepIfFits 43 = .ok (.iaload, 1) := by decide +kernel
theorem dX0_keepIfFits_44 : decode cX0_keepIfFits 44 = .ok (.goto 4, 3) := by decide +kernel
theorem dX0_keepIfFits_47 : decode cX0_keepIfFits 47 = .ok (.iconst 0, 1) := by decide +kernel
theorem dX0_keepIfFits_48 : decode cX0_keepIfFits 48 = .ok (.istore 5, 2) := by decide +kernel
theorem dX0_keepIfFits_50 : decode cX0_keepIfFits 50 = .ok (.iload 5, 2) := by decide +kernel
theorem dX0_keepIfFits_52 : decode cX0_keepIfFits 52 = .ok (.aload_n 0, 1) := by decide +kernel
theorem dX0_keepIfFits_53 : decode cX0_keepIfFits 53 = .ok (.getfield 18, 3) := by decide +kernel
theorem dX0_keepIfFits_56 : decode cX0_keepIfFits 56 = .ok (.iload_n 3, 1) := by decide +kernel
theorem dX0_keepIfFits_57 : decode cX0_keepIfFits 57 = .ok (.iconst 1, 1) := by decide +kernel
theorem dX0_keepIfFits_58 : decode cX0_keepIfFits 58 = .ok (.iadd, 1) := by decide +kernel
theorem dX0_keepIfFits_59 : decode cX0_keepIfFits 59 = .ok (.iaload, 1) := by decide +kernel
theorem dX0_keepIfFits_60 : decode cX0_keepIfFits 60 = .ok (.isub, 1) := by decide +kernel
theorem dX0_keepIfFits_61 : decode cX0_keepIfFits 61 = .ok (.invokestatic 60, 3) := by decide +kernel
theorem dX0_keepIfFits_64 : decode cX0_keepIfFits 64 = .ok (.iconst 1, 1) := by decide +kernel
theorem dX0_keepIfFits_65 : decode cX0_keepIfFits 65 = .ok (.if_icmp .le 4, 3) := by decide +kernel
theorem dX0_keepIfFits_68 : decode cX0_keepIfFits 68 = .ok (.return_, 1) := by decide +kernel
theorem dX0_keepIfFits_69 : decode cX0_keepIfFits 69 = .ok (.iinc 3 2, 3) := by decide +kernel
theorem dX0_keepIfFits_72 : decode cX0_keepIfFits 72 = .ok (.goto (-70), 3) := by decide +kernel
theorem dX0_keepIfFits_75 : decode cX0_keepIfFits 75 = .ok (.aload_n 0, 1) := by decide +kernel
theorem dX0_keepIfFits_76 : decode cX0_keepIfFits 76 = .ok (.getfield 31, 3) := by decide +kernel
theorem dX0_keepIfFits_79 : decode cX0_keepIfFits 79 = .ok (.ifCond .lt 12, 3) := by decide +kernel
theorem dX0_keepIfFits_82 : decode cX0_keepIfFits 82 = .ok (.aload_n 0, 1) := by decide +kernel
theorem dX0_keepIfFits_83 : decode cX0_keepIfFits 83 = .ok (.getfield 31, 3) := by decide +kernel
theorem dX0_keepIfFits_86 : decode cX0_keepIfFits 86 = .ok (.bipush 64, 2) := by decide +kernel
theorem dX0_keepIfFits_88 : decode cX0_keepIfFits 88 = .ok (.if_icmp .le 4, 3) := by decide +kernel
theorem dX0_keepIfFits_91 : decode cX0_keepIfFits 91 = .ok (.return_, 1) := by decide +kernel
theorem dX0_keepIfFits_92 : decode cX0_keepIfFits 92 = .ok (.aload_n 0, 1) := by decide +kernel
theorem dX0_keepIfFits_93 : decode cX0_keepIfFits 93 = .ok (.getfield 11, 3) := by decide +kernel
theorem dX0_keepIfFits_96 : decode cX0_keepIfFits 96 = .ok (.aload_n 0, 1) := by decide +kernel
theorem dX0_keepIfFits_97 : decode cX0_keepIfFits 97 = .ok (.getfield 31, 3) := by decide +kernel
theorem dX0_keepIfFits_100 : decode cX0_keepIfFits 100 = .ok (.iload_n 1, 1) := by decide +kernel
theorem dX0_keepIfFits_101 : decode cX0_keepIfFits 101 = .ok (.iastore, 1) := by decide +kernel
theorem dX0_keepIfFits_102 : decode cX0_keepIfFits 102 = .ok (.iconst 0, 1) := by decide +kernel
theorem dX0_keepIfFits_103 : decode cX0_keepIfFits 103 = .ok (.istore_n 3, 1) := by decide +kernel
theorem dX0_keepIfFits_104 : decode cX0_keepIfFits 104 = .ok (.iload_n 3, 1) := by decide +kernel
theorem dX0_keepIfFits_105 : decode cX0_keepIfFits 105 = .ok (.bipush 8, 2) := by decide +kernel
theorem dX0_keepIfFits_107 : decode cX0_keepIfFits 107 = .ok (.if_icmp .ge 32, 3) := by decide +kernel
theorem dX0_keepIfFits_110 : decode cX0_keepIfFits 110 = .ok (.iload_n 3, 1) := by decide +kernel
theorem dX0_keepIfFits_111 : decode cX0_keepIfFits 111 = .ok (.aload_n 2, 1) := by decide +kernel
theorem dX0_keepIfFits_112 : decode cX0_keepIfFits 112 = .ok (.arraylength, 1) := by decide +kernel
theorem dX0_keepIfFits_113 : decode cX0_keepIfFits 113 = .ok (.if_icmp .ge 26, 3) := by decide +kernel
theorem dX0_keepIfFits_116 : decode cX0_keepIfFits 116 = .ok (.aload_n 0, 1) := by decide +kernel
theorem dX0_keepIfFits_117 : decode cX0_keepIfFits 117 = .ok (.getfield 15, 3) := by decide +kernel
theorem dX0_keepIfFits_120 : decode cX0_keepIfFits 120 = .ok (.aload_n 0, 1) := by decide +kernel
theorem dX0_keepIfFits_121 : decode cX0_keepIfFits 121 = .ok (.getfield 31, 3) := by decide +kernel
theorem dX0_keepIfFits_124 : decode cX0_keepIfFits 124 = .ok (.bipush 8, 2) := by decide +kernel
theorem dX0_keepIfFits_126 : decode cX0_keepIfFits 126 = .ok (.imul, 1) := by decide +kernel
theorem dX0_keepIfFits_127 : decode cX0_keepIfFits 127 = .ok (.iload_n 3, 1) := by decide +kernel
theorem dX0_keepIfFits_128 : decode cX0_keepIfFits 128 = .ok (.iadd, 1) := by decide +kernel
theorem dX0_keepIfFits_129 : decode cX0_keepIfFits 129 = .ok (.aload_n 2, 1) := by decide +kernel
theorem dX0_keepIfFits_130 : decode cX0_keepIfFits 130 = .ok (.iload_n 3, 1) := by decide +kernel
theorem dX0_keepIfFits_131 : decode cX0_keepIfFits 131 = .ok (.iaload, 1) := by decide +kernel
theorem dX0_keepIfFits_132 : decode cX0_keepIfFits 132 = .ok (.iastore, 1) := by decide +kernel
theorem dX0_keepIfFits_133 : decode cX0_keepIfFits 133 = .ok (.iinc 3 1, 3) := by decide +kernel
theorem dX0_keepIfFits_136 : decode cX0_keepIfFits 136 = .ok (.goto (-32), 3) := by decide +kernel
theorem dX0_keepIfFits_139 : decode cX0_keepIfFits 139 = .ok (.aload_n 0, 1) := by decide +kernel
theorem dX0_keepIfFits_140 : decode cX0_keepIfFits 140 = .ok (.dup, 1) := by decide +kernel
theorem dX0_keepIfFits_141 : decode cX0_keepIfFits 141 = .ok (.getfield 31, 3) := by decide +kernel
theorem dX0_keepIfFits_144 : decode cX0_keepIfFits 144 = .ok (.iconst 1, 1) := by decide +kernel
theorem dX0_keepIfFits_145 : decode cX0_keepIfFits 145 = .ok (.iadd, 1) := by decide +kernel
theorem dX0_keepIfFits_146 : decode cX0_keepIfFits 146 = .ok (.putfield 31, 3) := by decide +kernel
theorem dX0_keepIfFits_149 : decode cX0_keepIfFits 149 = .ok (.return_, 1) := by decide +kernel
set_option maxRecDepth 100000 in
set_option maxHeartbeats 200000 in
theorem T_X0_keepIfFits_48 {X : CX} (hX : Ok X cX0_keepIfFits 6 RX0 none) (hdx : dX X = 2) {r : Hp} (x1 : Int32) (x3 : Int32) (t0 : Int32) (q_2 : Int32 → Hp → Option Hp) (hq_2 : ∀ (x3 : Int32) (h : Hp), q_2 x3 h = some r → J X ((.inl none, r)) 2 [(0, .ref 23), (1, .int x1), (2, .ref 6), (3, .int x3)] [] h) (h : Hp) (hf : F_X0_keepIfFits_48 q_2 x1 x3 t0 h = some r) : J X ((.inl none, r)) 48 [(0, .ref 23), (1, .int x1), (2, .ref 6), (3, .int x3)] [.int t0] h := by
  unfold F_X0_keepIfFits_48 at hf
  refine J_istore hX [(5, .int t0), (0, .ref 23), (1, .int x1), (2, .ref 6), (3, .int x3)] dX0_keepIfFits_48 rfl rfl ?_
  refine J_iload hX 0 dX0_keepIfFits_50 rfl ?_
  refine J_aload_n hX 1 dX0_keepIfFits_52 rfl rfl ?_
  refine J_getR hX 26 dX0_keepIfFits_53 fl_X0_18 ob_23 rfl rfl ?_
  refine J_iload_n hX 4 dX0_keepIfFits_56 rfl rfl ?_
  refine J_iconst hX 1 dX0_keepIfFits_57 rfl ?_
  refine J_iadd hX dX0_keepIfFits_58 ?_
  obtain ⟨g_1, hf⟩ := gdE hf
  refine J_ald hX ((x3 + 1).toNatClampNeg) dX0_keepIfFits_59 ar_26 (Or.inl ⟨rfl, rfl⟩) g_1 rfl ?_
  refine J_isub hX dX0_keepIfFits_60 ?_
  refine J_abs hX dX0_keepIfFits_61 mw_X0_60 (ltD hdx rfl) rfl ?_
  refine J_iconst hX 1 dX0_keepIfFits_64 rfl ?_
  rcases ifE hf with ⟨c_2, hf⟩ | ⟨c_2, hf⟩
  · refine J_icmp_leF hX 69 dX0_keepIfFits_65 rfl c_2 ?_
    exact E_Vi hX dX0_keepIfFits_68 hf
  · refine J_icmp_leT hX 69 dX0_keepIfFits_65 rfl c_2 ?_
    refine J_iinc hX (x3 + 2) 4 [(3, .int (x3 + 2)), (5, .int t0), (0, .ref 23), (1, .int x1), (2, .ref 6)] dX0_keepIfFits_69 rfl rfl rfl rfl ?_
    refine J_goto hX 2 dX0_keepIfFits_72 rfl ?_
    refine J_sub [2, 3, 4, 0] [(0, .ref 23), (1, .int x1), (2, .ref 6), (3, .int (x3 + 2))] rfl ?_
    exact hq_2 (x3 + 2) h hf
set_option maxRecDepth 100000 in
set_option maxHeartbeats 200000 in
theorem T_X0_keepIfFits_139 {X : CX} (hX : Ok X cX0_keepIfFits 6 RX0 none) (hdx : dX X = 2) {r : Hp} (h : Hp) (hf : F_X0_keepIfFits_139 h = some r) : J X ((.inl none, r)) 139 [(0, .ref 23)] [] h := by
  unfold F_X0_keepIfFits_139 at hf
  refine J_aload_n hX 0 dX0_keepIfFits_139 rfl rfl ?_
  refine J_dup hX dX0_keepIfFits_140 rfl ?_
  refine J_getI hX dX0_keepIfFits_141 fl_X0_31 ob_23 rfl ?_
  refine J_iconst hX 1 dX0_keepIfFits_144 rfl ?_
  refine J_iadd hX dX0_keepIfFits_145 ?_
  obtain ⟨h_1, e_2, hf⟩ := bndE hf
  refine J_putI hX dX0_keepIfFits_146 fl_X0_31 fw_0_1 ob_23 rfl rfl rfl ?_
  refine J_nmh e_2 ?_
  exact E_Vi hX dX0_keepIfFits_149 hf
set_option maxRecDepth 100000 in
set_option maxHeartbeats 200000 in
theorem T_X0_keepIfFits_104_s {X : CX} (hX : Ok X cX0_keepIfFits 6 RX0 none) (hdx : dX X = 2) {r : Hp} (q_104 : Int32 → Hp → Option Hp) (hq_104 : ∀ (x3 : Int32) (h : Hp), q_104 x3 h = some r → J X ((.inl none, r)) 104 [(0, .ref 23), (2, .ref 6), (3, .int x3)] [] h) (x3 : Int32) (h : Hp) (hf : S_X0_keepIfFits_104 q_104 x3 h = some r) : J X ((.inl none, r)) 104 [(0, .ref 23), (2, .ref 6), (3, .int x3)] [] h := by
  unfold S_X0_keepIfFits_104 at hf
  refine J_iload_n hX 2 dX0_keepIfFits_104 rfl rfl ?_
  refine J_bipush hX 8 dX0_keepIfFits_105 rfl ?_
  rcases ifE hf with ⟨c_1, hf⟩ | ⟨c_1, hf⟩
  · refine J_icmp_geF hX 139 dX0_keepIfFits_107 rfl c_1 ?_
    refine J_iload_n hX 2 dX0_keepIfFits_110 rfl rfl ?_
    refine J_aload_n hX 1 dX0_keepIfFits_111 rfl rfl ?_
    refine J_alen hX 8 dX0_keepIfFits_112 ar_6 (by decide) rfl ?_
    rcases ifE hf with ⟨c_2, hf⟩ | ⟨c_2, hf⟩
    · refine J_icmp_geF hX 139 dX0_keepIfFits_113 rfl c_2 ?_
      refine J_aload_n hX 0 dX0_keepIfFits_116 rfl rfl ?_
      refine J_getR hX 25 dX0_keepIfFits_117 fl_X0_15 ob_23 rfl rfl ?_
      refine J_aload_n hX 0 dX0_keepIfFits_120 rfl rfl ?_
      refine J_getI hX dX0_keepIfFits_121 fl_X0_31 ob_23 rfl ?_
      refine J_bipush hX 8 dX0_keepIfFits_124 rfl ?_
      refine J_imul hX dX0_keepIfFits_126 ?_
      refine J_iload_n hX 2 dX0_keepIfFits_127 rfl rfl ?_
      refine J_iadd hX dX0_keepIfFits_128 ?_
      refine J_aload_n hX 1 dX0_keepIfFits_129 rfl rfl ?_
      refine J_iload_n hX 2 dX0_keepIfFits_130 rfl rfl ?_
      obtain ⟨g_3, hf⟩ := gdE hf
      refine J_ald hX x3.toNatClampNeg dX0_keepIfFits_131 ar_6 (Or.inl ⟨rfl, rfl⟩) g_3 rfl ?_
      obtain ⟨g_4, hf⟩ := gdE hf
      obtain ⟨h_5, e_6, hf⟩ := bndE hf
      refine J_ast hX ((((h 23 1) * 8) + x3).toNatClampNeg) (h 6 x3.toNatClampNeg) dX0_keepIfFits_132 ar_25 (Or.inl ⟨rfl, rfl, rfl⟩) g_4 rfl ?_
      refine J_nmh e_6 ?_
      refine J_iinc hX (x3 + 1) 2 [(3, .int (x3 + 1)), (0, .ref 23), (2, .ref 6)] dX0_keepIfFits_133 rfl rfl rfl rfl ?_
      refine J_goto hX 104 dX0_keepIfFits_136 rfl ?_
      refine J_sub [1, 2, 0] [(0, .ref 23), (2, .ref 6), (3, .int (x3 + 1))] rfl ?_
      exact hq_104 (x3 + 1) h_5 hf
    · refine J_icmp_geT hX 139 dX0_keepIfFits_113 rfl c_2 ?_
      refine J_sub [0] [(0, .ref 23)] rfl ?_
      exact T_X0_keepIfFits_139 hX hdx h hf
  · refine J_icmp_geT hX 139 dX0_keepIfFits_107 rfl c_1 ?_
    refine J_sub [0] [(0, .ref 23)] rfl ?_
    exact T_X0_keepIfFits_139 hX hdx h hf
set_option maxRecDepth 100000 in
set_option maxHeartbeats 200000 in
theorem T_X0_keepIfFits_104 {X : CX} (hX : Ok X cX0_keepIfFits 6 RX0 none) (hdx : dX X = 2) {r : Hp} : ∀ (n : Nat) (x3 : Int32) (h : Hp), F_X0_keepIfFits_104 n x3 h = some r → J X ((.inl none, r)) 104 [(0, .ref 23), (2, .ref 6), (3, .int x3)] [] h := by
  intro n
  induction n with
  | zero => intro x3 h hf; exact nomatch hf
  | succ n ih => intro x3 h hf; exact T_X0_keepIfFits_104_s hX hdx _ (fun x3 h hf => ih x3 h hf) x3 h hf
set_option maxRecDepth 100000 in
set_option maxHeartbeats 200000 in
theorem T_X0_keepIfFits_75 {X : CX} (hX : Ok X cX0_keepIfFits 6 RX0 none) (hdx : dX X = 2) {r : Hp} (x1 : Int32) (h : Hp) (hf : F_X0_keepIfFits_75 x1 h = some r) : J X ((.inl none, r)) 75 [(0, .ref 23), (1, .int x1), (2, .ref 6)] [] h := by
  unfold F_X0_keepIfFits_75 at hf
  refine J_aload_n hX 0 dX0_keepIfFits_75 rfl rfl ?_
  refine J_getI hX dX0_keepIfFits_76 fl_X0_31 ob_23 rfl ?_
  rcases ifE hf with ⟨c_1, hf⟩ | ⟨c_1, hf⟩
  · refine J_if_ltT hX 91 dX0_keepIfFits_79 rfl c_1 ?_
    exact E_Vi hX dX0_keepIfFits_91 hf
  · refine J_if_ltF hX 91 dX0_keepIfFits_79 rfl c_1 ?_
    refine J_aload_n hX 0 dX0_keepIfFits_82 rfl rfl ?_
    refine J_getI hX dX0_keepIfFits_83 fl_X0_31 ob_23 rfl ?_
    refine J_bipush hX 64 dX0_keepIfFits_86 rfl ?_
    rcases ifE hf with ⟨c_2, hf⟩ | ⟨c_2, hf⟩
    · refine J_icmp_leF hX 92 dX0_keepIfFits_88 rfl c_2 ?_
      exact E_Vi hX dX0_keepIfFits_91 hf
    · refine J_icmp_leT hX 92 dX0_keepIfFits_88 rfl c_2 ?_
      refine J_aload_n hX 0 dX0_keepIfFits_92 rfl rfl ?_
      refine J_getR hX 24 dX0_keepIfFits_93 fl_X0_11 ob_23 rfl rfl ?_
      refine J_aload_n hX 0 dX0_keepIfFits_96 rfl rfl ?_
      refine J_getI hX dX0_keepIfFits_97 fl_X0_31 ob_23 rfl ?_
      refine J_iload_n hX 1 dX0_keepIfFits_100 rfl rfl ?_
      obtain ⟨g_3, hf⟩ := gdE hf
      obtain ⟨h_4, e_5, hf⟩ := bndE hf
      refine J_ast hX ((h 23 1).toNatClampNeg) x1 dX0_keepIfFits_101 ar_24 (Or.inl ⟨rfl, rfl, rfl⟩) g_3 rfl ?_
      refine J_nmh e_5 ?_
      refine J_iconst hX 0 dX0_keepIfFits_102 rfl ?_
      refine J_istore_n hX [(3, .int 0), (0, .ref 23), (1, .int x1), (2, .ref 6)] dX0_keepIfFits_103 rfl rfl rfl ?_
      refine J_sub [1, 3, 0] [(0, .ref 23), (2, .ref 6), (3, .int 0)] rfl ?_
      exact T_X0_keepIfFits_104 hX hdx FU 0 h_4 hf
set_option maxRecDepth 100000 in
set_option maxHeartbeats 200000 in
theorem T_X0_keepIfFits_2_s {X : CX} (hX : Ok X cX0_keepIfFits 6 RX0 none) (hdx : dX X = 2) {r : Hp} (x1 : Int32) (q_2 : Int32 → Hp → Option Hp) (hq_2 : ∀ (x3 : Int32) (h : Hp), q_2 x3 h = some r → J X ((.inl none, r)) 2 [(0, .ref 23), (1, .int x1), (2, .ref 6), (3, .int x3)] [] h) (x3 : Int32) (h : Hp) (hf : S_X0_keepIfFits_2 x1 q_2 x3 h = some r) : J X ((.inl none, r)) 2 [(0, .ref 23), (1, .int x1), (2, .ref 6), (3, .int x3)] [] h := by
  unfold S_X0_keepIfFits_2 at hf
  refine J_iload_n hX 3 dX0_keepIfFits_2 rfl rfl ?_
  refine J_iconst hX 1 dX0_keepIfFits_3 rfl ?_
  refine J_iadd hX dX0_keepIfFits_4 ?_
  refine J_aload_n hX 0 dX0_keepIfFits_5 rfl rfl ?_
  refine J_getI hX dX0_keepIfFits_6 fl_X0_21 ob_23 rfl ?_
  rcases ifE hf with ⟨c_1, hf⟩ | ⟨c_1, hf⟩
  · refine J_icmp_geF hX 75 dX0_keepIfFits_9 rfl c_1 ?_
    refine J_iload_n hX 3 dX0_keepIfFits_12 rfl rfl ?_
    refine J_iconst hX 1 dX0_keepIfFits_13 rfl ?_
    refine J_iadd hX dX0_keepIfFits_14 ?_
    refine J_bipush hX 40 dX0_keepIfFits_15 rfl ?_
    rcases ifE hf with ⟨c_2, hf⟩ | ⟨c_2, hf⟩
    · refine J_icmp_geF hX 75 dX0_keepIfFits_17 rfl c_2 ?_
      refine J_aload_n hX 0 dX0_keepIfFits_20 rfl rfl ?_
      refine J_getR hX 26 dX0_keepIfFits_21 fl_X0_18 ob_23 rfl rfl ?_
      refine J_iload_n hX 3 dX0_keepIfFits_24 rfl rfl ?_
      obtain ⟨g_3, hf⟩ := gdE hf
      refine J_ald hX x3.toNatClampNeg dX0_keepIfFits_25 ar_26 (Or.inl ⟨rfl, rfl⟩) g_3 rfl ?_
      obtain ⟨x4_4, e_5, hf⟩ := bndE hf
      refine J_nm e_5 ?_
      refine J_istore hX [(4, .int x4_4), (0, .ref 23), (1, .int x1), (2, .ref 6), (3, .int x3)] dX0_keepIfFits_26 rfl rfl ?_
      refine J_iload hX 0 dX0_keepIfFits_28 rfl ?_
      rcases ifE hf with ⟨c_6, hf⟩ | ⟨c_6, hf⟩
      · refine J_if_ltT hX 47 dX0_keepIfFits_30 rfl c_6 ?_
        refine J_iconst hX 0 dX0_keepIfFits_47 rfl ?_
        refine J_sub [1, 2, 3, 4] [(0, .ref 23), (1, .int x1), (2, .ref 6), (3, .int x3)] rfl ?_
        exact T_X0_keepIfFits_48 hX hdx x1 x3 0 q_2 hq_2 h hf
      · refine J_if_ltF hX 47 dX0_keepIfFits_30 rfl c_6 ?_
        refine J_iload hX 0 dX0_keepIfFits_33 rfl ?_
        refine J_aload_n hX 3 dX0_keepIfFits_35 rfl rfl ?_
        refine J_alen hX 8 dX0_keepIfFits_36 ar_6 (by decide) rfl ?_
        rcases ifE hf with ⟨c_7, hf⟩ | ⟨c_7, hf⟩
        · refine J_icmp_geF hX 47 dX0_keepIfFits_37 rfl c_7 ?_
          refine J_aload_n hX 3 dX0_keepIfFits_40 rfl rfl ?_
          refine J_iload hX 0 dX0_keepIfFits_41 rfl ?_
          obtain ⟨g_8, hf⟩ := gdE hf
          refine J_ald hX x4_4.toNatClampNeg dX0_keepIfFits_43 ar_6 (Or.inl ⟨rfl, rfl⟩) g_8 rfl ?_
          refine J_goto hX 48 dX0_keepIfFits_44 rfl ?_
          refine J_sub [1, 2, 3, 4] [(0, .ref 23), (1, .int x1), (2, .ref 6), (3, .int x3)] rfl ?_
          exact T_X0_keepIfFits_48 hX hdx x1 x3 (h 6 x4_4.toNatClampNeg) q_2 hq_2 h hf
        · refine J_icmp_geT hX 47 dX0_keepIfFits_37 rfl c_7 ?_
          refine J_iconst hX 0 dX0_keepIfFits_47 rfl ?_
          refine J_sub [1, 2, 3, 4] [(0, .ref 23), (1, .int x1), (2, .ref 6), (3, .int x3)] rfl ?_
          exact T_X0_keepIfFits_48 hX hdx x1 x3 0 q_2 hq_2 h hf
    · refine J_icmp_geT hX 75 dX0_keepIfFits_17 rfl c_2 ?_
      refine J_sub [0, 1, 2] [(0, .ref 23), (1, .int x1), (2, .ref 6)] rfl ?_
      exact T_X0_keepIfFits_75 hX hdx x1 h hf
  · refine J_icmp_geT hX 75 dX0_keepIfFits_9 rfl c_1 ?_
    refine J_sub [0, 1, 2] [(0, .ref 23), (1, .int x1), (2, .ref 6)] rfl ?_
    exact T_X0_keepIfFits_75 hX hdx x1 h hf
set_option maxRecDepth 100000 in
set_option maxHeartbeats 200000 in
theorem T_X0_keepIfFits_2 {X : CX} (hX : Ok X cX0_keepIfFits 6 RX0 none) (hdx : dX X = 2) {r : Hp} (x1 : Int32) : ∀ (n : Nat) (x3 : Int32) (h : Hp), F_X0_keepIfFits_2 x1 n x3 h = some r → J X ((.inl none, r)) 2 [(0, .ref 23), (1, .int x1), (2, .ref 6), (3, .int x3)] [] h := by
  intro n
  induction n with
  | zero => intro x3 h hf; exact nomatch hf
  | succ n ih => intro x3 h hf; exact T_X0_keepIfFits_2_s hX hdx x1 _ (fun x3 h hf => ih x3 h hf) x3 h hf
set_option maxRecDepth 100000 in
set_option maxHeartbeats 200000 in
theorem T_X0_keepIfFits_0 {X : CX} (hX : Ok X cX0_keepIfFits 6 RX0 none) (hdx : dX X = 2) {r : Hp} (x1 : Int32) (h : Hp) (hf : f_X0_keepIfFits x1 h = some r) : J X ((.inl none, r)) 0 [(0, .ref 23), (1, .int x1), (2, .ref 6)] [] h := by
  unfold f_X0_keepIfFits at hf
  refine J_iconst hX 0 dX0_keepIfFits_0 rfl ?_
  refine J_istore_n hX [(3, .int 0), (0, .ref 23), (1, .int x1), (2, .ref 6)] dX0_keepIfFits_1 rfl rfl rfl ?_
  refine J_sub [1, 2, 3, 0] [(0, .ref 23), (1, .int x1), (2, .ref 6), (3, .int 0)] rfl ?_
  exact T_X0_keepIfFits_2 hX hdx x1 FU 0 h hf
set_option maxRecDepth 100000 in
set_option maxHeartbeats 200000 in
theorem C_X0_keepIfFits {G : GX} (hG : GOk G) {x1 : Int32} {h : Hp} {r : Hp} (hf : f_X0_keepIfFits x1 h = some r) : Ctr G 2 yX0_keepIfFits cX0_keepIfFits 6 none [.ref 23, .int x1, .ref 6] h ((.inl none, r)) :=
  Ctr_of hG RX0 rfl (by decide) rfl (fun X _ hdx hX => T_X0_keepIfFits_0 hX hdx x1 h hf)
theorem dX0_collect_0 : decode cX0_collect 0 = .ok (.aload_n 0, 1) := by decide +kernel
theorem dX0_collect_1 : decode cX0_collect 1 = .ok (.iconst 0, 1) := by decide +kernel
theorem dX0_collect_2 : decode cX0_collect 2 = .ok (.putfield 31, 3) := by decide +kernel
theorem dX0_collect_5 : decode cX0_collect 5 = .ok (.iconst 0, 1) := by decide +kernel
theorem dX0_collect_6 : decode cX0_collect 6 = .ok (.istore 4, 2) := by decide +kernel
theorem dX0_collect_8 : decode cX0_collect 8 = .ok (.iload 4, 2) := by decide +kernel
theorem dX0_collect_10 : decode cX0_collect 10 = .ok (.bipush 64, 2) := by decide +kernel
theorem dX0_collect_12 : decode cX0_collect 12 = .ok (.if_icmp .gt 70, 3) := by decide +kernel
theorem dX0_collect_15 : decode cX0_collect 15 = .ok (.iload 4, 2) := by decide +kernel
theorem dX0_collect_17 : decode cX0_collect 17 = .ok (.bipush 8, 2) := by decide +kernel
theorem dX0_collect_19 : decode cX0_collect 19 = .ok (.idiv, 1) := by decide +kernel
theorem dX0_collect_20 : decode cX0_collect 20 = .ok (.istore 5, 2) := by decide +kernel
theorem dX0_collect_22 : decode cX0_collect 22 = .ok (.iload 4, 2) := by decide +kernel
theorem dX0_collect_24 : decode cX0_collect 24 = .ok (.bipush 8, 2) := by decide +kernel
theorem dX0_collect_26 : decode cX0_collect 26 = .ok (.irem, 1) := by decide +kernel
theorem dX0_collect_27 : decode cX0_collect 27 = .ok (.istore 6, 2) := by decide +kernel
theorem dX0_collect_29 : decode cX0_collect 29 = .ok (.iload 4, 2) := by decide +kernel
theorem dX0_collect_31 : decode cX0_collect 31 = .ok (.bipush 64, 2) := by decide +kernel
theorem dX0_collect_33 : decode cX0_collect 33 = .ok (.if_icmp .eq 14, 3) := by decide +kernel
theorem dX0_collect_36 : decode cX0_collect 36 = .ok (.aload_n 1, 1) := by decide +kernel
theorem dX0_collect_37 : decode cX0_collect 37 = .ok (.iload 5, 2) := by decide +kernel
theorem dX0_collect_39 : decode cX0_collect 39 = .ok (.iload 6, 2) := by decide +kernel
theorem dX0_collect_41 : decode cX0_collect 41 = .ok (.invokevirtual 34, 3) := by decide +kernel
theorem dX0_collect_44 : decode cX0_collect 44 = .ok (.ifCond .le 32, 3) := by decide +kernel
theorem dX0_collect_47 : decode cX0_collect 47 = .ok (.aload_n 2, 1) := by decide +kernel
theorem dX0_collect_48 : decode cX0_collect 48 = .ok (.aload_n 1, 1) := by decide +kernel
theorem dX0_collect_49 : decode cX0_collect 49 = .ok (.invokevirtual 40, 3) := by decide +kernel
theorem dX0_collect_52 : decode cX0_collect 52 = .ok (.aload_n 2, 1) := by decide +kernel
theorem dX0_collect_53 : decode cX0_collect 53 = .ok (.iload 5, 2) := by decide +kernel
theorem dX0_collect_55 : decode cX0_collect 55 = .ok (.iload 6, 2) := by decide +kernel
theorem dX0_collect_57 : decode cX0_collect 57 = .ok (.iconst 0, 1) := by decide +kernel
theorem dX0_collect_58 : decode cX0_collect 58 = .ok (.invokevirtual 44, 3) := by decide +kernel
theorem dX0_collect_61 : decode cX0_collect 61 = .ok (.aload_n 3, 1) := by decide +kernel
theorem dX0_collect_62 : decode cX0_collect 62 = .ok (.aload_n 2, 1) := by decide +kernel
theorem dX0_collect_63 : decode cX0_collect 63 = .ok (.invokevirtual 48, 3) := by decide +kernel
theorem dX0_collect_66 : decode cX0_collect 66 = .ok (.aload_n 0, 1) := by decide +kernel
theorem dX0_collect_67 : decode cX0_collect 67 = .ok (.iload 4, 2) := by decide +kernel
theorem dX0_collect_69 : decode cX0_collect 69 = .ok (.aload_n 3, 1) := by decide +kernel
theorem dX0_collect_70 : decode cX0_collect 70 = .ok (.getfield 53, 3) := by decide +kernel
theorem dX0_collect_73 : decode cX0_collect 73 = .ok (.invokevirtual 56, 3) := by decide +kernel
theorem dX0_collect_76 : decode cX0_collect 76 = .ok (.iinc 4 1, 3) := by decide +kernel
theorem dX0_collect_79 : decode cX0_collect 79 = .ok (.goto (-71), 3) := by decide +kernel
theorem dX0_collect_82 : decode cX0_collect 82 = .ok (.return_, 1) := by decide +kernel
set_option maxRecDepth 100000 in
set_option maxHeartbeats 200000 in
theorem T_X0_collect_47 {X : CX} (hX : Ok X cX0_collect 7 RX0 none) (hdx : dX X = 4) {r : Hp} (k1 : Nat) (hk1 : isCity k1) (k2 : Nat) (hk2 : isCity k2) (x4 : Int32) (x5 : Int32) (x6 : Int32) (q_8 : Int32 → Hp → Option Hp) (hq_8 : ∀ (x4 : Int32) (h : Hp), q_8 x4 h = some r → J X ((.inl none, r)) 8 [(0, .ref 23), (1, .ref k1), (2, .ref k2), (3, .ref 5), (4, .int x4)] [] h) (h : Hp) (hf : F_X0_collect_47 q_8 k1 k2 x4 x5 x6 h = some r) : J X ((.inl none, r)) 47 [(0, .ref 23), (1, .ref k1), (2, .ref k2), (3, .ref 5), (4, .int x4), (5, .int x5), (6, .int x6)] [] h := by
  unfold F_X0_collect_47 at hf
  refine J_aload_n hX 2 dX0_collect_47 rfl rfl ?_
  refine J_aload_n hX 1 dX0_collect_48 rfl rfl ?_
  obtain ⟨r_1, e_2, hf⟩ := bdE hf
  refine V_0 hX [.ref k1] dX0_collect_49 cw_X0_40 (city_ob hk2) rfl (C_X1_copyFrom (okG hX) hk2 hk1 e_2) (ltD hdx rfl) rfl rfl rfl rfl ?_
  refine J_aload_n hX 2 dX0_collect_52 rfl rfl ?_
  refine J_iload hX 5 dX0_collect_53 rfl ?_
  refine J_iload hX 6 dX0_collect_55 rfl ?_
  refine J_iconst hX 0 dX0_collect_57 rfl ?_
  obtain ⟨r_3, e_4, hf⟩ := bdE hf
  refine V_0 hX [.int x5, .int x6, .int 0] dX0_collect_58 cw_X0_44 (city_ob hk2) rfl (C_X1_setPart (okG hX) hk2 e_4) (ltD hdx rfl) rfl rfl rfl rfl ?_
  refine J_aload_n hX 3 dX0_collect_61 rfl rfl ?_
  refine J_aload_n hX 2 dX0_collect_62 rfl rfl ?_
  obtain ⟨r_5, e_6, hf⟩ := bdE hf
  refine V_0 hX [.ref k2] dX0_collect_63 cw_X0_48 ob_5 rfl (C_X9_measurePress (okG hX) hk2 e_6) (ltD hdx rfl) rfl rfl rfl rfl ?_
  refine J_aload_n hX 0 dX0_collect_66 rfl rfl ?_
  refine J_iload hX 4 dX0_collect_67 rfl ?_
  refine J_aload_n hX 3 dX0_collect_69 rfl rfl ?_
  refine J_getR hX 6 dX0_collect_70 fl_X0_53 ob_5 rfl rfl ?_
  obtain ⟨r_7, e_8, hf⟩ := bdE hf
  refine V_0 hX [.int x4, .ref 6] dX0_collect_73 cw_X0_56 ob_23 rfl (C_X0_keepIfFits (okG hX) e_8) (ltD hdx rfl) rfl rfl rfl rfl ?_
  refine J_iinc hX (x4 + 1) 4 [(4, .int (x4 + 1)), (0, .ref 23), (1, .ref k1), (2, .ref k2), (3, .ref 5), (5, .int x5), (6, .int x6)] dX0_collect_76 rfl rfl rfl rfl ?_
  refine J_goto hX 8 dX0_collect_79 rfl ?_
  refine J_sub [1, 2, 3, 4, 0] [(0, .ref 23), (1, .ref k1), (2, .ref k2), (3, .ref 5), (4, .int (x4 + 1))] rfl ?_
  exact hq_8 (x4 + 1) r_7 hf
set_option maxRecDepth 100000 in
set_option maxHeartbeats 200000 in
theorem T_X0_collect_8_s {X : CX} (hX : Ok X cX0_collect 7 RX0 none) (hdx : dX X = 4) {r : Hp} (k1 : Nat) (hk1 : isCity k1) (k2 : Nat) (hk2 : isCity k2) (q_8 : Int32 → Hp → Option Hp) (hq_8 : ∀ (x4 : Int32) (h : Hp), q_8 x4 h = some r → J X ((.inl none, r)) 8 [(0, .ref 23), (1, .ref k1), (2, .ref k2), (3, .ref 5), (4, .int x4)] [] h) (x4 : Int32) (h : Hp) (hf : S_X0_collect_8 k1 k2 q_8 x4 h = some r) : J X ((.inl none, r)) 8 [(0, .ref 23), (1, .ref k1), (2, .ref k2), (3, .ref 5), (4, .int x4)] [] h := by
  unfold S_X0_collect_8 at hf
  refine J_iload hX 4 dX0_collect_8 rfl ?_
  refine J_bipush hX 64 dX0_collect_10 rfl ?_
  rcases ifE hf with ⟨c_1, hf⟩ | ⟨c_1, hf⟩
  · refine J_icmp_gtT hX 82 dX0_collect_12 rfl c_1 ?_
    exact E_Vi hX dX0_collect_82 hf
  · refine J_icmp_gtF hX 82 dX0_collect_12 rfl c_1 ?_
    refine J_iload hX 4 dX0_collect_15 rfl ?_
    refine J_bipush hX 8 dX0_collect_17 rfl ?_
    refine J_idiv hX (by decide) dX0_collect_19 ?_
    refine J_istore hX [(5, .int (x4 / 8)), (0, .ref 23), (1, .ref k1), (2, .ref k2), (3, .ref 5), (4, .int x4)] dX0_collect_20 rfl rfl ?_
    refine J_iload hX 5 dX0_collect_22 rfl ?_
    refine J_bipush hX 8 dX0_collect_24 rfl ?_
    refine J_irem hX (by decide) dX0_collect_26 ?_
    refine J_istore hX [(6, .int (rem x4 8)), (5, .int (x4 / 8)), (0, .ref 23), (1, .ref k1), (2, .ref k2), (3, .ref 5), (4, .int x4)] dX0_collect_27 rfl rfl ?_
    refine J_iload hX 6 dX0_collect_29 rfl ?_
    refine J_bipush hX 64 dX0_collect_31 rfl ?_
    rcases ifE hf with ⟨c_2, hf⟩ | ⟨c_2, hf⟩
    · refine J_icmp_eqT hX 47 dX0_collect_33 rfl c_2 ?_
      refine J_sub [2, 3, 4, 5, 6, 1, 0] [(0, .ref 23), (1, .ref k1), (2, .ref k2), (3, .ref 5), (4, .int x4), (5, .int (x4 / 8)), (6, .int (rem x4 8))] rfl ?_
      exact T_X0_collect_47 hX hdx k1 hk1 k2 hk2 x4 (x4 / 8) (rem x4 8) q_8 hq_8 h hf
    · refine J_icmp_eqF hX 47 dX0_collect_33 rfl c_2 ?_
      refine J_aload_n hX 3 dX0_collect_36 rfl rfl ?_
      refine J_iload hX 1 dX0_collect_37 rfl ?_
      refine J_iload hX 0 dX0_collect_39 rfl ?_
      obtain ⟨r_3, e_4, hf⟩ := bdE hf
      refine V_1 hX [.int (x4 / 8), .int (rem x4 8)] dX0_collect_41 cw_X0_34 (city_ob hk1) rfl (C_X1_partOf (okG hX) hk1 e_4) (ltD hdx rfl) rfl rfl rfl rfl ?_
      rcases ifE hf with ⟨c_5, hf⟩ | ⟨c_5, hf⟩
      · refine J_if_leF hX 76 dX0_collect_44 rfl c_5 ?_
        refine J_sub [2, 3, 4, 5, 6, 1, 0] [(0, .ref 23), (1, .ref k1), (2, .ref k2), (3, .ref 5), (4, .int x4), (5, .int (x4 / 8)), (6, .int (rem x4 8))] rfl ?_
        exact T_X0_collect_47 hX hdx k1 hk1 k2 hk2 x4 (x4 / 8) (rem x4 8) q_8 hq_8 h hf
      · refine J_if_leT hX 76 dX0_collect_44 rfl c_5 ?_
        refine J_iinc hX (x4 + 1) 6 [(4, .int (x4 + 1)), (6, .int (rem x4 8)), (5, .int (x4 / 8)), (0, .ref 23), (1, .ref k1), (2, .ref k2), (3, .ref 5)] dX0_collect_76 rfl rfl rfl rfl ?_
        refine J_goto hX 8 dX0_collect_79 rfl ?_
        refine J_sub [3, 4, 5, 6, 0] [(0, .ref 23), (1, .ref k1), (2, .ref k2), (3, .ref 5), (4, .int (x4 + 1))] rfl ?_
        exact hq_8 (x4 + 1) h hf
set_option maxRecDepth 100000 in
set_option maxHeartbeats 200000 in
theorem T_X0_collect_8 {X : CX} (hX : Ok X cX0_collect 7 RX0 none) (hdx : dX X = 4) {r : Hp} (k1 : Nat) (hk1 : isCity k1) (k2 : Nat) (hk2 : isCity k2) : ∀ (n : Nat) (x4 : Int32) (h : Hp), F_X0_collect_8 k1 k2 n x4 h = some r → J X ((.inl none, r)) 8 [(0, .ref 23), (1, .ref k1), (2, .ref k2), (3, .ref 5), (4, .int x4)] [] h := by
  intro n
  induction n with
  | zero => intro x4 h hf; exact nomatch hf
  | succ n ih => intro x4 h hf; exact T_X0_collect_8_s hX hdx k1 hk1 k2 hk2 _ (fun x4 h hf => ih x4 h hf) x4 h hf
set_option maxRecDepth 100000 in
set_option maxHeartbeats 200000 in
theorem T_X0_collect_0 {X : CX} (hX : Ok X cX0_collect 7 RX0 none) (hdx : dX X = 4) {r : Hp} (k1 : Nat) (hk1 : isCity k1) (k2 : Nat) (hk2 : isCity k2) (h : Hp) (hf : f_X0_collect k1 k2 h = some r) : J X ((.inl none, r)) 0 [(0, .ref 23), (1, .ref k1), (2, .ref k2), (3, .ref 5)] [] h := by
  unfold f_X0_collect at hf
  refine J_aload_n hX 0 dX0_collect_0 rfl rfl ?_
  refine J_iconst hX 0 dX0_collect_1 rfl ?_
  obtain ⟨h_1, e_2, hf⟩ := bndE hf
  refine J_putI hX dX0_collect_2 fl_X0_31 fw_0_1 ob_23 rfl rfl rfl ?_
  refine J_nmh e_2 ?_
  refine J_iconst hX 0 dX0_collect_5 rfl ?_
  refine J_istore hX [(4, .int 0), (0, .ref 23), (1, .ref k1), (2, .ref k2), (3, .ref 5)] dX0_collect_6 rfl rfl ?_
  refine J_sub [1, 2, 3, 4, 0] [(0, .ref 23), (1, .ref k1), (2, .ref k2), (3, .ref 5), (4, .int 0)] rfl ?_
  exact T_X0_collect_8 hX hdx k1 hk1 k2 hk2 FU 0 h_1 hf
set_option maxRecDepth 100000 in
set_option maxHeartbeats 200000 in
theorem C_X0_collect {G : GX} (hG : GOk G) {k1 : Nat} {k2 : Nat} {h : Hp} {r : Hp} (hk1 : isCity k1) (hk2 : isCity k2) (hf : f_X0_collect k1 k2 h = some r) : Ctr G 4 yX0_collect cX0_collect 7 none [.ref 23, .ref k1, .ref k2, .ref 5] h ((.inl none, r)) :=
  Ctr_of hG RX0 rfl (by decide) rfl (fun X _ hdx hX => T_X0_collect_0 hX hdx k1 hk1 k2 hk2 h hf)
theorem dX0_pressOf_0 : decode cX0_pressOf 0 = .ok (.iload_n 1, 1) := by decide +kernel
theorem dX0_pressOf_1 : decode cX0_pressOf 1 = .ok (.bipush 8, 2) := by decide +kernel
theorem dX0_pressOf_3 : decode cX0_pressOf 3 = .ok (.imul, 1) := by decide +kernel
theorem dX0_pressOf_4 : decode cX0_pressOf 4 = .ok (.iload_n 2, 1) := by decide +kernel
theorem dX0_pressOf_5 : decode cX0_pressOf 5 = .ok (.iadd, 1) := by decide +kernel
theorem dX0_pressOf_6 : decode cX0_pressOf 6 = .ok (.istore_n 3, 1) := by decide +kernel
theorem dX0_pressOf_7 : decode cX0_pressOf 7 = .ok (.iload_n 3, 1) := by decide +kernel
theorem dX0_pressOf_8 : decode cX0_pressOf 8 = .ok (.ifCond .lt 21, 3) := by decide +kernel
theorem dX0_pressOf_11 : decode cX0_pressOf 11 = .ok (.iload_n 3, 1) := by decide +kernel
theorem dX0_pressOf_12 : decode cX0_pressOf 12 = .ok (.aload_n 0, 1) := by decide +kernel
theorem dX0_pressOf_13 : decode cX0_pressOf 13 = .ok (.getfield 15, 3) := by decide +kernel
theorem dX0_pressOf_16 : decode cX0_pressOf 16 = .ok (.arraylength, 1) := by decide +kernel
theorem dX0_pressOf_17 : decode cX0_pressOf 17 = .ok (.if_icmp .ge 12, 3) := by decide +kernel
theorem dX0_pressOf_20 : decode cX0_pressOf 20 = .ok (.aload_n 0, 1) := by decide +kernel
theorem dX0_pressOf_21 : decode cX0_pressOf 21 = .ok (.getfield 15, 3) := by decide +kernel
theorem dX0_pressOf_24 : decode cX0_pressOf 24 = .ok (.iload_n 3, 1) := by decide +kernel
theorem dX0_pressOf_25 : decode cX0_pressOf 25 = .ok (.iaload, 1) := by decide +kernel
theorem dX0_pressOf_26 : decode cX0_pressOf 26 = .ok (.goto 4, 3) := by decide +kernel
theorem dX0_pressOf_29 : decode cX0_pressOf 29 = .ok (.iconst 0, 1) := by decide +kernel
theorem dX0_pressOf_30 : decode cX0_pressOf 30 = .ok (.ireturn, 1) := by decide +kernel
set_option maxRecDepth 100000 in
set_option maxHeartbeats 200000 in
theorem T_X0_pressOf_0 {X : CX} (hX : Ok X cX0_pressOf 4 RX0 (some .int)) (hdx : dX X = 2) {r : Int32} (x1 : Int32) (x2 : Int32) (h : Hp) (hf : f_X0_pressOf x1 x2 h = some r) : J X ((.inl (some (.int r)), h)) 0 [(0, .ref 23), (1, .int x1), (2, .int x2)] [] h := by
  unfold f_X0_pressOf at hf
  refine J_iload_n hX 1 dX0_pressOf_0 rfl rfl ?_
  refine J_bipush hX 8 dX0_pressOf_1 rfl ?_
  refine J_imul hX dX0_pressOf_3 ?_
  refine J_iload_n hX 2 dX0_pressOf_4 rfl rfl ?_
  refine J_iadd hX dX0_pressOf_5 ?_
  obtain ⟨x3_1, e_2, hf⟩ := bndE hf
  refine J_nm e_2 ?_
  refine J_istore_n hX [(3, .int x3_1), (0, .ref 23), (1, .int x1), (2, .int x2)] dX0_pressOf_6 rfl rfl rfl ?_
  refine J_iload_n hX 0 dX0_pressOf_7 rfl rfl ?_
  rcases ifE hf with ⟨c_3, hf⟩ | ⟨c_3, hf⟩
  · refine J_if_ltT hX 29 dX0_pressOf_8 rfl c_3 ?_
    refine J_iconst hX 0 dX0_pressOf_29 rfl ?_
    exact E_Ip hX dX0_pressOf_30 hf
  · refine J_if_ltF hX 29 dX0_pressOf_8 rfl c_3 ?_
    refine J_iload_n hX 0 dX0_pressOf_11 rfl rfl ?_
    refine J_aload_n hX 1 dX0_pressOf_12 rfl rfl ?_
    refine J_getR hX 25 dX0_pressOf_13 fl_X0_15 ob_23 rfl rfl ?_
    refine J_alen hX 520 dX0_pressOf_16 ar_25 (by decide) rfl ?_
    rcases ifE hf with ⟨c_4, hf⟩ | ⟨c_4, hf⟩
    · refine J_icmp_geF hX 29 dX0_pressOf_17 rfl c_4 ?_
      refine J_aload_n hX 1 dX0_pressOf_20 rfl rfl ?_
      refine J_getR hX 25 dX0_pressOf_21 fl_X0_15 ob_23 rfl rfl ?_
      refine J_iload_n hX 0 dX0_pressOf_24 rfl rfl ?_
      obtain ⟨g_5, hf⟩ := gdE hf
      refine J_ald hX x3_1.toNatClampNeg dX0_pressOf_25 ar_25 (Or.inl ⟨rfl, rfl⟩) g_5 rfl ?_
      refine J_goto hX 30 dX0_pressOf_26 rfl ?_
      exact E_Ip hX dX0_pressOf_30 hf
    · refine J_icmp_geT hX 29 dX0_pressOf_17 rfl c_4 ?_
      refine J_iconst hX 0 dX0_pressOf_29 rfl ?_
      exact E_Ip hX dX0_pressOf_30 hf
set_option maxRecDepth 100000 in
set_option maxHeartbeats 200000 in
theorem C_X0_pressOf {G : GX} (hG : GOk G) {x1 : Int32} {x2 : Int32} {h : Hp} {r : Int32} (hf : f_X0_pressOf x1 x2 h = some r) : Ctr G 2 yX0_pressOf cX0_pressOf 4 (some .int) [.ref 23, .int x1, .int x2] h ((.inl (some (.int r)), h)) :=
  Ctr_of hG RX0 rfl (by decide) rfl (fun X _ hdx hX => T_X0_pressOf_0 hX hdx x1 x2 h hf)
theorem dX0_greatestPart_0 : decode cX0_greatestPart 0 = .ok (.iconst 0, 1) := by decide +kernel
theorem dX0_greatestPart_1 : decode cX0_greatestPart 1 = .ok (.istore_n 2, 1) := by decide +kernel
theorem dX0_greatestPart_2 : decode cX0_greatestPart 2 = .ok (.iconst 0, 1) := by decide +kernel
theorem dX0_greatestPart_3 : decode cX0_greatestPart 3 = .ok (.istore_n 3, 1) := by decide +kernel
theorem dX0_greatestPart_4 : decode cX0_greatestPart 4 = .ok (.iload_n 3, 1) := by decide +kernel
theorem dX0_greatestPart_5 : decode cX0_greatestPart 5 = .ok (.aload_n 0, 1) := by decide +kernel
theorem dX0_greatestPart_6 : decode cX0_greatestPart 6 = .ok (.getfield 31, 3) := by decide +kernel
theorem dX0_greatestPart_9 : decode cX0_greatestPart 9 = .ok (.if_icmp .ge 63, 3) := by decide +kernel
theorem dX0_greatestPart_12 : decode cX0_greatestPart 12 = .ok (.iconst 0, 1) := by decide +kernel
theorem dX0_greatestPart_13 : decode cX0_greatestPart 13 = .ok (.istore 4, 2) := by decide +kernel
theorem dX0_greatestPart_15 : decode cX0_greatestPart 15 = .ok (.iconst 0, 1) := by decide +kernel
theorem dX0_greatestPart_16 : decode cX0_greatestPart 16 = .ok (.istore 5, 2) := by decide +kernel
theorem dX0_greatestPart_18 : decode cX0_greatestPart 18 = .ok (.iload 5, 2) := by decide +kernel
theorem dX0_greatestPart_20 : decode cX0_greatestPart 20 = .ok (.aload_n 0, 1) := by decide +kernel
theorem dX0_greatestPart_21 : decode cX0_greatestPart 21 = .ok (.getfield 31, 3) := by decide +kernel
theorem dX0_greatestPart_24 : decode cX0_greatestPart 24 = .ok (.if_icmp .ge 35, 3) := by decide +kernel
theorem dX0_greatestPart_27 : decode cX0_greatestPart 27 = .ok (.iload 4, 2) := by decide +kernel
theorem dX0_greatestPart_29 : decode cX0_greatestPart 29 = .ok (.aload_n 0, 1) := by decide +kernel
theorem dX0_greatestPart_30 : decode cX0_greatestPart 30 = .ok (.iload_n 3, 1) := by decide +kernel
theorem dX0_greatestPart_31 : decode cX0_greatestPart 31 = .ok (.iload_n 1, 1) := by decide +kernel
theorem dX0_greatestPart_32 : decode cX0_greatestPart 32 = .ok (.invokevirtual 68, 3) := by decide +kernel
theorem dX0_greatestPart_35 : decode cX0_greatestPart 35 = .ok (.aload_n 0, 1) := by decide +kernel
theorem dX0_greatestPart_36 : decode cX0_greatestPart 36 = .ok (.iload 5, 2) := by decide +kernel
theorem dX0_greatestPart_38 : decode cX0_greatestPart 38 = .ok (.iload_n 1, 1) := by decide +kernel
theorem dX0_greatestPart_39 : decode cX0_greatestPart 39 = .ok (.invokevirtual 68, 3) := by decide +kernel
theorem dX0_greatestPart_42 : decode cX0_greatestPart 42 = .ok (.if_icmp .ne 7, 3) := by decide +kernel
theorem dX0_greatestPart_45 : decode cX0_greatestPart 45 = .ok (.iconst 1, 1) := by decide +kernel
theorem dX0_greatestPart_46 : decode cX0_greatestPart 46 = .ok (.goto 4, 3) := by decide +kernel
theorem dX0_greatestPart_49 : decode cX0_greatestPart 49 = .ok (.iconst 0, 1) := by decide +kernel
theorem dX0_greatestPart_50 : decode cX0_greatestPart 50 = .ok (.iadd, 1) := by decide +kernel
theorem dX0_greatestPart_51 : decode cX0_greatestPart 51 = .ok (.istore 4, 2) := by decide +kernel
theorem dX0_greatestPart_53 : decode cX0_greatestPart 53 = .ok (.iinc 5 1, 3) := by decide +kernel
theorem dX0_greatestPart_56 : decode cX0_greatestPart 56 = .ok (.goto (-38), 3) := by decide +kernel
theorem dX0_greatestPart_59 : decode cX0_greatestPart 59 = .ok (.iload_n 2, 1) := by decide +kernel
theorem dX0_greatestPart_60 : decode cX0_greatestPart 60 = .ok (.iload 4, 2) := by decide +kernel
theorem dX0_greatestPart_62 : decode cX0_greatestPart 62 = .ok (.invokestatic 71, 3) := by decide +kernel
theorem dX0_greatestPart_65 : decode cX0_greatestPart 65 = .ok (.istore_n 2, 1) := by decide +kernel
theorem dX0_greatestPart_66 : decode cX0_greatestPart 66 = .ok (.iinc 3 1, 3) := by decide +kernel
theorem dX0_greatestPart_69 : decode cX0_greatestPart 69 = .ok (.goto (-65), 3) := by decide +kernel
theorem dX0_greatestPart_72 : decode cX0_greatestPart 72 = .ok (.iload_n 2, 1) := by decide +kernel
theorem dX0_greatestPart_73 : decode cX0_greatestPart 73 = .ok (.ireturn, 1) := by decide +kernel
set_option maxRecDepth 100000 in
set_option maxHeartbeats 200000 in
theorem T_X0_greatestPart_50 {X : CX} (hX : Ok X cX0_greatestPart 6 RX0 (some .int)) (hdx : dX X = 3) {r : Int32} (h : Hp) (x1 : Int32) (x2 : Int32) (x3 : Int32) (x5 : Int32) (t0 : Int32) (t1 : Int32) (q_4 : Int32 → Int32 → Option Int32) (hq_4 : ∀ (x2 : Int32) (x3 : Int32), q_4 x2 x3 = some r → J X ((.inl (some (.int r)), h)) 4 [(0, .ref 23), (1, .int x1), (2, .int x2), (3, .int x3)] [] h) (q_18 : Int32 → Int32 → Option Int32) (hq_18 : ∀ (x4 : Int32) (x5 : Int32), q_18 x4 x5 = some r → J X ((.inl (some (.int r)), h)) 18 [(0, .ref 23), (1, .int x1), (2, .int x2), (3, .int x3), (4, .int x4), (5, .int x5)] [] h) (hf : F_X0_greatestPart_50 q_4 q_18 h x1 x2 x3 x5 t0 t1 = some r) : J X ((.inl (some (.int r)), h)) 50 [(0, .ref 23), (1, .int x1), (2, .int x2), (3, .int x3), (5, .int x5)] [.int t0, .int t1] h := by
  unfold F_X0_greatestPart_50 at hf
  refine J_iadd hX dX0_greatestPart_50 ?_
  refine J_istore hX [(4, .int (t1 + t0)), (0, .ref 23), (1, .int x1), (2, .int x2), (3, .int x3), (5, .int x5)] dX0_greatestPart_51 rfl rfl ?_
  refine J_iinc hX (x5 + 1) 5 [(5, .int (x5 + 1)), (4, .int (t1 + t0)), (0, .ref 23), (1, .int x1), (2, .int x2), (3, .int x3)] dX0_greatestPart_53 rfl rfl rfl rfl ?_
  refine J_goto hX 18 dX0_greatestPart_56 rfl ?_
  refine J_sub [2, 3, 4, 5, 1, 0] [(0, .ref 23), (1, .int x1), (2, .int x2), (3, .int x3), (4, .int (t1 + t0)), (5, .int (x5 + 1))] rfl ?_
  exact hq_18 (t1 + t0) (x5 + 1) hf
set_option maxRecDepth 100000 in
set_option maxHeartbeats 200000 in
theorem T_X0_greatestPart_18_s {X : CX} (hX : Ok X cX0_greatestPart 6 RX0 (some .int)) (hdx : dX X = 3) {r : Int32} (h : Hp) (x1 : Int32) (x2 : Int32) (x3 : Int32) (q_4 : Int32 → Int32 → Option Int32) (hq_4 : ∀ (x2 : Int32) (x3 : Int32), q_4 x2 x3 = some r → J X ((.inl (some (.int r)), h)) 4 [(0, .ref 23), (1, .int x1), (2, .int x2), (3, .int x3)] [] h) (q_18 : Int32 → Int32 → Option Int32) (hq_18 : ∀ (x4 : Int32) (x5 : Int32), q_18 x4 x5 = some r → J X ((.inl (some (.int r)), h)) 18 [(0, .ref 23), (1, .int x1), (2, .int x2), (3, .int x3), (4, .int x4), (5, .int x5)] [] h) (x4 : Int32) (x5 : Int32) (hf : S_X0_greatestPart_18 q_4 h x1 x2 x3 q_18 x4 x5 = some r) : J X ((.inl (some (.int r)), h)) 18 [(0, .ref 23), (1, .int x1), (2, .int x2), (3, .int x3), (4, .int x4), (5, .int x5)] [] h := by
  unfold S_X0_greatestPart_18 at hf
  refine J_iload hX 5 dX0_greatestPart_18 rfl ?_
  refine J_aload_n hX 0 dX0_greatestPart_20 rfl rfl ?_
  refine J_getI hX dX0_greatestPart_21 fl_X0_31 ob_23 rfl ?_
  rcases ifE hf with ⟨c_1, hf⟩ | ⟨c_1, hf⟩
  · refine J_icmp_geF hX 59 dX0_greatestPart_24 rfl c_1 ?_
    refine J_iload hX 4 dX0_greatestPart_27 rfl ?_
    refine J_aload_n hX 0 dX0_greatestPart_29 rfl rfl ?_
    refine J_iload_n hX 3 dX0_greatestPart_30 rfl rfl ?_
    refine J_iload_n hX 1 dX0_greatestPart_31 rfl rfl ?_
    obtain ⟨r_2, e_3, hf⟩ := bdE hf
    refine V_1 hX [.int x3, .int x1] dX0_greatestPart_32 cw_X0_68 ob_23 rfl (C_X0_pressOf (okG hX) e_3) (ltD hdx rfl) rfl rfl rfl rfl ?_
    refine J_aload_n hX 0 dX0_greatestPart_35 rfl rfl ?_
    refine J_iload hX 5 dX0_greatestPart_36 rfl ?_
    refine J_iload_n hX 1 dX0_greatestPart_38 rfl rfl ?_
    obtain ⟨r_4, e_5, hf⟩ := bdE hf
    refine V_1 hX [.int x5, .int x1] dX0_greatestPart_39 cw_X0_68 ob_23 rfl (C_X0_pressOf (okG hX) e_5) (ltD hdx rfl) rfl rfl rfl rfl ?_
    rcases ifE hf with ⟨c_6, hf⟩ | ⟨c_6, hf⟩
    · refine J_icmp_neF hX 49 dX0_greatestPart_42 rfl c_6 ?_
      refine J_iconst hX 1 dX0_greatestPart_45 rfl ?_
      refine J_goto hX 50 dX0_greatestPart_46 rfl ?_
      refine J_sub [0, 1, 2, 3, 5] [(0, .ref 23), (1, .int x1), (2, .int x2), (3, .int x3), (5, .int x5)] rfl ?_
      exact T_X0_greatestPart_50 hX hdx h x1 x2 x3 x5 1 x4 q_4 hq_4 q_18 hq_18 hf
    · refine J_icmp_neT hX 49 dX0_greatestPart_42 rfl c_6 ?_
      refine J_iconst hX 0 dX0_greatestPart_49 rfl ?_
      refine J_sub [0, 1, 2, 3, 5] [(0, .ref 23), (1, .int x1), (2, .int x2), (3, .int x3), (5, .int x5)] rfl ?_
      exact T_X0_greatestPart_50 hX hdx h x1 x2 x3 x5 0 x4 q_4 hq_4 q_18 hq_18 hf
  · refine J_icmp_geT hX 59 dX0_greatestPart_24 rfl c_1 ?_
    refine J_iload_n hX 2 dX0_greatestPart_59 rfl rfl ?_
    refine J_iload hX 4 dX0_greatestPart_60 rfl ?_
    refine J_max hX dX0_greatestPart_62 mw_X0_71 (ltD hdx rfl) rfl ?_
    obtain ⟨x2_7, e_8, hf⟩ := bndE hf
    refine J_nm e_8 ?_
    refine J_istore_n hX [(2, .int x2_7), (0, .ref 23), (1, .int x1), (3, .int x3), (4, .int x4), (5, .int x5)] dX0_greatestPart_65 rfl rfl rfl ?_
    refine J_iinc hX (x3 + 1) 3 [(3, .int (x3 + 1)), (2, .int x2_7), (0, .ref 23), (1, .int x1), (4, .int x4), (5, .int x5)] dX0_greatestPart_66 rfl rfl rfl rfl ?_
    refine J_goto hX 4 dX0_greatestPart_69 rfl ?_
    refine J_sub [2, 3, 1, 0] [(0, .ref 23), (1, .int x1), (2, .int x2_7), (3, .int (x3 + 1))] rfl ?_
    exact hq_4 x2_7 (x3 + 1) hf
set_option maxRecDepth 100000 in
set_option maxHeartbeats 200000 in
theorem T_X0_greatestPart_18 {X : CX} (hX : Ok X cX0_greatestPart 6 RX0 (some .int)) (hdx : dX X = 3) {r : Int32} (h : Hp) (x1 : Int32) (x2 : Int32) (x3 : Int32) (q_4 : Int32 → Int32 → Option Int32) (hq_4 : ∀ (x2 : Int32) (x3 : Int32), q_4 x2 x3 = some r → J X ((.inl (some (.int r)), h)) 4 [(0, .ref 23), (1, .int x1), (2, .int x2), (3, .int x3)] [] h) : ∀ (n : Nat) (x4 : Int32) (x5 : Int32), F_X0_greatestPart_18 q_4 h x1 x2 x3 n x4 x5 = some r → J X ((.inl (some (.int r)), h)) 18 [(0, .ref 23), (1, .int x1), (2, .int x2), (3, .int x3), (4, .int x4), (5, .int x5)] [] h := by
  intro n
  induction n with
  | zero => intro x4 x5 hf; exact nomatch hf
  | succ n ih => intro x4 x5 hf; exact T_X0_greatestPart_18_s hX hdx h x1 x2 x3 q_4 hq_4 _ (fun x4 x5 hf => ih x4 x5 hf) x4 x5 hf
set_option maxRecDepth 100000 in
set_option maxHeartbeats 200000 in
theorem T_X0_greatestPart_4_s {X : CX} (hX : Ok X cX0_greatestPart 6 RX0 (some .int)) (hdx : dX X = 3) {r : Int32} (h : Hp) (x1 : Int32) (q_4 : Int32 → Int32 → Option Int32) (hq_4 : ∀ (x2 : Int32) (x3 : Int32), q_4 x2 x3 = some r → J X ((.inl (some (.int r)), h)) 4 [(0, .ref 23), (1, .int x1), (2, .int x2), (3, .int x3)] [] h) (x2 : Int32) (x3 : Int32) (hf : S_X0_greatestPart_4 h x1 q_4 x2 x3 = some r) : J X ((.inl (some (.int r)), h)) 4 [(0, .ref 23), (1, .int x1), (2, .int x2), (3, .int x3)] [] h := by
  unfold S_X0_greatestPart_4 at hf
  refine J_iload_n hX 3 dX0_greatestPart_4 rfl rfl ?_
  refine J_aload_n hX 0 dX0_greatestPart_5 rfl rfl ?_
  refine J_getI hX dX0_greatestPart_6 fl_X0_31 ob_23 rfl ?_
  rcases ifE hf with ⟨c_1, hf⟩ | ⟨c_1, hf⟩
  · refine J_icmp_geF hX 72 dX0_greatestPart_9 rfl c_1 ?_
    refine J_iconst hX 0 dX0_greatestPart_12 rfl ?_
    refine J_istore hX [(4, .int 0), (0, .ref 23), (1, .int x1), (2, .int x2), (3, .int x3)] dX0_greatestPart_13 rfl rfl ?_
    refine J_iconst hX 0 dX0_greatestPart_15 rfl ?_
    refine J_istore hX [(5, .int 0), (4, .int 0), (0, .ref 23), (1, .int x1), (2, .int x2), (3, .int x3)] dX0_greatestPart_16 rfl rfl ?_
    refine J_sub [2, 3, 4, 5, 1, 0] [(0, .ref 23), (1, .int x1), (2, .int x2), (3, .int x3), (4, .int 0), (5, .int 0)] rfl ?_
    exact T_X0_greatestPart_18 hX hdx h x1 x2 x3 q_4 hq_4 FU 0 0 hf
  · refine J_icmp_geT hX 72 dX0_greatestPart_9 rfl c_1 ?_
    refine J_iload_n hX 2 dX0_greatestPart_72 rfl rfl ?_
    exact E_Ip hX dX0_greatestPart_73 hf
set_option maxRecDepth 100000 in
set_option maxHeartbeats 200000 in
theorem T_X0_greatestPart_4 {X : CX} (hX : Ok X cX0_greatestPart 6 RX0 (some .int)) (hdx : dX X = 3) {r : Int32} (h : Hp) (x1 : Int32) : ∀ (n : Nat) (x2 : Int32) (x3 : Int32), F_X0_greatestPart_4 h x1 n x2 x3 = some r → J X ((.inl (some (.int r)), h)) 4 [(0, .ref 23), (1, .int x1), (2, .int x2), (3, .int x3)] [] h := by
  intro n
  induction n with
  | zero => intro x2 x3 hf; exact nomatch hf
  | succ n ih => intro x2 x3 hf; exact T_X0_greatestPart_4_s hX hdx h x1 _ (fun x2 x3 hf => ih x2 x3 hf) x2 x3 hf
set_option maxRecDepth 100000 in
set_option maxHeartbeats 200000 in
theorem T_X0_greatestPart_0 {X : CX} (hX : Ok X cX0_greatestPart 6 RX0 (some .int)) (hdx : dX X = 3) {r : Int32} (x1 : Int32) (h : Hp) (hf : f_X0_greatestPart x1 h = some r) : J X ((.inl (some (.int r)), h)) 0 [(0, .ref 23), (1, .int x1)] [] h := by
  unfold f_X0_greatestPart at hf
  refine J_iconst hX 0 dX0_greatestPart_0 rfl ?_
  refine J_istore_n hX [(2, .int 0), (0, .ref 23), (1, .int x1)] dX0_greatestPart_1 rfl rfl rfl ?_
  refine J_iconst hX 0 dX0_greatestPart_2 rfl ?_
  refine J_istore_n hX [(3, .int 0), (2, .int 0), (0, .ref 23), (1, .int x1)] dX0_greatestPart_3 rfl rfl rfl ?_
  refine J_sub [2, 3, 1, 0] [(0, .ref 23), (1, .int x1), (2, .int 0), (3, .int 0)] rfl ?_
  exact T_X0_greatestPart_4 hX hdx h x1 FU 0 0 hf
set_option maxRecDepth 100000 in
set_option maxHeartbeats 200000 in
theorem C_X0_greatestPart {G : GX} (hG : GOk G) {x1 : Int32} {h : Hp} {r : Int32} (hf : f_X0_greatestPart x1 h = some r) : Ctr G 3 yX0_greatestPart cX0_greatestPart 6 (some .int) [.ref 23, .int x1] h ((.inl (some (.int r)), h)) :=
  Ctr_of hG RX0 rfl (by decide) rfl (fun X _ hdx hX => T_X0_greatestPart_0 hX hdx x1 h hf)
theorem dX0_bestTap_0 : decode cX0_bestTap 0 = .ok (.iconst (-1), 1) := by decide +kernel
theorem dX0_bestTap_1 : decode cX0_bestTap 1 = .ok (.istore_n 2, 1) := by decide +kernel
theorem dX0_bestTap_2 : decode cX0_bestTap 2 = .ok (.bipush 66, 2) := by decide +kernel
theorem dX0_bestTap_4 : decode cX0_bestTap 4 = .ok (.istore_n 3, 1) := by decide +kernel
theorem dX0_bestTap_5 : decode cX0_bestTap 5 = .ok (.iconst 0, 1) := by decide +kernel
theorem dX0_bestTap_6 : decode cX0_bestTap 6 = .ok (.istore 4, 2) := by decide +kernel
theorem dX0_bestTap_8 : decode cX0_bestTap 8 = .ok (.iload 4, 2) := by decide +kernel
theorem dX0_bestTap_10 : decode cX0_bestTap 10 = .ok (.bipush 8, 2) := by decide +kernel
theorem dX0_bestTap_12 : decode cX0_bestTap 12 = .ok (.if_icmp .ge 43, 3) := by decide +kernel
theorem dX0_bestTap_15 : decode cX0_bestTap 15 = .ok (.iload_n 1, 1) := by decide +kernel
theorem dX0_bestTap_16 : decode cX0_bestTap 16 = .ok (.iload 4, 2) := by decide +kernel
theorem dX0_bestTap_18 : decode cX0_bestTap 18 = .ok (.ishr, 1) := by decide +kernel
theorem dX0_bestTap_19 : decode cX0_bestTap 19 = .ok (.iconst 1, 1) := by decide +kernel
theorem dX0_bestTap_20 : decode cX0_bestTap 20 = .ok (.iand, 1) := by decide +kernel
theorem dX0_bestTap_21 : decode cX0_bestTap 21 = .ok (.iconst 1, 1) := by decide +kernel
theorem dX0_bestTap_22 : decode cX0_bestTap 22 = .ok (.if_icmp .ne 12, 3) := by decide +kernel
theorem dX0_bestTap_25 : decode cX0_bestTap 25 = .ok (.aload_n 0, 1) := by decide +kernel
theorem dX0_bestTap_26 : decode cX0_bestTap 26 = .ok (.iload 4, 2) := by decide +kernel
theorem dX0_bestTap_28 : decode cX0_bestTap 28 = .ok (.invokevirtual 65, 3) := by decide +kernel
theorem dX0_bestTap_31 : decode cX0_bestTap 31 = .ok (.goto 4, 3) := by decide +kernel
theorem dX0_bestTap_34 : decode cX0_bestTap 34 = .ok (.iload_n 3, 1) := by decide +kernel
theorem dX0_bestTap_35 : decode cX0_bestTap 35 = .ok (.istore 5, 2) := by decide +kernel
theorem dX0_bestTap_37 : decode cX0_bestTap 37 = .ok (.iload 5, 2) := by decide +kernel
theorem dX0_bestTap_39 : decode cX0_bestTap 39 = .ok (.iload_n 3, 1) := by decide +kernel
theorem dX0_bestTap_40 : decode cX0_bestTap 40 = .ok (.if_icmp .ge 9, 3) := by decide +kernel
theorem dX0_bestTap_43 : decode cX0_bestTap 43 = .ok (.iload 5, 2) := by decide +kernel
theorem dX0_bestTap_45 : decode cX0_bestTap 45 = .ok (.istore_n 3, 1) := by decide +kernel
theorem dX0_bestTap_46 : decode cX0_bestTap 46 = .ok (.iload 4, 2) := by decide +kernel
theorem dX0_bestTap_48 : decode cX0_bestTap 48 = .ok (.istore_n 2, 1) := by decide +kernel
theorem dX0_bestTap_49 : decode cX0_bestTap 49 = .ok (.iinc 4 1, 3) := by decide +kernel
theorem dX0_bestTap_52 : decode cX0_bestTap 52 = .ok (.goto (-44), 3) := by decide +kernel
theorem dX0_bestTap_55 : decode cX0_bestTap 55 = .ok (.iload_n 2, 1) := by decide +kernel
theorem dX0_bestTap_56 : decode cX0_bestTap 56 = .ok (.ireturn, 1) := by decide +kernel
set_option maxRecDepth 100000 in
set_option maxHeartbeats 200000 in
theorem T_X0_bestTap_35 {X : CX} (hX : Ok X cX0_bestTap 6 RX0 (some .int)) (hdx : dX X = 4) {r : Int32} (h : Hp) (x1 : Int32) (x2 : Int32) (x3 : Int32) (x4 : Int32) (t0 : Int32) (q_8 : Int32 → Int32 → Int32 → Option Int32) (hq_8 : ∀ (x2 : Int32) (x3 : Int32) (x4 : Int32), q_8 x2 x3 x4 = some r → J X ((.inl (some (.int r)), h)) 8 [(0, .ref 23), (1, .int x1), (2, .int x2), (3, .int x3), (4, .int x4)] [] h) (hf : F_X0_bestTap_35 q_8 h x1 x2 x3 x4 t0 = some r) : J X ((.inl (some (.int r)), h)) 35 [(0, .ref 23), (1, .int x1), (2, .int x2), (3, .int x3), (4, .int x4)] [.int t0] h := by
  unfold F_X0_bestTap_35 at hf
  refine J_istore hX [(5, .int t0), (0, .ref 23), (1, .int x1), (2, .int x2), (3, .int x3), (4, .int x4)] dX0_bestTap_35 rfl rfl ?_
  refine J_iload hX 0 dX0_bestTap_37 rfl ?_
  refine J_iload_n hX 4 dX0_bestTap_39 rfl rfl ?_
  rcases ifE hf with ⟨c_1, hf⟩ | ⟨c_1, hf⟩
  · refine J_icmp_geF hX 49 dX0_bestTap_40 rfl c_1 ?_
    refine J_iload hX 0 dX0_bestTap_43 rfl ?_
    refine J_istore_n hX [(3, .int t0), (5, .int t0), (0, .ref 23), (1, .int x1), (2, .int x2), (4, .int x4)] dX0_bestTap_45 rfl rfl rfl ?_
    refine J_iload hX 5 dX0_bestTap_46 rfl ?_
    refine J_istore_n hX [(2, .int x4), (3, .int t0), (5, .int t0), (0, .ref 23), (1, .int x1), (4, .int x4)] dX0_bestTap_48 rfl rfl rfl ?_
    refine J_iinc hX (x4 + 1) 5 [(4, .int (x4 + 1)), (2, .int x4), (3, .int t0), (5, .int t0), (0, .ref 23), (1, .int x1)] dX0_bestTap_49 rfl rfl rfl rfl ?_
    refine J_goto hX 8 dX0_bestTap_52 rfl ?_
    refine J_sub [4, 5, 1, 2, 0] [(0, .ref 23), (1, .int x1), (2, .int x4), (3, .int t0), (4, .int (x4 + 1))] rfl ?_
    exact hq_8 x4 t0 (x4 + 1) hf
  · refine J_icmp_geT hX 49 dX0_bestTap_40 rfl c_1 ?_
    refine J_iinc hX (x4 + 1) 5 [(4, .int (x4 + 1)), (5, .int t0), (0, .ref 23), (1, .int x1), (2, .int x2), (3, .int x3)] dX0_bestTap_49 rfl rfl rfl rfl ?_
    refine J_goto hX 8 dX0_bestTap_52 rfl ?_
    refine J_sub [2, 3, 4, 5, 0] [(0, .ref 23), (1, .int x1), (2, .int x2), (3, .int x3), (4, .int (x4 + 1))] rfl ?_
    exact hq_8 x2 x3 (x4 + 1) hf
set_option maxRecDepth 100000 in
set_option maxHeartbeats 200000 in
theorem T_X0_bestTap_8_s {X : CX} (hX : Ok X cX0_bestTap 6 RX0 (some .int)) (hdx : dX X = 4) {r : Int32} (h : Hp) (x1 : Int32) (q_8 : Int32 → Int32 → Int32 → Option Int32) (hq_8 : ∀ (x2 : Int32) (x3 : Int32) (x4 : Int32), q_8 x2 x3 x4 = some r → J X ((.inl (some (.int r)), h)) 8 [(0, .ref 23), (1, .int x1), (2, .int x2), (3, .int x3), (4, .int x4)] [] h) (x2 : Int32) (x3 : Int32) (x4 : Int32) (hf : S_X0_bestTap_8 h x1 q_8 x2 x3 x4 = some r) : J X ((.inl (some (.int r)), h)) 8 [(0, .ref 23), (1, .int x1), (2, .int x2), (3, .int x3), (4, .int x4)] [] h := by
  unfold S_X0_bestTap_8 at hf
  refine J_iload hX 4 dX0_bestTap_8 rfl ?_
  refine J_bipush hX 8 dX0_bestTap_10 rfl ?_
  rcases ifE hf with ⟨c_1, hf⟩ | ⟨c_1, hf⟩
  · refine J_icmp_geF hX 55 dX0_bestTap_12 rfl c_1 ?_
    refine J_iload_n hX 1 dX0_bestTap_15 rfl rfl ?_
    refine J_iload hX 4 dX0_bestTap_16 rfl ?_
    refine J_ishr hX dX0_bestTap_18 ?_
    refine J_iconst hX 1 dX0_bestTap_19 rfl ?_
    refine J_iand hX dX0_bestTap_20 ?_
    refine J_iconst hX 1 dX0_bestTap_21 rfl ?_
    rcases ifE hf with ⟨c_2, hf⟩ | ⟨c_2, hf⟩
    · refine J_icmp_neF hX 34 dX0_bestTap_22 rfl c_2 ?_
      refine J_aload_n hX 0 dX0_bestTap_25 rfl rfl ?_
      refine J_iload hX 4 dX0_bestTap_26 rfl ?_
      obtain ⟨r_3, e_4, hf⟩ := bdE hf
      refine V_1 hX [.int x4] dX0_bestTap_28 cw_X0_65 ob_23 rfl (C_X0_greatestPart (okG hX) e_4) (ltD hdx rfl) rfl rfl rfl rfl ?_
      refine J_goto hX 35 dX0_bestTap_31 rfl ?_
      exact T_X0_bestTap_35 hX hdx h x1 x2 x3 x4 r_3 q_8 hq_8 hf
    · refine J_icmp_neT hX 34 dX0_bestTap_22 rfl c_2 ?_
      refine J_iload_n hX 3 dX0_bestTap_34 rfl rfl ?_
      exact T_X0_bestTap_35 hX hdx h x1 x2 x3 x4 x3 q_8 hq_8 hf
  · refine J_icmp_geT hX 55 dX0_bestTap_12 rfl c_1 ?_
    refine J_iload_n hX 2 dX0_bestTap_55 rfl rfl ?_
    exact E_Ip hX dX0_bestTap_56 hf
set_option maxRecDepth 100000 in
set_option maxHeartbeats 200000 in
theorem T_X0_bestTap_8 {X : CX} (hX : Ok X cX0_bestTap 6 RX0 (some .int)) (hdx : dX X = 4) {r : Int32} (h : Hp) (x1 : Int32) : ∀ (n : Nat) (x2 : Int32) (x3 : Int32) (x4 : Int32), F_X0_bestTap_8 h x1 n x2 x3 x4 = some r → J X ((.inl (some (.int r)), h)) 8 [(0, .ref 23), (1, .int x1), (2, .int x2), (3, .int x3), (4, .int x4)] [] h := by
  intro n
  induction n with
  | zero => intro x2 x3 x4 hf; exact nomatch hf
  | succ n ih => intro x2 x3 x4 hf; exact T_X0_bestTap_8_s hX hdx h x1 _ (fun x2 x3 x4 hf => ih x2 x3 x4 hf) x2 x3 x4 hf
set_option maxRecDepth 100000 in
set_option maxHeartbeats 200000 in
theorem T_X0_bestTap_0 {X : CX} (hX : Ok X cX0_bestTap 6 RX0 (some .int)) (hdx : dX X = 4) {r : Int32} (x1 : Int32) (h : Hp) (hf : f_X0_bestTap x1 h = some r) : J X ((.inl (some (.int r)), h)) 0 [(0, .ref 23), (1, .int x1)] [] h := by
  unfold f_X0_bestTap at hf
  refine J_iconst hX (-1) dX0_bestTap_0 rfl ?_
  refine J_istore_n hX [(2, .int (-1)), (0, .ref 23), (1, .int x1)] dX0_bestTap_1 rfl rfl rfl ?_
  refine J_bipush hX 66 dX0_bestTap_2 rfl ?_
  refine J_istore_n hX [(3, .int 66), (2, .int (-1)), (0, .ref 23), (1, .int x1)] dX0_bestTap_4 rfl rfl rfl ?_
  refine J_iconst hX 0 dX0_bestTap_5 rfl ?_
  refine J_istore hX [(4, .int 0), (3, .int 66), (2, .int (-1)), (0, .ref 23), (1, .int x1)] dX0_bestTap_6 rfl rfl ?_
  refine J_sub [3, 4, 2, 1, 0] [(0, .ref 23), (1, .int x1), (2, .int (-1)), (3, .int 66), (4, .int 0)] rfl ?_
  exact T_X0_bestTap_8 hX hdx h x1 FU (-1) 66 0 hf
set_option maxRecDepth 100000 in
set_option maxHeartbeats 200000 in
theorem C_X0_bestTap {G : GX} (hG : GOk G) {x1 : Int32} {h : Hp} {r : Int32} (hf : f_X0_bestTap x1 h = some r) : Ctr G 4 yX0_bestTap cX0_bestTap 6 (some .int) [.ref 23, .int x1] h ((.inl (some (.int r)), h)) :=
  Ctr_of hG RX0 rfl (by decide) rfl (fun X _ hdx hX => T_X0_bestTap_0 hX hdx x1 h hf)
theorem dX1_isUp_0 : decode cX1_isUp 0 = .ok (.aload_n 0, 1) := by decide +kernel
theorem dX1_isUp_1 : decode cX1_isUp 1 = .ok (.iload_n 1, 1) := by decide +kernel
theorem dX1_isUp_2 : decode cX1_isUp 2 = .ok (.invokevirtual 81, 3) := by decide +kernel
theorem dX1_isUp_5 : decode cX1_isUp 5 = .ok (.ifCond .eq 19, 3) := by decide +kernel
theorem dX1_isUp_8 : decode cX1_isUp 8 = .ok (.aload_n 0, 1) := by decide +kernel
theorem dX1_isUp_9 : decode cX1_isUp 9 = .ok (.getfield 66, 3) := by decide +kernel
theorem dX1_isUp_12 : decode cX1_isUp 12 = .ok (.iload_n 1, 1) := by decide +kernel
theorem dX1_isUp_13 : decode cX1_isUp 13 = .ok (.ishr, 1) := by decide +kernel
theorem dX1_isUp_14 : decode cX1_isUp 14 = .ok (.iconst 1, 1) := by decide +kernel
theorem dX1_isUp_15 : decode cX1_isUp 15 = .ok (.iand, 1) := by decide +kernel
theorem dX1_isUp_16 : decode cX1_isUp 16 = .ok (.iconst 1, 1) := by decide +kernel
theorem dX1_isUp_17 : decode cX1_isUp 17 = .ok (.if_icmp .ne 7, 3) := by decide +kernel
theorem dX1_isUp_20 : decode cX1_isUp 20 = .ok (.iconst 1, 1) := by decide +kernel
theorem dX1_isUp_21 : decode cX1_isUp 21 = .ok (.goto 4, 3) := by decide +kernel
theorem dX1_isUp_24 : decode cX1_isUp 24 = .ok (.iconst 0, 1) := by decide +kernel
theorem dX1_isUp_25 : decode cX1_isUp 25 = .ok (.ireturn, 1) := by decide +kernel
set_option maxRecDepth 100000 in
set_option maxHeartbeats 200000 in
theorem T_X1_isUp_0 {X : CX} (hX : Ok X cX1_isUp 2 RX1 (some .boolean)) (hdx : dX X = 3) {r : Bool} (k0 : Nat) (hk0 : isCity k0) (x1 : Int32) (h : Hp) (hf : f_X1_isUp k0 x1 h = r) : J X ((.inl (some (.int (b2i r))), h)) 0 [(0, .ref k0), (1, .int x1)] [] h := by
  unfold f_X1_isUp at hf
  refine J_aload_n hX 0 dX1_isUp_0 rfl rfl ?_
  refine J_iload_n hX 1 dX1_isUp_1 rfl rfl ?_
  refine V_1 hX [.int x1] dX1_isUp_2 cw_X1_81 (city_ob hk0) rfl (C_X1_isHouse (okG hX) hk0 rfl) (ltD hdx rfl) rfl rfl rfl rfl ?_
  rcases ifE hf with ⟨c_1, hf⟩ | ⟨c_1, hf⟩
  · refine J_if_eqF hX 24 dX1_isUp_5 rfl (b2iT c_1) ?_
    refine J_aload_n hX 0 dX1_isUp_8 rfl rfl ?_
    refine J_getI hX dX1_isUp_9 fl_X1_66 (city_ob hk0) rfl ?_
    refine J_iload_n hX 1 dX1_isUp_12 rfl rfl ?_
    refine J_ishr hX dX1_isUp_13 ?_
    refine J_iconst hX 1 dX1_isUp_14 rfl ?_
    refine J_iand hX dX1_isUp_15 ?_
    refine J_iconst hX 1 dX1_isUp_16 rfl ?_
    rcases ifE hf with ⟨c_2, hf⟩ | ⟨c_2, hf⟩
    · refine J_icmp_neF hX 24 dX1_isUp_17 rfl c_2 ?_
      refine J_iconst hX 1 dX1_isUp_20 rfl ?_
      refine J_goto hX 25 dX1_isUp_21 rfl ?_
      exact E_Zt hX dX1_isUp_25 rfl hf
    · refine J_icmp_neT hX 24 dX1_isUp_17 rfl c_2 ?_
      refine J_iconst hX 0 dX1_isUp_24 rfl ?_
      exact E_Zt hX dX1_isUp_25 rfl hf
  · refine J_if_eqT hX 24 dX1_isUp_5 rfl (b2iF c_1) ?_
    refine J_iconst hX 0 dX1_isUp_24 rfl ?_
    exact E_Zt hX dX1_isUp_25 rfl hf
set_option maxRecDepth 100000 in
set_option maxHeartbeats 200000 in
theorem C_X1_isUp {G : GX} (hG : GOk G) {k0 : Nat} {x1 : Int32} {h : Hp} {r : Bool} (hk0 : isCity k0) (hf : f_X1_isUp k0 x1 h = r) : Ctr G 3 yX1_isUp cX1_isUp 2 (some .boolean) [.ref k0, .int x1] h ((.inl (some (.int (b2i r))), h)) :=
  Ctr_of hG RX1 rfl (by decide) rfl (fun X _ hdx hX => T_X1_isUp_0 hX hdx k0 hk0 x1 h hf)
theorem dX1_isPerson_0 : decode cX1_isPerson 0 = .ok (.iload_n 1, 1) := by decide +kernel
theorem dX1_isPerson_1 : decode cX1_isPerson 1 = .ok (.ifCond .lt 21, 3) := by decide +kernel
theorem dX1_isPerson_4 : decode cX1_isPerson 4 = .ok (.iload_n 1, 1) := by decide +kernel
theorem dX1_isPerson_5 : decode cX1_isPerson 5 = .ok (.aload_n 0, 1) := by decide +kernel
theorem dX1_isPerson_6 : decode cX1_isPerson 6 = .ok (.getfield 63, 3) := by decide +kernel
theorem dX1_isPerson_9 : decode cX1_isPerson 9 = .ok (.if_icmp .ge 13, 3) := by decide +kernel
theorem dX1_isPerson_12 : decode cX1_isPerson 12 = .ok (.iload_n 1, 1) := by decide +kernel
theorem dX1_isPerson_13 : decode cX1_isPerson 13 = .ok (.bipush 6, 2) := by decide +kernel
theorem dX1_isPerson_15 : decode cX1_isPerson 15 = .ok (.if_icmp .ge 7, 3) := by decide +kernel
theorem dX1_isPerson_18 : decode cX1_isPerson 18 = .ok (.iconst 1, 1) := by decide +kernel
theorem dX1_isPerson_19 : decode cX1_isPerson 19 = .ok (.goto 4, 3) := by decide +kernel
theorem dX1_isPerson_22 : decode cX1_isPerson 22 = .ok (.iconst 0, 1) := by decide +kernel
theorem dX1_isPerson_23 : decode cX1_isPerson 23 = .ok (.ireturn, 1) := by decide +kernel
set_option maxRecDepth 100000 in
set_option maxHeartbeats 200000 in
theorem T_X1_isPerson_0 {X : CX} (hX : Ok X cX1_isPerson 2 RX1 (some .boolean)) (hdx : dX X = 2) {r : Bool} (k0 : Nat) (hk0 : isCity k0) (x1 : Int32) (h : Hp) (hf : f_X1_isPerson k0 x1 h = r) : J X ((.inl (some (.int (b2i r))), h)) 0 [(0, .ref k0), (1, .int x1)] [] h := by
  unfold f_X1_isPerson at hf
  refine J_iload_n hX 1 dX1_isPerson_0 rfl rfl ?_
  rcases ifE hf with ⟨c_1, hf⟩ | ⟨c_1, hf⟩
  · refine J_if_ltT hX 22 dX1_isPerson_1 rfl c_1 ?_
    refine J_iconst hX 0 dX1_isPerson_22 rfl ?_
    exact E_Zt hX dX1_isPerson_23 rfl hf
  · refine J_if_ltF hX 22 dX1_isPerson_1 rfl c_1 ?_
    refine J_iload_n hX 1 dX1_isPerson_4 rfl rfl ?_
    refine J_aload_n hX 0 dX1_isPerson_5 rfl rfl ?_
    refine J_getI hX dX1_isPerson_6 fl_X1_63 (city_ob hk0) rfl ?_
    rcases ifE hf with ⟨c_2, hf⟩ | ⟨c_2, hf⟩
    · refine J_icmp_geF hX 22 dX1_isPerson_9 rfl c_2 ?_
      refine J_iload_n hX 1 dX1_isPerson_12 rfl rfl ?_
      refine J_bipush hX 6 dX1_isPerson_13 rfl ?_
      rcases ifE hf with ⟨c_3, hf⟩ | ⟨c_3, hf⟩
      · refine J_icmp_geF hX 22 dX1_isPerson_15 rfl c_3 ?_
        refine J_iconst hX 1 dX1_isPerson_18 rfl ?_
        refine J_goto hX 23 dX1_isPerson_19 rfl ?_
        exact E_Zt hX dX1_isPerson_23 rfl hf
      · refine J_icmp_geT hX 22 dX1_isPerson_15 rfl c_3 ?_
        refine J_iconst hX 0 dX1_isPerson_22 rfl ?_
        exact E_Zt hX dX1_isPerson_23 rfl hf
    · refine J_icmp_geT hX 22 dX1_isPerson_9 rfl c_2 ?_
      refine J_iconst hX 0 dX1_isPerson_22 rfl ?_
      exact E_Zt hX dX1_isPerson_23 rfl hf
set_option maxRecDepth 100000 in
set_option maxHeartbeats 200000 in
theorem C_X1_isPerson {G : GX} (hG : GOk G) {k0 : Nat} {x1 : Int32} {h : Hp} {r : Bool} (hk0 : isCity k0) (hf : f_X1_isPerson k0 x1 h = r) : Ctr G 2 yX1_isPerson cX1_isPerson 2 (some .boolean) [.ref k0, .int x1] h ((.inl (some (.int (b2i r))), h)) :=
  Ctr_of hG RX1 rfl (by decide) rfl (fun X _ hdx hX => T_X1_isPerson_0 hX hdx k0 hk0 x1 h hf)
theorem dX1_addHouse_0 : decode cX1_addHouse 0 = .ok (.aload_n 0, 1) := by decide +kernel
theorem dX1_addHouse_1 : decode cX1_addHouse 1 = .ok (.getfield 60, 3) := by decide +kernel
theorem dX1_addHouse_4 : decode cX1_addHouse 4 = .ok (.istore 5, 2) := by decide +kernel
theorem dX1_addHouse_6 : decode cX1_addHouse 6 = .ok (.iload 5, 2) := by decide +kernel
theorem dX1_addHouse_8 : decode cX1_addHouse 8 = .ok (.ifCond .lt 10, 3) := by decide +kernel
theorem dX1_addHouse_11 : decode cX1_addHouse 11 = .ok (.iload 5, 2) := by decide +kernel
theorem dX1_addHouse_13 : decode cX1_addHouse 13 = .ok (.bipush 8, 2) := by decide +kernel
theorem dX1_addHouse_15 : decode cX1_addHouse 15 = .ok (.if_icmp .lt 5, 3) := by decide +kernel
theorem dX1_addHouse_18 : decode cX1_addHouse 18 = .ok (.iconst (-1), 1) := by decide +kernel
theorem dX1_addHouse_19 : decode cX1_addHouse 19 = .ok (.ireturn, 1) := by decide +kernel
theorem dX1_addHouse_20 : decode cX1_addHouse 20 = .ok (.aload_n 0, 1) := by decide +kernel
theorem dX1_addHouse_21 : decode cX1_addHouse 21 = .ok (.getfield 9, 3) := by decide +kernel
theorem dX1_addHouse_24 : decode cX1_addHouse 24 = .ok (.iload 5, 2) := by decide +kernel
theorem dX1_addHouse_26 : decode cX1_addHouse 26 = .ok (.iload_n 1, 1) := by decide +kernel
theorem dX1_addHouse_27 : decode cX1_addHouse 27 = .ok (.iastore, 1) := by decide +kernel
theorem dX1_addHouse_28 : decode cX1_addHouse 28 = .ok (.aload_n 0, 1) := by decide +kernel
theorem dX1_addHouse_29 : decode cX1_addHouse 29 = .ok (.getfield 15, 3) := by decide +kernel
theorem dX1_addHouse_32 : decode cX1_addHouse 32 = .ok (.iload 5, 2) := by decide +kernel
theorem dX1_addHouse_34 : decode cX1_addHouse 34 = .ok (.iload_n 2, 1) := by decide +kernel
theorem dX1_addHouse_35 : decode cX1_addHouse 35 = .ok (.iastore, 1) := by decide +kernel
theorem dX1_addHouse_36 : decode cX1_addHouse 36 = .ok (.aload_n 0, 1) := by decide +kernel
theorem dX1_addHouse_37 : decode cX1_addHouse 37 = .ok (.getfield 18, 3) := by decide +kernel
theorem dX1_addHouse_40 : decode cX1_addHouse 40 = .ok (.iload 5, 2) := by decide +kernel
theorem dX1_addHouse_42 : decode cX1_addHouse 42 = .ok (.iload_n 3, 1) := by decide +kernel
theorem dX1_addHouse_43 : decode cX1_addHouse 43 = .ok (.iastore, 1) := by decide +kernel
theorem dX1_addHouse_44 : decode cX1_addHouse 44 = .ok (.aload_n 0, 1) := by decide +kernel
theorem dX1_addHouse_45 : decode cX1_addHouse 45 = .ok (.getfield 21, 3) := by decide +kernel
theorem dX1_addHouse_48 : decode cX1_addHouse 48 = .ok (.iload 5, 2) := by decide +kernel
theorem dX1_addHouse_50 : decode cX1_addHouse 50 = .ok (.iload 4, 2) := by decide +kernel
theorem dX1_addHouse_52 : decode cX1_addHouse 52 = .ok (.iastore, 1) := by decide +kernel
theorem dX1_addHouse_53 : decode cX1_addHouse 53 = .ok (.aload_n 0, 1) := by decide +kernel
theorem dX1_addHouse_54 : decode cX1_addHouse 54 = .ok (.dup, 1) := by decide +kernel
theorem dX1_addHouse_55 : decode cX1_addHouse 55 = .ok (.getfield 66, 3) := by decide +kernel
theorem dX1_addHouse_58 : decode cX1_addHouse 58 = .ok (.iconst 1, 1) := by decide +kernel
theorem dX1_addHouse_59 : decode cX1_addHouse 59 = .ok (.iload 5, 2) := by decide +kernel
theorem dX1_addHouse_61 : decode cX1_addHouse 61 = .ok (.ishl, 1) := by decide +kernel
theorem dX1_addHouse_62 : decode cX1_addHouse 62 = .ok (.ior, 1) := by decide +kernel
theorem dX1_addHouse_63 : decode cX1_addHouse 63 = .ok (.putfield 66, 3) := by decide +kernel
theorem dX1_addHouse_66 : decode cX1_addHouse 66 = .ok (.aload_n 0, 1) := by decide +kernel
theorem dX1_addHouse_67 : decode cX1_addHouse 67 = .ok (.dup, 1) := by decide +kernel
theorem dX1_addHouse_68 : decode cX1_addHouse 68 = .ok (.getfield 60, 3) := by decide +kernel
theorem dX1_addHouse_71 : decode cX1_addHouse 71 = .ok (.iconst 1, 1) := by decide +kernel
theorem dX1_addHouse_72 : decode cX1_addHouse 72 = .ok (.iadd, 1) := by decide +kernel
theorem dX1_addHouse_73 : decode cX1_addHouse 73 = .ok (.putfield 60, 3) := by decide +kernel
theorem dX1_addHouse_76 : decode cX1_addHouse 76 = .ok (.iload 5, 2) := by decide +kernel
theorem dX1_addHouse_78 : decode cX1_addHouse 78 = .ok (.ireturn, 1) := by decide +kernel
set_option maxRecDepth 100000 in
set_option maxHeartbeats 200000 in
theorem T_X1_addHouse_0 {X : CX} (hX : Ok X cX1_addHouse 6 RX1 (some .int)) (hdx : dX X = 2) {r : Int32 × Hp} (k0 : Nat) (hk0 : isCity k0) (x1 : Int32) (x2 : Int32) (x3 : Int32) (x4 : Int32) (h : Hp) (hf : f_X1_addHouse k0 x1 x2 x3 x4 h = some r) : J X ((.inl (some (.int r.1)), r.2)) 0 [(0, .ref k0), (1, .int x1), (2, .int x2), (3, .int x3), (4, .int x4)] [] h := by
  unfold f_X1_addHouse at hf
  refine J_aload_n hX 0 dX1_addHouse_0 rfl rfl ?_
  refine J_getI hX dX1_addHouse_1 fl_X1_60 (city_ob hk0) rfl ?_
  refine J_istore hX [(5, .int (h k0 9)), (0, .ref k0), (1, .int x1), (2, .int x2), (3, .int x3), (4, .int x4)] dX1_addHouse_4 rfl rfl ?_
  refine J_iload hX 0 dX1_addHouse_6 rfl ?_
  rcases ifE hf with ⟨c_1, hf⟩ | ⟨c_1, hf⟩
  · refine J_if_ltT hX 18 dX1_addHouse_8 rfl c_1 ?_
    refine J_iconst hX (-1) dX1_addHouse_18 rfl ?_
    exact E_Ii hX dX1_addHouse_19 hf
  · refine J_if_ltF hX 18 dX1_addHouse_8 rfl c_1 ?_
    refine J_iload hX 0 dX1_addHouse_11 rfl ?_
    refine J_bipush hX 8 dX1_addHouse_13 rfl ?_
    rcases ifE hf with ⟨c_2, hf⟩ | ⟨c_2, hf⟩
    · refine J_icmp_ltT hX 20 dX1_addHouse_15 rfl c_2 ?_
      refine J_aload_n hX 1 dX1_addHouse_20 rfl rfl ?_
      refine J_getR hX (k0 + 1) dX1_addHouse_21 fl_X1_9 (city_ob hk0) rfl rfl ?_
      refine J_iload hX 0 dX1_addHouse_24 rfl ?_
      refine J_iload_n hX 2 dX1_addHouse_26 rfl rfl ?_
      obtain ⟨g_3, hf⟩ := gdE hf
      obtain ⟨h_4, e_5, hf⟩ := bndE hf
      refine J_ast hX ((h k0 9).toNatClampNeg) x1 dX1_addHouse_27 (city_ar 1 8 (by decide) hk0) (Or.inl ⟨rfl, rfl, rfl⟩) g_3 rfl ?_
      refine J_nmh e_5 ?_
      refine J_aload_n hX 1 dX1_addHouse_28 rfl rfl ?_
      refine J_getR hX (k0 + 2) dX1_addHouse_29 fl_X1_15 (city_ob hk0) rfl rfl ?_
      refine J_iload hX 0 dX1_addHouse_32 rfl ?_
      refine J_iload_n hX 3 dX1_addHouse_34 rfl rfl ?_
      obtain ⟨g_6, hf⟩ := gdE hf
      obtain ⟨h_7, e_8, hf⟩ := bndE hf
      refine J_ast hX ((h k0 9).toNatClampNeg) x2 dX1_addHouse_35 (city_ar 2 8 (by decide) hk0) (Or.inl ⟨rfl, rfl, rfl⟩) g_6 rfl ?_
      refine J_nmh e_8 ?_
      refine J_aload_n hX 1 dX1_addHouse_36 rfl rfl ?_
      refine J_getR hX (k0 + 3) dX1_addHouse_37 fl_X1_18 (city_ob hk0) rfl rfl ?_
      refine J_iload hX 0 dX1_addHouse_40 rfl ?_
      refine J_iload_n hX 4 dX1_addHouse_42 rfl rfl ?_
      obtain ⟨g_9, hf⟩ := gdE hf
      obtain ⟨h_10, e_11, hf⟩ := bndE hf
      refine J_ast hX ((h k0 9).toNatClampNeg) x3 dX1_addHouse_43 (city_ar 3 8 (by decide) hk0) (Or.inl ⟨rfl, rfl, rfl⟩) g_9 rfl ?_
      refine J_nmh e_11 ?_
      refine J_aload_n hX 1 dX1_addHouse_44 rfl rfl ?_
      refine J_getR hX (k0 + 4) dX1_addHouse_45 fl_X1_21 (city_ob hk0) rfl rfl ?_
      refine J_iload hX 0 dX1_addHouse_48 rfl ?_
      refine J_iload hX 5 dX1_addHouse_50 rfl ?_
      obtain ⟨g_12, hf⟩ := gdE hf
      obtain ⟨h_13, e_14, hf⟩ := bndE hf
      refine J_ast hX ((h k0 9).toNatClampNeg) x4 dX1_addHouse_52 (city_ar 4 8 (by decide) hk0) (Or.inl ⟨rfl, rfl, rfl⟩) g_12 rfl ?_
      refine J_nmh e_14 ?_
      refine J_aload_n hX 1 dX1_addHouse_53 rfl rfl ?_
      refine J_dup hX dX1_addHouse_54 rfl ?_
      refine J_getI hX dX1_addHouse_55 fl_X1_66 (city_ob hk0) rfl ?_
      refine J_iconst hX 1 dX1_addHouse_58 rfl ?_
      refine J_iload hX 0 dX1_addHouse_59 rfl ?_
      refine J_ishl hX dX1_addHouse_61 ?_
      refine J_ior hX dX1_addHouse_62 ?_
      obtain ⟨h_15, e_16, hf⟩ := bndE hf
      refine J_putI hX dX1_addHouse_63 fl_X1_66 fw_1_11 (city_ob hk0) rfl rfl rfl ?_
      refine J_nmh e_16 ?_
      refine J_aload_n hX 1 dX1_addHouse_66 rfl rfl ?_
      refine J_dup hX dX1_addHouse_67 rfl ?_
      refine J_getI hX dX1_addHouse_68 fl_X1_60 (city_ob hk0) rfl ?_
      refine J_iconst hX 1 dX1_addHouse_71 rfl ?_
      refine J_iadd hX dX1_addHouse_72 ?_
      obtain ⟨h_17, e_18, hf⟩ := bndE hf
      refine J_putI hX dX1_addHouse_73 fl_X1_60 fw_1_9 (city_ob hk0) rfl rfl rfl ?_
      refine J_nmh e_18 ?_
      refine J_iload hX 0 dX1_addHouse_76 rfl ?_
      exact E_Ii hX dX1_addHouse_78 hf
    · refine J_icmp_ltF hX 20 dX1_addHouse_15 rfl c_2 ?_
      refine J_iconst hX (-1) dX1_addHouse_18 rfl ?_
      exact E_Ii hX dX1_addHouse_19 hf
set_option maxRecDepth 100000 in
set_option maxHeartbeats 200000 in
theorem C_X1_addHouse {G : GX} (hG : GOk G) {k0 : Nat} {x1 : Int32} {x2 : Int32} {x3 : Int32} {x4 : Int32} {h : Hp} {r : Int32 × Hp} (hk0 : isCity k0) (hf : f_X1_addHouse k0 x1 x2 x3 x4 h = some r) : Ctr G 2 yX1_addHouse cX1_addHouse 6 (some .int) [.ref k0, .int x1, .int x2, .int x3, .int x4] h ((.inl (some (.int r.1)), r.2)) :=
  Ctr_of hG RX1 rfl (by decide) rfl (fun X _ hdx hX => T_X1_addHouse_0 hX hdx k0 hk0 x1 x2 x3 x4 h hf)
theorem dX1_addPerson_0 : decode cX1_addPerson 0 = .ok (.aload_n 0, 1) := by decide +kernel
theorem dX1_addPerson_1 : decode cX1_addPerson 1 = .ok (.getfield 63, 3) := by decide +kernel
theorem dX1_addPerson_4 : decode cX1_addPerson 4 = .ok (.istore 4, 2) := by decide +kernel
theorem dX1_addPerson_6 : decode cX1_addPerson 6 = .ok (.iload 4, 2) := by decide +kernel
theorem dX1_addPerson_8 : decode cX1_addPerson 8 = .ok (.ifCond .lt 10, 3) := by decide +kernel
theorem dX1_addPerson_11 : decode cX1_addPerson 11 = .ok (.iload 4, 2) := by decide +kernel
theorem dX1_addPerson_13 : decode cX1_addPerson 13 = .ok (.bipush 6, 2) := by decide +kernel
theorem dX1_addPerson_15 : decode cX1_addPerson 15 = .ok (.if_icmp .lt 5, 3) := by decide +kernel
theorem dX1_addPerson_18 : decode cX1_addPerson 18 = .ok (.iconst 0, 1) := by decide +kernel
theorem dX1_addPerson_19 : decode cX1_addPerson 19 = .ok (.ireturn, 1) := by decide +kernel
theorem dX1_addPerson_20 : decode cX1_addPerson 20 = .ok (.aload_n 0, 1) := by decide +kernel
theorem dX1_addPerson_21 : decode cX1_addPerson 21 = .ok (.getfield 27, 3) := by decide +kernel
theorem dX1_addPerson_24 : decode cX1_addPerson 24 = .ok (.iload 4, 2) := by decide +kernel
theorem dX1_addPerson_26 : decode cX1_addPerson 26 = .ok (.iload_n 1, 1) := by decide +kernel
theorem dX1_addPerson_27 : decode cX1_addPerson 27 = .ok (.iastore, 1) := by decide +kernel
theorem dX1_addPerson_28 : decode cX1_addPerson 28 = .ok (.aload_n 0, 1) := by decide +kernel
theorem dX1_addPerson_29 : decode cX1_addPerson 29 = .ok (.getfield 30, 3) := by decide +kernel
theorem dX1_addPerson_32 : decode cX1_addPerson 32 = .ok (.iload 4, 2) := by decide +kernel
theorem dX1_addPerson_34 : decode cX1_addPerson 34 = .ok (.iload_n 2, 1) := by decide +kernel
theorem dX1_addPerson_35 : decode cX1_addPerson 35 = .ok (.iastore, 1) := by decide +kernel
theorem dX1_addPerson_36 : decode cX1_addPerson 36 = .ok (.aload_n 0, 1) := by decide +kernel
theorem dX1_addPerson_37 : decode cX1_addPerson 37 = .ok (.getfield 33, 3) := by decide +kernel
theorem dX1_addPerson_40 : decode cX1_addPerson 40 = .ok (.iload 4, 2) := by decide +kernel
theorem dX1_addPerson_42 : decode cX1_addPerson 42 = .ok (.iload_n 3, 1) := by decide +kernel
theorem dX1_addPerson_43 : decode cX1_addPerson 43 = .ok (.iastore, 1) := by decide +kernel
theorem dX1_addPerson_44 : decode cX1_addPerson 44 = .ok (.aload_n 0, 1) := by decide +kernel
theorem dX1_addPerson_45 : decode cX1_addPerson 45 = .ok (.dup, 1) := by decide +kernel
theorem dX1_addPerson_46 : decode cX1_addPerson 46 = .ok (.getfield 63, 3) := by decide +kernel
theorem dX1_addPerson_49 : decode cX1_addPerson 49 = .ok (.iconst 1, 1) := by decide +kernel
theorem dX1_addPerson_50 : decode cX1_addPerson 50 = .ok (.iadd, 1) := by decide +kernel
theorem dX1_addPerson_51 : decode cX1_addPerson 51 = .ok (.putfield 63, 3) := by decide +kernel
theorem dX1_addPerson_54 : decode cX1_addPerson 54 = .ok (.iconst 1, 1) := by decide +kernel
theorem dX1_addPerson_55 : decode cX1_addPerson 55 = .ok (.ireturn, 1) := by decide +kernel
set_option maxRecDepth 100000 in
set_option maxHeartbeats 200000 in
theorem T_X1_addPerson_0 {X : CX} (hX : Ok X cX1_addPerson 5 RX1 (some .boolean)) (hdx : dX X = 2) {r : Bool × Hp} (k0 : Nat) (hk0 : isCity k0) (x1 : Int32) (x2 : Int32) (x3 : Int32) (h : Hp) (hf : f_X1_addPerson k0 x1 x2 x3 h = some r) : J X ((.inl (some (.int (b2i r.1))), r.2)) 0 [(0, .ref k0), (1, .int x1), (2, .int x2), (3, .int x3)] [] h := by
  unfold f_X1_addPerson at hf
  refine J_aload_n hX 0 dX1_addPerson_0 rfl rfl ?_
  refine J_getI hX dX1_addPerson_1 fl_X1_63 (city_ob hk0) rfl ?_
  refine J_istore hX [(4, .int (h k0 10)), (0, .ref k0), (1, .int x1), (2, .int x2), (3, .int x3)] dX1_addPerson_4 rfl rfl ?_
  refine J_iload hX 0 dX1_addPerson_6 rfl ?_
  rcases ifE hf with ⟨c_1, hf⟩ | ⟨c_1, hf⟩
  · refine J_if_ltT hX 18 dX1_addPerson_8 rfl c_1 ?_
    refine J_iconst hX 0 dX1_addPerson_18 rfl ?_
    exact E_Zi hX dX1_addPerson_19 rfl hf
  · refine J_if_ltF hX 18 dX1_addPerson_8 rfl c_1 ?_
    refine J_iload hX 0 dX1_addPerson_11 rfl ?_
    refine J_bipush hX 6 dX1_addPerson_13 rfl ?_
    rcases ifE hf with ⟨c_2, hf⟩ | ⟨c_2, hf⟩
    · refine J_icmp_ltT hX 20 dX1_addPerson_15 rfl c_2 ?_
      refine J_aload_n hX 1 dX1_addPerson_20 rfl rfl ?_
      refine J_getR hX (k0 + 6) dX1_addPerson_21 fl_X1_27 (city_ob hk0) rfl rfl ?_
      refine J_iload hX 0 dX1_addPerson_24 rfl ?_
      refine J_iload_n hX 2 dX1_addPerson_26 rfl rfl ?_
      obtain ⟨g_3, hf⟩ := gdE hf
      obtain ⟨h_4, e_5, hf⟩ := bndE hf
      refine J_ast hX ((h k0 10).toNatClampNeg) x1 dX1_addPerson_27 (city_ar 6 6 (by decide) hk0) (Or.inl ⟨rfl, rfl, rfl⟩) g_3 rfl ?_
      refine J_nmh e_5 ?_
      refine J_aload_n hX 1 dX1_addPerson_28 rfl rfl ?_
      refine J_getR hX (k0 + 7) dX1_addPerson_29 fl_X1_30 (city_ob hk0) rfl rfl ?_
      refine J_iload hX 0 dX1_addPerson_32 rfl ?_
      refine J_iload_n hX 3 dX1_addPerson_34 rfl rfl ?_
      obtain ⟨g_6, hf⟩ := gdE hf
      obtain ⟨h_7, e_8, hf⟩ := bndE hf
      refine J_ast hX ((h k0 10).toNatClampNeg) x2 dX1_addPerson_35 (city_ar 7 6 (by decide) hk0) (Or.inl ⟨rfl, rfl, rfl⟩) g_6 rfl ?_
      refine J_nmh e_8 ?_
      refine J_aload_n hX 1 dX1_addPerson_36 rfl rfl ?_
      refine J_getR hX (k0 + 8) dX1_addPerson_37 fl_X1_33 (city_ob hk0) rfl rfl ?_
      refine J_iload hX 0 dX1_addPerson_40 rfl ?_
      refine J_iload_n hX 4 dX1_addPerson_42 rfl rfl ?_
      obtain ⟨g_9, hf⟩ := gdE hf
      obtain ⟨h_10, e_11, hf⟩ := bndE hf
      refine J_ast hX ((h k0 10).toNatClampNeg) x3 dX1_addPerson_43 (city_ar 8 6 (by decide) hk0) (Or.inl ⟨rfl, rfl, rfl⟩) g_9 rfl ?_
      refine J_nmh e_11 ?_
      refine J_aload_n hX 1 dX1_addPerson_44 rfl rfl ?_
      refine J_dup hX dX1_addPerson_45 rfl ?_
      refine J_getI hX dX1_addPerson_46 fl_X1_63 (city_ob hk0) rfl ?_
      refine J_iconst hX 1 dX1_addPerson_49 rfl ?_
      refine J_iadd hX dX1_addPerson_50 ?_
      obtain ⟨h_12, e_13, hf⟩ := bndE hf
      refine J_putI hX dX1_addPerson_51 fl_X1_63 fw_1_10 (city_ob hk0) rfl rfl rfl ?_
      refine J_nmh e_13 ?_
      refine J_iconst hX 1 dX1_addPerson_54 rfl ?_
      exact E_Zi hX dX1_addPerson_55 rfl hf
    · refine J_icmp_ltF hX 20 dX1_addPerson_15 rfl c_2 ?_
      refine J_iconst hX 0 dX1_addPerson_18 rfl ?_
      exact E_Zi hX dX1_addPerson_19 rfl hf
set_option maxRecDepth 100000 in
set_option maxHeartbeats 200000 in
theorem C_X1_addPerson {G : GX} (hG : GOk G) {k0 : Nat} {x1 : Int32} {x2 : Int32} {x3 : Int32} {h : Hp} {r : Bool × Hp} (hk0 : isCity k0) (hf : f_X1_addPerson k0 x1 x2 x3 h = some r) : Ctr G 2 yX1_addPerson cX1_addPerson 5 (some .boolean) [.ref k0, .int x1, .int x2, .int x3] h ((.inl (some (.int (b2i r.1))), r.2)) :=
  Ctr_of hG RX1 rfl (by decide) rfl (fun X _ hdx hX => T_X1_addPerson_0 hX hdx k0 hk0 x1 x2 x3 h hf)
theorem dX1_marry_0 : decode cX1_marry 0 = .ok (.aload_n 0, 1) := by decide +kernel
theorem dX1_marry_1 : decode cX1_marry 1 = .ok (.iload_n 1, 1) := by decide +kernel
theorem dX1_marry_2 : decode cX1_marry 2 = .ok (.iload_n 2, 1) := by decide +kernel
theorem dX1_marry_3 : decode cX1_marry 3 = .ok (.bipush 9, 2) := by decide +kernel
theorem dX1_marry_5 : decode cX1_marry 5 = .ok (.aload_n 0, 1) := by decide +kernel
theorem dX1_marry_6 : decode cX1_marry 6 = .ok (.iload_n 1, 1) := by decide +kernel
theorem dX1_marry_7 : decode cX1_marry 7 = .ok (.iload_n 2, 1) := by decide +kernel
theorem dX1_marry_8 : decode cX1_marry 8 = .ok (.invokevirtual 85, 3) := by decide +kernel
theorem dX1_marry_11 : decode cX1_marry 11 = .ok (.iconst 1, 1) := by decide +kernel
theorem dX1_marry_12 : decode cX1_marry 12 = .ok (.iadd, 1) := by decide +kernel
theorem dX1_marry_13 : decode cX1_marry 13 = .ok (.invokestatic 89, 3) := by decide +kernel
theorem dX1_marry_16 : decode cX1_marry 16 = .ok (.invokevirtual 94, 3) := by decide +kernel
theorem dX1_marry_19 : decode cX1_marry 19 = .ok (.aload_n 0, 1) := by decide +kernel
theorem dX1_marry_20 : decode cX1_marry 20 = .ok (.iload_n 2, 1) := by decide +kernel
theorem dX1_marry_21 : decode cX1_marry 21 = .ok (.iload_n 1, 1) := by decide +kernel
theorem dX1_marry_22 : decode cX1_marry 22 = .ok (.bipush 9, 2) := by decide +kernel
theorem dX1_marry_24 : decode cX1_marry 24 = .ok (.aload_n 0, 1) := by decide +kernel
theorem dX1_marry_25 : decode cX1_marry 25 = .ok (.iload_n 2, 1) := by decide +kernel
theorem dX1_marry_26 : decode cX1_marry 26 = .ok (.iload_n 1, 1) := by decide +kernel
theorem dX1_marry_27 : decode cX1_marry 27 = .ok (.invokevirtual 85, 3) := by decide +kernel
theorem dX1_marry_30 : decode cX1_marry 30 = .ok (.iconst 1, 1) := by decide +kernel
theorem dX1_marry_31 : decode cX1_marry 31 = .ok (.iadd, 1) := by decide +kernel
theorem dX1_marry_32 : decode cX1_marry 32 = .ok (.invokestatic 89, 3) := by decide +kernel
theorem dX1_marry_35 : decode cX1_marry 35 = .ok (.invokevirtual 94, 3) := by decide +kernel
theorem dX1_marry_38 : decode cX1_marry 38 = .ok (.return_, 1) := by decide +kernel
set_option maxRecDepth 100000 in
set_option maxHeartbeats 200000 in
theorem T_X1_marry_0 {X : CX} (hX : Ok X cX1_marry 3 RX1 none) (hdx : dX X = 4) {r : Hp} (k0 : Nat) (hk0 : isCity k0) (x1 : Int32) (x2 : Int32) (h : Hp) (hf : f_X1_marry k0 x1 x2 h = some r) : J X ((.inl none, r)) 0 [(0, .ref k0), (1, .int x1), (2, .int x2)] [] h := by
  unfold f_X1_marry at hf
  refine J_aload_n hX 0 dX1_marry_0 rfl rfl ?_
  refine J_iload_n hX 1 dX1_marry_1 rfl rfl ?_
  refine J_iload_n hX 2 dX1_marry_2 rfl rfl ?_
  refine J_bipush hX 9 dX1_marry_3 rfl ?_
  refine J_aload_n hX 0 dX1_marry_5 rfl rfl ?_
  refine J_iload_n hX 1 dX1_marry_6 rfl rfl ?_
  refine J_iload_n hX 2 dX1_marry_7 rfl rfl ?_
  obtain ⟨r_1, e_2, hf⟩ := bdE hf
  refine V_1 hX [.int x1, .int x2] dX1_marry_8 cw_X1_85 (city_ob hk0) rfl (C_X1_partOf (okG hX) hk0 e_2) (ltD hdx rfl) rfl rfl rfl rfl ?_
  refine J_iconst hX 1 dX1_marry_11 rfl ?_
  refine J_iadd hX dX1_marry_12 ?_
  refine J_min hX dX1_marry_13 mw_X1_89 (ltD hdx rfl) rfl ?_
  obtain ⟨r_3, e_4, hf⟩ := bdE hf
  refine V_0 hX [.int x1, .int x2, .int (imin 9 (r_1 + 1))] dX1_marry_16 cw_X1_94 (city_ob hk0) rfl (C_X1_setPart (okG hX) hk0 e_4) (ltD hdx rfl) rfl rfl rfl rfl ?_
  refine J_aload_n hX 0 dX1_marry_19 rfl rfl ?_
  refine J_iload_n hX 2 dX1_marry_20 rfl rfl ?_
  refine J_iload_n hX 1 dX1_marry_21 rfl rfl ?_
  refine J_bipush hX 9 dX1_marry_22 rfl ?_
  refine J_aload_n hX 0 dX1_marry_24 rfl rfl ?_
  refine J_iload_n hX 2 dX1_marry_25 rfl rfl ?_
  refine J_iload_n hX 1 dX1_marry_26 rfl rfl ?_
  obtain ⟨r_5, e_6, hf⟩ := bdE hf
  refine V_1 hX [.int x2, .int x1] dX1_marry_27 cw_X1_85 (city_ob hk0) rfl (C_X1_partOf (okG hX) hk0 e_6) (ltD hdx rfl) rfl rfl rfl rfl ?_
  refine J_iconst hX 1 dX1_marry_30 rfl ?_
  refine J_iadd hX dX1_marry_31 ?_
  refine J_min hX dX1_marry_32 mw_X1_89 (ltD hdx rfl) rfl ?_
  obtain ⟨r_7, e_8, hf⟩ := bdE hf
  refine V_0 hX [.int x2, .int x1, .int (imin 9 (r_5 + 1))] dX1_marry_35 cw_X1_94 (city_ob hk0) rfl (C_X1_setPart (okG hX) hk0 e_8) (ltD hdx rfl) rfl rfl rfl rfl ?_
  exact E_Vi hX dX1_marry_38 hf
set_option maxRecDepth 100000 in
set_option maxHeartbeats 200000 in
theorem C_X1_marry {G : GX} (hG : GOk G) {k0 : Nat} {x1 : Int32} {x2 : Int32} {h : Hp} {r : Hp} (hk0 : isCity k0) (hf : f_X1_marry k0 x1 x2 h = some r) : Ctr G 4 yX1_marry cX1_marry 3 none [.ref k0, .int x1, .int x2] h ((.inl none, r)) :=
  Ctr_of hG RX1 rfl (by decide) rfl (fun X _ hdx hX => T_X1_marry_0 hX hdx k0 hk0 x1 x2 h hf)
theorem dX1_cutIvy_0 : decode cX1_cutIvy 0 = .ok (.aload_n 0, 1) := by decide +kernel
theorem dX1_cutIvy_1 : decode cX1_cutIvy 1 = .ok (.iload_n 1, 1) := by decide +kernel
theorem dX1_cutIvy_2 : decode cX1_cutIvy 2 = .ok (.invokevirtual 81, 3) := by decide +kernel
theorem dX1_cutIvy_5 : decode cX1_cutIvy 5 = .ok (.ifCond .ne 5, 3) := by decide +kernel
theorem dX1_cutIvy_8 : decode cX1_cutIvy 8 = .ok (.iconst 0, 1) := by decide +kernel
theorem dX1_cutIvy_9 : decode cX1_cutIvy 9 = .ok (.ireturn, 1) := by decide +kernel
theorem dX1_cutIvy_10 : decode cX1_cutIvy 10 = .ok (.aload_n 0, 1) := by decide +kernel
theorem dX1_cutIvy_11 : decode cX1_cutIvy 11 = .ok (.getfield 18, 3) := by decide +kernel
theorem dX1_cutIvy_14 : decode cX1_cutIvy 14 = .ok (.iload_n 1, 1) := by decide +kernel
theorem dX1_cutIvy_15 : decode cX1_cutIvy 15 = .ok (.iaload, 1) := by decide +kernel
theorem dX1_cutIvy_16 : decode cX1_cutIvy 16 = .ok (.istore_n 2, 1) := by decide +kernel
theorem dX1_cutIvy_17 : decode cX1_cutIvy 17 = .ok (.aload_n 0, 1) := by decide +kernel
theorem dX1_cutIvy_18 : decode cX1_cutIvy 18 = .ok (.getfield 18, 3) := by decide +kernel
theorem dX1_cutIvy_21 : decode cX1_cutIvy 21 = .ok (.iload_n 1, 1) := by decide +kernel
theorem dX1_cutIvy_22 : decode cX1_cutIvy 22 = .ok (.iconst 0, 1) := by decide +kernel
theorem dX1_cutIvy_23 : decode cX1_cutIvy 23 = .ok (.iastore, 1) := by decide +kernel
theorem dX1_cutIvy_24 : decode cX1_cutIvy 24 = .ok (.iload_n 2, 1) := by decide +kernel
theorem dX1_cutIvy_25 : decode cX1_cutIvy 25 = .ok (.ireturn, 1) := by decide +kernel
set_option maxRecDepth 100000 in
set_option maxHeartbeats 200000 in
theorem T_X1_cutIvy_0 {X : CX} (hX : Ok X cX1_cutIvy 3 RX1 (some .int)) (hdx : dX X = 3) {r : Int32 × Hp} (k0 : Nat) (hk0 : isCity k0) (x1 : Int32) (h : Hp) (hf : f_X1_cutIvy k0 x1 h = some r) : J X ((.inl (some (.int r.1)), r.2)) 0 [(0, .ref k0), (1, .int x1)] [] h := by
  unfold f_X1_cutIvy at hf
  refine J_aload_n hX 0 dX1_cutIvy_0 rfl rfl ?_
  refine J_iload_n hX 1 dX1_cutIvy_1 rfl rfl ?_
  refine V_1 hX [.int x1] dX1_cutIvy_2 cw_X1_81 (city_ob hk0) rfl (C_X1_isHouse (okG hX) hk0 rfl) (ltD hdx rfl) rfl rfl rfl rfl ?_
  rcases ifE hf with ⟨c_1, hf⟩ | ⟨c_1, hf⟩
  · refine J_if_neT hX 10 dX1_cutIvy_5 rfl (b2iT c_1) ?_
    refine J_aload_n hX 0 dX1_cutIvy_10 rfl rfl ?_
    refine J_getR hX (k0 + 3) dX1_cutIvy_11 fl_X1_18 (city_ob hk0) rfl rfl ?_
    refine J_iload_n hX 1 dX1_cutIvy_14 rfl rfl ?_
    obtain ⟨g_2, hf⟩ := gdE hf
    refine J_ald hX x1.toNatClampNeg dX1_cutIvy_15 (city_ar 3 8 (by decide) hk0) (Or.inl ⟨rfl, rfl⟩) g_2 rfl ?_
    obtain ⟨x2_3, e_4, hf⟩ := bndE hf
    refine J_nm e_4 ?_
    refine J_istore_n hX [(2, .int x2_3), (0, .ref k0), (1, .int x1)] dX1_cutIvy_16 rfl rfl rfl ?_
    refine J_aload_n hX 1 dX1_cutIvy_17 rfl rfl ?_
    refine J_getR hX (k0 + 3) dX1_cutIvy_18 fl_X1_18 (city_ob hk0) rfl rfl ?_
    refine J_iload_n hX 2 dX1_cutIvy_21 rfl rfl ?_
    refine J_iconst hX 0 dX1_cutIvy_22 rfl ?_
    obtain ⟨g_5, hf⟩ := gdE hf
    obtain ⟨h_6, e_7, hf⟩ := bndE hf
    refine J_ast hX x1.toNatClampNeg 0 dX1_cutIvy_23 (city_ar 3 8 (by decide) hk0) (Or.inl ⟨rfl, rfl, rfl⟩) g_5 rfl ?_
    refine J_nmh e_7 ?_
    refine J_iload_n hX 0 dX1_cutIvy_24 rfl rfl ?_
    exact E_Ii hX dX1_cutIvy_25 hf
  · refine J_if_neF hX 10 dX1_cutIvy_5 rfl (b2iF c_1) ?_
    refine J_iconst hX 0 dX1_cutIvy_8 rfl ?_
    exact E_Ii hX dX1_cutIvy_9 hf
set_option maxRecDepth 100000 in
set_option maxHeartbeats 200000 in
theorem C_X1_cutIvy {G : GX} (hG : GOk G) {k0 : Nat} {x1 : Int32} {h : Hp} {r : Int32 × Hp} (hk0 : isCity k0) (hf : f_X1_cutIvy k0 x1 h = some r) : Ctr G 3 yX1_cutIvy cX1_cutIvy 3 (some .int) [.ref k0, .int x1] h ((.inl (some (.int r.1)), r.2)) :=
  Ctr_of hG RX1 rfl (by decide) rfl (fun X _ hdx hX => T_X1_cutIvy_0 hX hdx k0 hk0 x1 h hf)
theorem dX1_priceOf_0 : decode cX1_priceOf 0 = .ok (.aload_n 0, 1) := by decide +kernel
theorem dX1_priceOf_1 : decode cX1_priceOf 1 = .ok (.iload_n 1, 1) := by decide +kernel
theorem dX1_priceOf_2 : decode cX1_priceOf 2 = .ok (.invokevirtual 81, 3) := by decide +kernel
theorem dX1_priceOf_5 : decode cX1_priceOf 5 = .ok (.ifCond .eq 35, 3) := by decide +kernel
theorem dX1_priceOf_8 : decode cX1_priceOf 8 = .ok (.iconst 0, 1) := by decide +kernel
theorem dX1_priceOf_9 : decode cX1_priceOf 9 = .ok (.aload_n 0, 1) := by decide +kernel
theorem dX1_priceOf_10 : decode cX1_priceOf 10 = .ok (.getfield 15, 3) := by decide +kernel
theorem dX1_priceOf_13 : decode cX1_priceOf 13 = .ok (.iload_n 1, 1) := by decide +kernel
theorem dX1_priceOf_14 : decode cX1_priceOf 14 = .ok (.iaload, 1) := by decide +kernel
theorem dX1_priceOf_15 : decode cX1_priceOf 15 = .ok (.bipush 10, 2) := by decide +kernel
theorem dX1_priceOf_17 : decode cX1_priceOf 17 = .ok (.idiv, 1) := by decide +kernel
theorem dX1_priceOf_18 : decode cX1_priceOf 18 = .ok (.aload_n 0, 1) := by decide +kernel
theorem dX1_priceOf_19 : decode cX1_priceOf 19 = .ok (.getfield 18, 3) := by decide +kernel
theorem dX1_priceOf_22 : decode cX1_priceOf 22 = .ok (.iload_n 1, 1) := by decide +kernel
theorem dX1_priceOf_23 : decode cX1_priceOf 23 = .ok (.iaload, 1) := by decide +kernel
theorem dX1_priceOf_24 : decode cX1_priceOf 24 = .ok (.iadd, 1) := by decide +kernel
theorem dX1_priceOf_25 : decode cX1_priceOf 25 = .ok (.aload_n 0, 1) := by decide +kernel
theorem dX1_priceOf_26 : decode cX1_priceOf 26 = .ok (.getfield 21, 3) := by decide +kernel
theorem dX1_priceOf_29 : decode cX1_priceOf 29 = .ok (.iload_n 1, 1) := by decide +kernel
theorem dX1_priceOf_30 : decode cX1_priceOf 30 = .ok (.iaload, 1) := by decide +kernel
theorem dX1_priceOf_31 : decode cX1_priceOf 31 = .ok (.iconst 5, 1) := by decide +kernel
theorem dX1_priceOf_32 : decode cX1_priceOf 32 = .ok (.idiv, 1) := by decide +kernel
theorem dX1_priceOf_33 : decode cX1_priceOf 33 = .ok (.isub, 1) := by decide +kernel
theorem dX1_priceOf_34 : decode cX1_priceOf 34 = .ok (.invokestatic 98, 3) := by decide +kernel
theorem dX1_priceOf_37 : decode cX1_priceOf 37 = .ok (.goto 4, 3) := by decide +kernel
theorem dX1_priceOf_40 : decode cX1_priceOf 40 = .ok (.iconst 0, 1) := by decide +kernel
theorem dX1_priceOf_41 : decode cX1_priceOf 41 = .ok (.ireturn, 1) := by decide +kernel
set_option maxRecDepth 100000 in
set_option maxHeartbeats 200000 in
theorem T_X1_priceOf_0 {X : CX} (hX : Ok X cX1_priceOf 2 RX1 (some .int)) (hdx : dX X = 3) {r : Int32} (k0 : Nat) (hk0 : isCity k0) (x1 : Int32) (h : Hp) (hf : f_X1_priceOf k0 x1 h = some r) : J X ((.inl (some (.int r)), h)) 0 [(0, .ref k0), (1, .int x1)] [] h := by
  unfold f_X1_priceOf at hf
  refine J_aload_n hX 0 dX1_priceOf_0 rfl rfl ?_
  refine J_iload_n hX 1 dX1_priceOf_1 rfl rfl ?_
  refine V_1 hX [.int x1] dX1_priceOf_2 cw_X1_81 (city_ob hk0) rfl (C_X1_isHouse (okG hX) hk0 rfl) (ltD hdx rfl) rfl rfl rfl rfl ?_
  rcases ifE hf with ⟨c_1, hf⟩ | ⟨c_1, hf⟩
  · refine J_if_eqF hX 40 dX1_priceOf_5 rfl (b2iT c_1) ?_
    refine J_iconst hX 0 dX1_priceOf_8 rfl ?_
    refine J_aload_n hX 0 dX1_priceOf_9 rfl rfl ?_
    refine J_getR hX (k0 + 2) dX1_priceOf_10 fl_X1_15 (city_ob hk0) rfl rfl ?_
    refine J_iload_n hX 1 dX1_priceOf_13 rfl rfl ?_
    obtain ⟨g_2, hf⟩ := gdE hf
    refine J_ald hX x1.toNatClampNeg dX1_priceOf_14 (city_ar 2 8 (by decide) hk0) (Or.inl ⟨rfl, rfl⟩) g_2 rfl ?_
    refine J_bipush hX 10 dX1_priceOf_15 rfl ?_
    refine J_idiv hX (by decide) dX1_priceOf_17 ?_
    refine J_aload_n hX 0 dX1_priceOf_18 rfl rfl ?_
    refine J_getR hX (k0 + 3) dX1_priceOf_19 fl_X1_18 (city_ob hk0) rfl rfl ?_
    refine J_iload_n hX 1 dX1_priceOf_22 rfl rfl ?_
    obtain ⟨g_3, hf⟩ := gdE hf
    refine J_ald hX x1.toNatClampNeg dX1_priceOf_23 (city_ar 3 8 (by decide) hk0) (Or.inl ⟨rfl, rfl⟩) g_3 rfl ?_
    refine J_iadd hX dX1_priceOf_24 ?_
    refine J_aload_n hX 0 dX1_priceOf_25 rfl rfl ?_
    refine J_getR hX (k0 + 4) dX1_priceOf_26 fl_X1_21 (city_ob hk0) rfl rfl ?_
    refine J_iload_n hX 1 dX1_priceOf_29 rfl rfl ?_
    obtain ⟨g_4, hf⟩ := gdE hf
    refine J_ald hX x1.toNatClampNeg dX1_priceOf_30 (city_ar 4 8 (by decide) hk0) (Or.inl ⟨rfl, rfl⟩) g_4 rfl ?_
    refine J_iconst hX 5 dX1_priceOf_31 rfl ?_
    refine J_idiv hX (by decide) dX1_priceOf_32 ?_
    refine J_isub hX dX1_priceOf_33 ?_
    refine J_max hX dX1_priceOf_34 mw_X1_98 (ltD hdx rfl) rfl ?_
    refine J_goto hX 41 dX1_priceOf_37 rfl ?_
    exact E_Ip hX dX1_priceOf_41 hf
  · refine J_if_eqT hX 40 dX1_priceOf_5 rfl (b2iF c_1) ?_
    refine J_iconst hX 0 dX1_priceOf_40 rfl ?_
    exact E_Ip hX dX1_priceOf_41 hf
set_option maxRecDepth 100000 in
set_option maxHeartbeats 200000 in
theorem C_X1_priceOf {G : GX} (hG : GOk G) {k0 : Nat} {x1 : Int32} {h : Hp} {r : Int32} (hk0 : isCity k0) (hf : f_X1_priceOf k0 x1 h = some r) : Ctr G 3 yX1_priceOf cX1_priceOf 2 (some .int) [.ref k0, .int x1] h ((.inl (some (.int r)), h)) :=
  Ctr_of hG RX1 rfl (by decide) rfl (fun X _ hdx hX => T_X1_priceOf_0 hX hdx k0 hk0 x1 h hf)
theorem dX1_gateOf_0 : decode cX1_gateOf 0 = .ok (.iconst 0, 1) := by decide +kernel
theorem dX1_gateOf_1 : decode cX1_gateOf 1 = .ok (.istore_n 2, 1) := by decide +kernel
theorem dX1_gateOf_2 : decode cX1_gateOf 2 = .ok (.iconst 0, 1) := by decide +kernel
theorem dX1_gateOf_3 : decode cX1_gateOf 3 = .ok (.istore_n 3, 1) := by decide +kernel
theorem dX1_gateOf_4 : decode cX1_gateOf 4 = .ok (.iload_n 3, 1) := by decide +kernel
theorem dX1_gateOf_5 : decode cX1_gateOf 5 = .ok (.bipush 6, 2) := by decide +kernel
theorem dX1_gateOf_7 : decode cX1_gateOf 7 = .ok (.if_icmp .ge 33, 3) := by decide +kernel
theorem dX1_gateOf_10 : decode cX1_gateOf 10 = .ok (.aload_n 0, 1) := by decide +kernel
theorem dX1_gateOf_11 : decode cX1_gateOf 11 = .ok (.iload_n 3, 1) := by decide +kernel
theorem dX1_gateOf_12 : decode cX1_gateOf 12 = .ok (.invokevirtual 101, 3) := by decide +kernel
theorem dX1_gateOf_15 : decode cX1_gateOf 15 = .ok (.ifCond .eq 19, 3) := by decide +kernel
theorem dX1_gateOf_18 : decode cX1_gateOf 18 = .ok (.aload_n 0, 1) := by decide +kernel
theorem dX1_gateOf_19 : decode cX1_gateOf 19 = .ok (.getfield 27, 3) := by decide +kernel
theorem dX1_gateOf_22 : decode cX1_gateOf 22 = .ok (.iload_n 3, 1) := by decide +kernel
theorem dX1_gateOf_23 : decode cX1_gateOf 23 = .ok (.iaload, 1) := by decide +kernel
theorem dX1_gateOf_24 : decode cX1_gateOf 24 = .ok (.iload_n 1, 1) := by decide +kernel
theorem dX1_gateOf_25 : decode cX1_gateOf 25 = .ok (.if_icmp .ne 9, 3) := by decide +kernel
theorem dX1_gateOf_28 : decode cX1_gateOf 28 = .ok (.iload_n 2, 1) := by decide +kernel
theorem dX1_gateOf_29 : decode cX1_gateOf 29 = .ok (.iconst 1, 1) := by decide +kernel
theorem dX1_gateOf_30 : decode cX1_gateOf 30 = .ok (.iload_n 3, 1) := by decide +kernel
theorem dX1_gateOf_31 : decode cX1_gateOf 31 = .ok (.ishl, 1) := by decide +kernel
theorem dX1_gateOf_32 : decode cX1_gateOf 32 = .ok (.ior, 1) := by decide +kernel
theorem dX1_gateOf_33 : decode cX1_gateOf 33 = .ok (.istore_n 2, 1) := by decide +kernel
theorem dX1_gateOf_34 : decode cX1_gateOf 34 = .ok (.iinc 3 1, 3) := by decide +kernel
theorem dX1_gateOf_37 : decode cX1_gateOf 37 = .ok (.goto (-33), 3) := by decide +kernel
theorem dX1_gateOf_40 : decode cX1_gateOf 40 = .ok (.iload_n 2, 1) := by decide +kernel
theorem dX1_gateOf_41 : decode cX1_gateOf 41 = .ok (.ireturn, 1) := by decide +kernel
set_option maxRecDepth 100000 in
set_option maxHeartbeats 200000 in
theorem T_X1_gateOf_4_s {X : CX} (hX : Ok X cX1_gateOf 4 RX1 (some .int)) (hdx : dX X = 3) {r : Int32} (h : Hp) (k0 : Nat) (hk0 : isCity k0) (x1 : Int32) (q_4 : Int32 → Int32 → Option Int32) (hq_4 : ∀ (x2 : Int32) (x3 : Int32), q_4 x2 x3 = some r → J X ((.inl (some (.int r)), h)) 4 [(0, .ref k0), (1, .int x1), (2, .int x2), (3, .int x3)] [] h) (x2 : Int32) (x3 : Int32) (hf : S_X1_gateOf_4 h k0 x1 q_4 x2 x3 = some r) : J X ((.inl (some (.int r)), h)) 4 [(0, .ref k0), (1, .int x1), (2, .int x2), (3, .int x3)] [] h := by
  unfold S_X1_gateOf_4 at hf
  refine J_iload_n hX 3 dX1_gateOf_4 rfl rfl ?_
  refine J_bipush hX 6 dX1_gateOf_5 rfl ?_
  rcases ifE hf with ⟨c_1, hf⟩ | ⟨c_1, hf⟩
  · refine J_icmp_geF hX 40 dX1_gateOf_7 rfl c_1 ?_
    refine J_aload_n hX 0 dX1_gateOf_10 rfl rfl ?_
    refine J_iload_n hX 3 dX1_gateOf_11 rfl rfl ?_
    refine V_1 hX [.int x3] dX1_gateOf_12 cw_X1_101 (city_ob hk0) rfl (C_X1_isPerson (okG hX) hk0 rfl) (ltD hdx rfl) rfl rfl rfl rfl ?_
    rcases ifE hf with ⟨c_2, hf⟩ | ⟨c_2, hf⟩
    · refine J_if_eqF hX 34 dX1_gateOf_15 rfl (b2iT c_2) ?_
      refine J_aload_n hX 0 dX1_gateOf_18 rfl rfl ?_
      refine J_getR hX (k0 + 6) dX1_gateOf_19 fl_X1_27 (city_ob hk0) rfl rfl ?_
      refine J_iload_n hX 3 dX1_gateOf_22 rfl rfl ?_
      obtain ⟨g_3, hf⟩ := gdE hf
      refine J_ald hX x3.toNatClampNeg dX1_gateOf_23 (city_ar 6 6 (by decide) hk0) (Or.inl ⟨rfl, rfl⟩) g_3 rfl ?_
      refine J_iload_n hX 1 dX1_gateOf_24 rfl rfl ?_
      rcases ifE hf with ⟨c_4, hf⟩ | ⟨c_4, hf⟩
      · refine J_icmp_neF hX 34 dX1_gateOf_25 rfl c_4 ?_
        refine J_iload_n hX 2 dX1_gateOf_28 rfl rfl ?_
        refine J_iconst hX 1 dX1_gateOf_29 rfl ?_
        refine J_iload_n hX 3 dX1_gateOf_30 rfl rfl ?_
        refine J_ishl hX dX1_gateOf_31 ?_
        refine J_ior hX dX1_gateOf_32 ?_
        obtain ⟨x2_5, e_6, hf⟩ := bndE hf
        refine J_nm e_6 ?_
        refine J_istore_n hX [(2, .int x2_5), (0, .ref k0), (1, .int x1), (3, .int x3)] dX1_gateOf_33 rfl rfl rfl ?_
        refine J_iinc hX (x3 + 1) 3 [(3, .int (x3 + 1)), (2, .int x2_5), (0, .ref k0), (1, .int x1)] dX1_gateOf_34 rfl rfl rfl rfl ?_
        refine J_goto hX 4 dX1_gateOf_37 rfl ?_
        refine J_sub [2, 3, 1, 0] [(0, .ref k0), (1, .int x1), (2, .int x2_5), (3, .int (x3 + 1))] rfl ?_
        exact hq_4 x2_5 (x3 + 1) hf
      · refine J_icmp_neT hX 34 dX1_gateOf_25 rfl c_4 ?_
        refine J_iinc hX (x3 + 1) 3 [(3, .int (x3 + 1)), (0, .ref k0), (1, .int x1), (2, .int x2)] dX1_gateOf_34 rfl rfl rfl rfl ?_
        refine J_goto hX 4 dX1_gateOf_37 rfl ?_
        refine J_sub [1, 2, 3, 0] [(0, .ref k0), (1, .int x1), (2, .int x2), (3, .int (x3 + 1))] rfl ?_
        exact hq_4 x2 (x3 + 1) hf
    · refine J_if_eqT hX 34 dX1_gateOf_15 rfl (b2iF c_2) ?_
      refine J_iinc hX (x3 + 1) 3 [(3, .int (x3 + 1)), (0, .ref k0), (1, .int x1), (2, .int x2)] dX1_gateOf_34 rfl rfl rfl rfl ?_
      refine J_goto hX 4 dX1_gateOf_37 rfl ?_
      refine J_sub [1, 2, 3, 0] [(0, .ref k0), (1, .int x1), (2, .int x2), (3, .int (x3 + 1))] rfl ?_
      exact hq_4 x2 (x3 + 1) hf
  · refine J_icmp_geT hX 40 dX1_gateOf_7 rfl c_1 ?_
    refine J_iload_n hX 2 dX1_gateOf_40 rfl rfl ?_
    exact E_Ip hX dX1_gateOf_41 hf
set_option maxRecDepth 100000 in
set_option maxHeartbeats 200000 in
theorem T_X1_gateOf_4 {X : CX} (hX : Ok X cX1_gateOf 4 RX1 (some .int)) (hdx : dX X = 3) {r : Int32} (h : Hp) (k0 : Nat) (hk0 : isCity k0) (x1 : Int32) : ∀ (n : Nat) (x2 : Int32) (x3 : Int32), F_X1_gateOf_4 h k0 x1 n x2 x3 = some r → J X ((.inl (some (.int r)), h)) 4 [(0, .ref k0), (1, .int x1), (2, .int x2), (3, .int x3)] [] h := by
  intro n
  induction n with
  | zero => intro x2 x3 hf; exact nomatch hf
  | succ n ih => intro x2 x3 hf; exact T_X1_gateOf_4_s hX hdx h k0 hk0 x1 _ (fun x2 x3 hf => ih x2 x3 hf) x2 x3 hf
set_option maxRecDepth 100000 in
set_option maxHeartbeats 200000 in
theorem T_X1_gateOf_0 {X : CX} (hX : Ok X cX1_gateOf 4 RX1 (some .int)) (hdx : dX X = 3) {r : Int32} (k0 : Nat) (hk0 : isCity k0) (x1 : Int32) (h : Hp) (hf : f_X1_gateOf k0 x1 h = some r) : J X ((.inl (some (.int r)), h)) 0 [(0, .ref k0), (1, .int x1)] [] h := by
  unfold f_X1_gateOf at hf
  refine J_iconst hX 0 dX1_gateOf_0 rfl ?_
  refine J_istore_n hX [(2, .int 0), (0, .ref k0), (1, .int x1)] dX1_gateOf_1 rfl rfl rfl ?_
  refine J_iconst hX 0 dX1_gateOf_2 rfl ?_
  refine J_istore_n hX [(3, .int 0), (2, .int 0), (0, .ref k0), (1, .int x1)] dX1_gateOf_3 rfl rfl rfl ?_
  refine J_sub [2, 3, 1, 0] [(0, .ref k0), (1, .int x1), (2, .int 0), (3, .int 0)] rfl ?_
  exact T_X1_gateOf_4 hX hdx h k0 hk0 x1 FU 0 0 hf
set_option maxRecDepth 100000 in
set_option maxHeartbeats 200000 in
theorem C_X1_gateOf {G : GX} (hG : GOk G) {k0 : Nat} {x1 : Int32} {h : Hp} {r : Int32} (hk0 : isCity k0) (hf : f_X1_gateOf k0 x1 h = some r) : Ctr G 3 yX1_gateOf cX1_gateOf 4 (some .int) [.ref k0, .int x1] h ((.inl (some (.int r)), h)) :=
  Ctr_of hG RX1 rfl (by decide) rfl (fun X _ hdx hX => T_X1_gateOf_0 hX hdx k0 hk0 x1 h hf)
theorem dX1_placeOf_0 : decode cX1_placeOf 0 = .ok (.aload_n 0, 1) := by decide +kernel
theorem dX1_placeOf_1 : decode cX1_placeOf 1 = .ok (.iload_n 1, 1) := by decide +kernel
theorem dX1_placeOf_2 : decode cX1_placeOf 2 = .ok (.invokevirtual 101, 3) := by decide +kernel
theorem dX1_placeOf_5 : decode cX1_placeOf 5 = .ok (.ifCond .eq 12, 3) := by decide +kernel
theorem dX1_placeOf_8 : decode cX1_placeOf 8 = .ok (.aload_n 0, 1) := by decide +kernel
theorem dX1_placeOf_9 : decode cX1_placeOf 9 = .ok (.getfield 27, 3) := by decide +kernel
theorem dX1_placeOf_12 : decode cX1_placeOf 12 = .ok (.iload_n 1, 1) := by decide +kernel
theorem dX1_placeOf_13 : decode cX1_placeOf 13 = .ok (.iaload, 1) := by decide +kernel
theorem dX1_placeOf_14 : decode cX1_placeOf 14 = .ok (.goto 4, 3) := by decide +kernel
theorem dX1_placeOf_17 : decode cX1_placeOf 17 = .ok (.iconst (-1), 1) := by decide +kernel
theorem dX1_placeOf_18 : decode cX1_placeOf 18 = .ok (.ireturn, 1) := by decide +kernel
set_option maxRecDepth 100000 in
set_option maxHeartbeats 200000 in
theorem T_X1_placeOf_0 {X : CX} (hX : Ok X cX1_placeOf 2 RX1 (some .int)) (hdx : dX X = 3) {r : Int32} (k0 : Nat) (hk0 : isCity k0) (x1 : Int32) (h : Hp) (hf : f_X1_placeOf k0 x1 h = some r) : J X ((.inl (some (.int r)), h)) 0 [(0, .ref k0), (1, .int x1)] [] h := by
  unfold f_X1_placeOf at hf
  refine J_aload_n hX 0 dX1_placeOf_0 rfl rfl ?_
  refine J_iload_n hX 1 dX1_placeOf_1 rfl rfl ?_
  refine V_1 hX [.int x1] dX1_placeOf_2 cw_X1_101 (city_ob hk0) rfl (C_X1_isPerson (okG hX) hk0 rfl) (ltD hdx rfl) rfl rfl rfl rfl ?_
  rcases ifE hf with ⟨c_1, hf⟩ | ⟨c_1, hf⟩
  · refine J_if_eqF hX 17 dX1_placeOf_5 rfl (b2iT c_1) ?_
    refine J_aload_n hX 0 dX1_placeOf_8 rfl rfl ?_
    refine J_getR hX (k0 + 6) dX1_placeOf_9 fl_X1_27 (city_ob hk0) rfl rfl ?_
    refine J_iload_n hX 1 dX1_placeOf_12 rfl rfl ?_
    obtain ⟨g_2, hf⟩ := gdE hf
    refine J_ald hX x1.toNatClampNeg dX1_placeOf_13 (city_ar 6 6 (by decide) hk0) (Or.inl ⟨rfl, rfl⟩) g_2 rfl ?_
    refine J_goto hX 18 dX1_placeOf_14 rfl ?_
    exact E_Ip hX dX1_placeOf_18 hf
  · refine J_if_eqT hX 17 dX1_placeOf_5 rfl (b2iF c_1) ?_
    refine J_iconst hX (-1) dX1_placeOf_17 rfl ?_
    exact E_Ip hX dX1_placeOf_18 hf
set_option maxRecDepth 100000 in
set_option maxHeartbeats 200000 in
theorem C_X1_placeOf {G : GX} (hG : GOk G) {k0 : Nat} {x1 : Int32} {h : Hp} {r : Int32} (hk0 : isCity k0) (hf : f_X1_placeOf k0 x1 h = some r) : Ctr G 3 yX1_placeOf cX1_placeOf 2 (some .int) [.ref k0, .int x1] h ((.inl (some (.int r)), h)) :=
  Ctr_of hG RX1 rfl (by decide) rfl (fun X _ hdx hX => T_X1_placeOf_0 hX hdx k0 hk0 x1 h hf)
theorem dX1_holdOf_0 : decode cX1_holdOf 0 = .ok (.aload_n 0, 1) := by decide +kernel
theorem dX1_holdOf_1 : decode cX1_holdOf 1 = .ok (.iload_n 1, 1) := by decide +kernel
theorem dX1_holdOf_2 : decode cX1_holdOf 2 = .ok (.invokevirtual 101, 3) := by decide +kernel
theorem dX1_holdOf_5 : decode cX1_holdOf 5 = .ok (.ifCond .eq 12, 3) := by decide +kernel
theorem dX1_holdOf_8 : decode cX1_holdOf 8 = .ok (.aload_n 0, 1) := by decide +kernel
theorem dX1_holdOf_9 : decode cX1_holdOf 9 = .ok (.getfield 30, 3) := by decide +kernel
theorem dX1_holdOf_12 : decode cX1_holdOf 12 = .ok (.iload_n 1, 1) := by decide +kernel
theorem dX1_holdOf_13 : decode cX1_holdOf 13 = .ok (.iaload, 1) := by decide +kernel
theorem dX1_holdOf_14 : decode cX1_holdOf 14 = .ok (.goto 4, 3) := by decide +kernel
theorem dX1_holdOf_17 : decode cX1_holdOf 17 = .ok (.iconst 0, 1) := by decide +kernel
theorem dX1_holdOf_18 : decode cX1_holdOf 18 = .ok (.ireturn, 1) := by decide +kernel
set_option maxRecDepth 100000 in
set_option maxHeartbeats 200000 in
theorem T_X1_holdOf_0 {X : CX} (hX : Ok X cX1_holdOf 2 RX1 (some .int)) (hdx : dX X = 3) {r : Int32} (k0 : Nat) (hk0 : isCity k0) (x1 : Int32) (h : Hp) (hf : f_X1_holdOf k0 x1 h = some r) : J X ((.inl (some (.int r)), h)) 0 [(0, .ref k0), (1, .int x1)] [] h := by
  unfold f_X1_holdOf at hf
  refine J_aload_n hX 0 dX1_holdOf_0 rfl rfl ?_
  refine J_iload_n hX 1 dX1_holdOf_1 rfl rfl ?_
  refine V_1 hX [.int x1] dX1_holdOf_2 cw_X1_101 (city_ob hk0) rfl (C_X1_isPerson (okG hX) hk0 rfl) (ltD hdx rfl) rfl rfl rfl rfl ?_
  rcases ifE hf with ⟨c_1, hf⟩ | ⟨c_1, hf⟩
  · refine J_if_eqF hX 17 dX1_holdOf_5 rfl (b2iT c_1) ?_
    refine J_aload_n hX 0 dX1_holdOf_8 rfl rfl ?_
    refine J_getR hX (k0 + 7) dX1_holdOf_9 fl_X1_30 (city_ob hk0) rfl rfl ?_
    refine J_iload_n hX 1 dX1_holdOf_12 rfl rfl ?_
    obtain ⟨g_2, hf⟩ := gdE hf
    refine J_ald hX x1.toNatClampNeg dX1_holdOf_13 (city_ar 7 6 (by decide) hk0) (Or.inl ⟨rfl, rfl⟩) g_2 rfl ?_
    refine J_goto hX 18 dX1_holdOf_14 rfl ?_
    exact E_Ip hX dX1_holdOf_18 hf
  · refine J_if_eqT hX 17 dX1_holdOf_5 rfl (b2iF c_1) ?_
    refine J_iconst hX 0 dX1_holdOf_17 rfl ?_
    exact E_Ip hX dX1_holdOf_18 hf
set_option maxRecDepth 100000 in
set_option maxHeartbeats 200000 in
theorem C_X1_holdOf {G : GX} (hG : GOk G) {k0 : Nat} {x1 : Int32} {h : Hp} {r : Int32} (hk0 : isCity k0) (hf : f_X1_holdOf k0 x1 h = some r) : Ctr G 3 yX1_holdOf cX1_holdOf 2 (some .int) [.ref k0, .int x1] h ((.inl (some (.int r)), h)) :=
  Ctr_of hG RX1 rfl (by decide) rfl (fun X _ hdx hX => T_X1_holdOf_0 hX hdx k0 hk0 x1 h hf)
theorem dX1_daysOf_0 : decode cX1_daysOf 0 = .ok (.aload_n 0, 1) := by decide +kernel
theorem dX1_daysOf_1 : decode cX1_daysOf 1 = .ok (.iload_n 1, 1) := by decide +kernel
theorem dX1_daysOf_2 : decode cX1_daysOf 2 = .ok (.invokevirtual 101, 3) := by decide +kernel
theorem dX1_daysOf_5 : decode cX1_daysOf 5 = .ok (.ifCond .eq 12, 3) := by decide +kernel
theorem dX1_daysOf_8 : decode cX1_daysOf 8 = .ok (.aload_n 0, 1) := by decide +kernel
theorem dX1_daysOf_9 : decode cX1_daysOf 9 = .ok (.getfield 33, 3) := by decide +kernel
theorem dX1_daysOf_12 : decode cX1_daysOf 12 = .ok (.iload_n 1, 1) := by decide +kernel
theorem dX1_daysOf_13 : decode cX1_daysOf 13 = .ok (.iaload, 1) := by decide +kernel
theorem dX1_daysOf_14 : decode cX1_daysOf 14 = .ok (.goto 4, 3) := by decide +kernel
theorem dX1_daysOf_17 : decode cX1_daysOf 17 = .ok (.iconst 0, 1) := by decide +kernel
theorem dX1_daysOf_18 : decode cX1_daysOf 18 = .ok (.ireturn, 1) := by decide +kernel
set_option maxRecDepth 100000 in
set_option maxHeartbeats 200000 in
theorem T_X1_daysOf_0 {X : CX} (hX : Ok X cX1_daysOf 2 RX1 (some .int)) (hdx : dX X = 3) {r : Int32} (k0 : Nat) (hk0 : isCity k0) (x1 : Int32) (h : Hp) (hf : f_X1_daysOf k0 x1 h = some r) : J X ((.inl (some (.int r)), h)) 0 [(0, .ref k0), (1, .int x1)] [] h := by
  unfold f_X1_daysOf at hf
  refine J_aload_n hX 0 dX1_daysOf_0 rfl rfl ?_
  refine J_iload_n hX 1 dX1_daysOf_1 rfl rfl ?_
  refine V_1 hX [.int x1] dX1_daysOf_2 cw_X1_101 (city_ob hk0) rfl (C_X1_isPerson (okG hX) hk0 rfl) (ltD hdx rfl) rfl rfl rfl rfl ?_
  rcases ifE hf with ⟨c_1, hf⟩ | ⟨c_1, hf⟩
  · refine J_if_eqF hX 17 dX1_daysOf_5 rfl (b2iT c_1) ?_
    refine J_aload_n hX 0 dX1_daysOf_8 rfl rfl ?_
    refine J_getR hX (k0 + 8) dX1_daysOf_9 fl_X1_33 (city_ob hk0) rfl rfl ?_
    refine J_iload_n hX 1 dX1_daysOf_12 rfl rfl ?_
    obtain ⟨g_2, hf⟩ := gdE hf
    refine J_ald hX x1.toNatClampNeg dX1_daysOf_13 (city_ar 8 6 (by decide) hk0) (Or.inl ⟨rfl, rfl⟩) g_2 rfl ?_
    refine J_goto hX 18 dX1_daysOf_14 rfl ?_
    exact E_Ip hX dX1_daysOf_18 hf
  · refine J_if_eqT hX 17 dX1_daysOf_5 rfl (b2iF c_1) ?_
    refine J_iconst hX 0 dX1_daysOf_17 rfl ?_
    exact E_Ip hX dX1_daysOf_18 hf
set_option maxRecDepth 100000 in
set_option maxHeartbeats 200000 in
theorem C_X1_daysOf {G : GX} (hG : GOk G) {k0 : Nat} {x1 : Int32} {h : Hp} {r : Int32} (hk0 : isCity k0) (hf : f_X1_daysOf k0 x1 h = some r) : Ctr G 3 yX1_daysOf cX1_daysOf 2 (some .int) [.ref k0, .int x1] h ((.inl (some (.int r)), h)) :=
  Ctr_of hG RX1 rfl (by decide) rfl (fun X _ hdx hX => T_X1_daysOf_0 hX hdx k0 hk0 x1 h hf)
theorem dX1_isThere_0 : decode cX1_isThere 0 = .ok (.aload_n 0, 1) := by decide +kernel
theorem dX1_isThere_1 : decode cX1_isThere 1 = .ok (.iload_n 1, 1) := by decide +kernel
theorem dX1_isThere_2 : decode cX1_isThere 2 = .ok (.invokevirtual 101, 3) := by decide +kernel
theorem dX1_isThere_5 : decode cX1_isThere 5 = .ok (.ifCond .eq 31, 3) := by decide +kernel
theorem dX1_isThere_8 : decode cX1_isThere 8 = .ok (.iload_n 2, 1) := by decide +kernel
theorem dX1_isThere_9 : decode cX1_isThere 9 = .ok (.ifCond .lt 27, 3) := by decide +kernel
theorem dX1_isThere_12 : decode cX1_isThere 12 = .ok (.iload_n 2, 1) := by decide +kernel
theorem dX1_isThere_13 : decode cX1_isThere 13 = .ok (.bipush 7, 2) := by decide +kernel
theorem dX1_isThere_15 : decode cX1_isThere 15 = .ok (.if_icmp .ge 21, 3) := by decide +kernel
theorem dX1_isThere_18 : decode cX1_isThere 18 = .ok (.aload_n 0, 1) := by decide +kernel
theorem dX1_isThere_19 : decode cX1_isThere 19 = .ok (.getfield 33, 3) := by decide +kernel
theorem dX1_isThere_22 : decode cX1_isThere 22 = .ok (.iload_n 1, 1) := by decide +kernel
theorem dX1_isThere_23 : decode cX1_isThere 23 = .ok (.iaload, 1) := by decide +kernel
theorem dX1_isThere_24 : decode cX1_isThere 24 = .ok (.iload_n 2, 1) := by decide +kernel
theorem dX1_isThere_25 : decode cX1_isThere 25 = .ok (.ishr, 1) := by decide +kernel
theorem dX1_isThere_26 : decode cX1_isThere 26 = .ok (.iconst 1, 1) := by decide +kernel
theorem dX1_isThere_27 : decode cX1_isThere 27 = .ok (.iand, 1) := by decide +kernel
theorem dX1_isThere_28 : decode cX1_isThere 28 = .ok (.iconst 1, 1) := by decide +kernel
theorem dX1_isThere_29 : decode cX1_isThere 29 = .ok (.if_icmp .ne 7, 3) := by decide +kernel
theorem dX1_isThere_32 : decode cX1_isThere 32 = .ok (.iconst 1, 1) := by decide +kernel
theorem dX1_isThere_33 : decode cX1_isThere 33 = .ok (.goto 4, 3) := by decide +kernel
theorem dX1_isThere_36 : decode cX1_isThere 36 = .ok (.iconst 0, 1) := by decide +kernel
theorem dX1_isThere_37 : decode cX1_isThere 37 = .ok (.ireturn, 1) := by decide +kernel
set_option maxRecDepth 100000 in
set_option maxHeartbeats 200000 in
theorem T_X1_isThere_0 {X : CX} (hX : Ok X cX1_isThere 3 RX1 (some .boolean)) (hdx : dX X = 3) {r : Bool} (k0 : Nat) (hk0 : isCity k0) (x1 : Int32) (x2 : Int32) (h : Hp) (hf : f_X1_isThere k0 x1 x2 h = some r) : J X ((.inl (some (.int (b2i r))), h)) 0 [(0, .ref k0), (1, .int x1), (2, .int x2)] [] h := by
  unfold f_X1_isThere at hf
  refine J_aload_n hX 0 dX1_isThere_0 rfl rfl ?_
  refine J_iload_n hX 1 dX1_isThere_1 rfl rfl ?_
  refine V_1 hX [.int x1] dX1_isThere_2 cw_X1_101 (city_ob hk0) rfl (C_X1_isPerson (okG hX) hk0 rfl) (ltD hdx rfl) rfl rfl rfl rfl ?_
  rcases ifE hf with ⟨c_1, hf⟩ | ⟨c_1, hf⟩
  · refine J_if_eqF hX 36 dX1_isThere_5 rfl (b2iT c_1) ?_
    refine J_iload_n hX 2 dX1_isThere_8 rfl rfl ?_
    rcases ifE hf with ⟨c_2, hf⟩ | ⟨c_2, hf⟩
    · refine J_if_ltT hX 36 dX1_isThere_9 rfl c_2 ?_
      refine J_iconst hX 0 dX1_isThere_36 rfl ?_
      exact E_Zp hX dX1_isThere_37 rfl hf
    · refine J_if_ltF hX 36 dX1_isThere_9 rfl c_2 ?_
      refine J_iload_n hX 2 dX1_isThere_12 rfl rfl ?_
      refine J_bipush hX 7 dX1_isThere_13 rfl ?_
      rcases ifE hf with ⟨c_3, hf⟩ | ⟨c_3, hf⟩
      · refine J_icmp_geF hX 36 dX1_isThere_15 rfl c_3 ?_
        refine J_aload_n hX 0 dX1_isThere_18 rfl rfl ?_
        refine J_getR hX (k0 + 8) dX1_isThere_19 fl_X1_33 (city_ob hk0) rfl rfl ?_
        refine J_iload_n hX 1 dX1_isThere_22 rfl rfl ?_
        obtain ⟨g_4, hf⟩ := gdE hf
        refine J_ald hX x1.toNatClampNeg dX1_isThere_23 (city_ar 8 6 (by decide) hk0) (Or.inl ⟨rfl, rfl⟩) g_4 rfl ?_
        refine J_iload_n hX 2 dX1_isThere_24 rfl rfl ?_
        refine J_ishr hX dX1_isThere_25 ?_
        refine J_iconst hX 1 dX1_isThere_26 rfl ?_
        refine J_iand hX dX1_isThere_27 ?_
        refine J_iconst hX 1 dX1_isThere_28 rfl ?_
        rcases ifE hf with ⟨c_5, hf⟩ | ⟨c_5, hf⟩
        · refine J_icmp_neF hX 36 dX1_isThere_29 rfl c_5 ?_
          refine J_iconst hX 1 dX1_isThere_32 rfl ?_
          refine J_goto hX 37 dX1_isThere_33 rfl ?_
          exact E_Zp hX dX1_isThere_37 rfl hf
        · refine J_icmp_neT hX 36 dX1_isThere_29 rfl c_5 ?_
          refine J_iconst hX 0 dX1_isThere_36 rfl ?_
          exact E_Zp hX dX1_isThere_37 rfl hf
      · refine J_icmp_geT hX 36 dX1_isThere_15 rfl c_3 ?_
        refine J_iconst hX 0 dX1_isThere_36 rfl ?_
        exact E_Zp hX dX1_isThere_37 rfl hf
  · refine J_if_eqT hX 36 dX1_isThere_5 rfl (b2iF c_1) ?_
    refine J_iconst hX 0 dX1_isThere_36 rfl ?_
    exact E_Zp hX dX1_isThere_37 rfl hf
set_option maxRecDepth 100000 in
set_option maxHeartbeats 200000 in
theorem C_X1_isThere {G : GX} (hG : GOk G) {k0 : Nat} {x1 : Int32} {x2 : Int32} {h : Hp} {r : Bool} (hk0 : isCity k0) (hf : f_X1_isThere k0 x1 x2 h = some r) : Ctr G 3 yX1_isThere cX1_isThere 3 (some .boolean) [.ref k0, .int x1, .int x2] h ((.inl (some (.int (b2i r))), h)) :=
  Ctr_of hG RX1 rfl (by decide) rfl (fun X _ hdx hX => T_X1_isThere_0 hX hdx k0 hk0 x1 x2 h hf)
theorem dX1_holdOfAll_0 : decode cX1_holdOfAll 0 = .ok (.iconst 0, 1) := by decide +kernel
theorem dX1_holdOfAll_1 : decode cX1_holdOfAll 1 = .ok (.istore_n 1, 1) := by decide +kernel
theorem dX1_holdOfAll_2 : decode cX1_holdOfAll 2 = .ok (.iconst 0, 1) := by decide +kernel
theorem dX1_holdOfAll_3 : decode cX1_holdOfAll 3 = .ok (.istore_n 2, 1) := by decide +kernel
theorem dX1_holdOfAll_4 : decode cX1_holdOfAll 4 = .ok (.iload_n 2, 1) := by decide +kernel
theorem dX1_holdOfAll_5 : decode cX1_holdOfAll 5 = .ok (.bipush 6, 2) := by decide +kernel
theorem dX1_holdOfAll_7 : decode cX1_holdOfAll 7 = .ok (.if_icmp .ge 30, 3) := by decide +kernel
theorem dX1_holdOfAll_10 : decode cX1_holdOfAll 10 = .ok (.iload_n 1, 1) := by decide +kernel
theorem dX1_holdOfAll_11 : decode cX1_holdOfAll 11 = .ok (.aload_n 0, 1) := by decide +kernel
theorem dX1_holdOfAll_12 : decode cX1_holdOfAll 12 = .ok (.iload_n 2, 1) := by decide +kernel
theorem dX1_holdOfAll_13 : decode cX1_holdOfAll 13 = .ok (.invokevirtual 104, 3) := by decide +kernel
theorem dX1_holdOfAll_16 : decode cX1_holdOfAll 16 = .ok (.iconst (-1), 1) := by decide +kernel
theorem dX1_holdOfAll_17 : decode cX1_holdOfAll 17 = .ok (.if_icmp .eq 11, 3) := by decide +kernel
theorem dX1_holdOfAll_20 : decode cX1_holdOfAll 20 = .ok (.aload_n 0, 1) := by decide +kernel
theorem dX1_holdOfAll_21 : decode cX1_holdOfAll 21 = .ok (.iload_n 2, 1) := by decide +kernel
theorem dX1_holdOfAll_22 : decode cX1_holdOfAll 22 = .ok (.invokevirtual 108, 3) := by decide +kernel
theorem dX1_holdOfAll_25 : decode cX1_holdOfAll 25 = .ok (.goto 4, 3) := by decide +kernel
theorem dX1_holdOfAll_28 : decode cX1_holdOfAll 28 = .ok (.iconst 0, 1) := by decide +kernel
theorem dX1_holdOfAll_29 : decode cX1_holdOfAll 29 = .ok (.iadd, 1) := by decide +kernel
theorem dX1_holdOfAll_30 : decode cX1_holdOfAll 30 = .ok (.istore_n 1, 1) := by decide +kernel
theorem dX1_holdOfAll_31 : decode cX1_holdOfAll 31 = .ok (.iinc 2 1, 3) := by decide +kernel
theorem dX1_holdOfAll_34 : decode cX1_holdOfAll 34 = .ok (.goto (-30), 3) := by decide +kernel
theorem dX1_holdOfAll_37 : decode cX1_holdOfAll 37 = .ok (.iload_n 1, 1) := by decide +kernel
theorem dX1_holdOfAll_38 : decode cX1_holdOfAll 38 = .ok (.ireturn, 1) := by decide +kernel
set_option maxRecDepth 100000 in
set_option maxHeartbeats 200000 in
theorem T_X1_holdOfAll_29 {X : CX} (hX : Ok X cX1_holdOfAll 3 RX1 (some .int)) (hdx : dX X = 4) {r : Int32} (h : Hp) (k0 : Nat) (hk0 : isCity k0) (x2 : Int32) (t0 : Int32) (t1 : Int32) (q_4 : Int32 → Int32 → Option Int32) (hq_4 : ∀ (x1 : Int32) (x2 : Int32), q_4 x1 x2 = some r → J X ((.inl (some (.int r)), h)) 4 [(0, .ref k0), (1, .int x1), (2, .int x2)] [] h) (hf : F_X1_holdOfAll_29 q_4 h k0 x2 t0 t1 = some r) : J X ((.inl (some (.int r)), h)) 29 [(0, .ref k0), (2, .int x2)] [.int t0, .int t1] h := by
  unfold F_X1_holdOfAll_29 at hf
  refine J_iadd hX dX1_holdOfAll_29 ?_
  refine J_istore_n hX [(1, .int (t1 + t0)), (0, .ref k0), (2, .int x2)] dX1_holdOfAll_30 rfl rfl rfl ?_
  refine J_iinc hX (x2 + 1) 2 [(2, .int (x2 + 1)), (1, .int (t1 + t0)), (0, .ref k0)] dX1_holdOfAll_31 rfl rfl rfl rfl ?_
  refine J_goto hX 4 dX1_holdOfAll_34 rfl ?_
  refine J_sub [2, 1, 0] [(0, .ref k0), (1, .int (t1 + t0)), (2, .int (x2 + 1))] rfl ?_
  exact hq_4 (t1 + t0) (x2 + 1) hf
set_option maxRecDepth 100000 in
set_option maxHeartbeats 200000 in
theorem T_X1_holdOfAll_4_s {X : CX} (hX : Ok X cX1_holdOfAll 3 RX1 (some .int)) (hdx : dX X = 4) {r : Int32} (h : Hp) (k0 : Nat) (hk0 : isCity k0) (q_4 : Int32 → Int32 → Option Int32) (hq_4 : ∀ (x1 : Int32) (x2 : Int32), q_4 x1 x2 = some r → J X ((.inl (some (.int r)), h)) 4 [(0, .ref k0), (1, .int x1), (2, .int x2)] [] h) (x1 : Int32) (x2 : Int32) (hf : S_X1_holdOfAll_4 h k0 q_4 x1 x2 = some r) : J X ((.inl (some (.int r)), h)) 4 [(0, .ref k0), (1, .int x1), (2, .int x2)] [] h := by
  unfold S_X1_holdOfAll_4 at hf
  refine J_iload_n hX 2 dX1_holdOfAll_4 rfl rfl ?_
  refine J_bipush hX 6 dX1_holdOfAll_5 rfl ?_
  rcases ifE hf with ⟨c_1, hf⟩ | ⟨c_1, hf⟩
  · refine J_icmp_geF hX 37 dX1_holdOfAll_7 rfl c_1 ?_
    refine J_iload_n hX 1 dX1_holdOfAll_10 rfl rfl ?_
    refine J_aload_n hX 0 dX1_holdOfAll_11 rfl rfl ?_
    refine J_iload_n hX 2 dX1_holdOfAll_12 rfl rfl ?_
    obtain ⟨r_2, e_3, hf⟩ := bdE hf
    refine V_1 hX [.int x2] dX1_holdOfAll_13 cw_X1_104 (city_ob hk0) rfl (C_X1_placeOf (okG hX) hk0 e_3) (ltD hdx rfl) rfl rfl rfl rfl ?_
    refine J_iconst hX (-1) dX1_holdOfAll_16 rfl ?_
    rcases ifE hf with ⟨c_4, hf⟩ | ⟨c_4, hf⟩
    · refine J_icmp_eqT hX 28 dX1_holdOfAll_17 rfl c_4 ?_
      refine J_iconst hX 0 dX1_holdOfAll_28 rfl ?_
      refine J_sub [0, 2] [(0, .ref k0), (2, .int x2)] rfl ?_
      exact T_X1_holdOfAll_29 hX hdx h k0 hk0 x2 0 x1 q_4 hq_4 hf
    · refine J_icmp_eqF hX 28 dX1_holdOfAll_17 rfl c_4 ?_
      refine J_aload_n hX 0 dX1_holdOfAll_20 rfl rfl ?_
      refine J_iload_n hX 2 dX1_holdOfAll_21 rfl rfl ?_
      obtain ⟨r_5, e_6, hf⟩ := bdE hf
      refine V_1 hX [.int x2] dX1_holdOfAll_22 cw_X1_108 (city_ob hk0) rfl (C_X1_holdOf (okG hX) hk0 e_6) (ltD hdx rfl) rfl rfl rfl rfl ?_
      refine J_goto hX 29 dX1_holdOfAll_25 rfl ?_
      refine J_sub [0, 2] [(0, .ref k0), (2, .int x2)] rfl ?_
      exact T_X1_holdOfAll_29 hX hdx h k0 hk0 x2 r_5 x1 q_4 hq_4 hf
  · refine J_icmp_geT hX 37 dX1_holdOfAll_7 rfl c_1 ?_
    refine J_iload_n hX 1 dX1_holdOfAll_37 rfl rfl ?_
    exact E_Ip hX dX1_holdOfAll_38 hf
set_option maxRecDepth 100000 in
set_option maxHeartbeats 200000 in
theorem T_X1_holdOfAll_4 {X : CX} (hX : Ok X cX1_holdOfAll 3 RX1 (some .int)) (hdx : dX X = 4) {r : Int32} (h : Hp) (k0 : Nat) (hk0 : isCity k0) : ∀ (n : Nat) (x1 : Int32) (x2 : Int32), F_X1_holdOfAll_4 h k0 n x1 x2 = some r → J X ((.inl (some (.int r)), h)) 4 [(0, .ref k0), (1, .int x1), (2, .int x2)] [] h := by
  intro n
  induction n with
  | zero => intro x1 x2 hf; exact nomatch hf
  | succ n ih => intro x1 x2 hf; exact T_X1_holdOfAll_4_s hX hdx h k0 hk0 _ (fun x1 x2 hf => ih x1 x2 hf) x1 x2 hf
set_option maxRecDepth 100000 in
set_option maxHeartbeats 200000 in
theorem T_X1_holdOfAll_0 {X : CX} (hX : Ok X cX1_holdOfAll 3 RX1 (some .int)) (hdx : dX X = 4) {r : Int32} (k0 : Nat) (hk0 : isCity k0) (h : Hp) (hf : f_X1_holdOfAll k0 h = some r) : J X ((.inl (some (.int r)), h)) 0 [(0, .ref k0)] [] h := by
  unfold f_X1_holdOfAll at hf
  refine J_iconst hX 0 dX1_holdOfAll_0 rfl ?_
  refine J_istore_n hX [(1, .int 0), (0, .ref k0)] dX1_holdOfAll_1 rfl rfl rfl ?_
  refine J_iconst hX 0 dX1_holdOfAll_2 rfl ?_
  refine J_istore_n hX [(2, .int 0), (1, .int 0), (0, .ref k0)] dX1_holdOfAll_3 rfl rfl rfl ?_
  refine J_sub [2, 1, 0] [(0, .ref k0), (1, .int 0), (2, .int 0)] rfl ?_
  exact T_X1_holdOfAll_4 hX hdx h k0 hk0 FU 0 0 hf
set_option maxRecDepth 100000 in
set_option maxHeartbeats 200000 in
theorem C_X1_holdOfAll {G : GX} (hG : GOk G) {k0 : Nat} {h : Hp} {r : Int32} (hk0 : isCity k0) (hf : f_X1_holdOfAll k0 h = some r) : Ctr G 4 yX1_holdOfAll cX1_holdOfAll 3 (some .int) [.ref k0] h ((.inl (some (.int r)), h)) :=
  Ctr_of hG RX1 rfl (by decide) rfl (fun X _ hdx hX => T_X1_holdOfAll_0 hX hdx k0 hk0 h hf)
theorem dX1_put_0 : decode cX1_put 0 = .ok (.aload_n 0, 1) := by decide +kernel
theorem dX1_put_1 : decode cX1_put 1 = .ok (.iload_n 1, 1) := by decide +kernel
theorem dX1_put_2 : decode cX1_put 2 = .ok (.invokevirtual 101, 3) := by decide +kernel
theorem dX1_put_5 : decode cX1_put 5 = .ok (.ifCond .eq 10, 3) := by decide +kernel
theorem dX1_put_8 : decode cX1_put 8 = .ok (.aload_n 0, 1) := by decide +kernel
theorem dX1_put_9 : decode cX1_put 9 = .ok (.getfield 27, 3) := by decide +kernel
theorem dX1_put_12 : decode cX1_put 12 = .ok (.iload_n 1, 1) := by decide +kernel
theorem dX1_put_13 : decode cX1_put 13 = .ok (.iload_n 2, 1) := by decide +kernel
theorem dX1_put_14 : decode cX1_put 14 = .ok (.iastore, 1) := by decide +kernel
theorem dX1_put_15 : decode cX1_put 15 = .ok (.return_, 1) := by decide +kernel
set_option maxRecDepth 100000 in
set_option maxHeartbeats 200000 in
theorem T_X1_put_0 {X : CX} (hX : Ok X cX1_put 3 RX1 none) (hdx : dX X = 3) {r : Hp} (k0 : Nat) (hk0 : isCity k0) (x1 : Int32) (x2 : Int32) (h : Hp) (hf : f_X1_put k0 x1 x2 h = some r) : J X ((.inl none, r)) 0 [(0, .ref k0), (1, .int x1), (2, .int x2)] [] h := by
  unfold f_X1_put at hf
  refine J_aload_n hX 0 dX1_put_0 rfl rfl ?_
  refine J_iload_n hX 1 dX1_put_1 rfl rfl ?_
  refine V_1 hX [.int x1] dX1_put_2 cw_X1_101 (city_ob hk0) rfl (C_X1_isPerson (okG hX) hk0 rfl) (ltD hdx rfl) rfl rfl rfl rfl ?_
  rcases ifE hf with ⟨c_1, hf⟩ | ⟨c_1, hf⟩
  · refine J_if_eqF hX 15 dX1_put_5 rfl (b2iT c_1) ?_
    refine J_aload_n hX 0 dX1_put_8 rfl rfl ?_
    refine J_getR hX (k0 + 6) dX1_put_9 fl_X1_27 (city_ob hk0) rfl rfl ?_
    refine J_iload_n hX 1 dX1_put_12 rfl rfl ?_
    refine J_iload_n hX 2 dX1_put_13 rfl rfl ?_
    obtain ⟨g_2, hf⟩ := gdE hf
    obtain ⟨h_3, e_4, hf⟩ := bndE hf
    refine J_ast hX x1.toNatClampNeg x2 dX1_put_14 (city_ar 6 6 (by decide) hk0) (Or.inl ⟨rfl, rfl, rfl⟩) g_2 rfl ?_
    refine J_nmh e_4 ?_
    exact E_Vi hX dX1_put_15 hf
  · refine J_if_eqT hX 15 dX1_put_5 rfl (b2iF c_1) ?_
    exact E_Vi hX dX1_put_15 hf
set_option maxRecDepth 100000 in
set_option maxHeartbeats 200000 in
theorem C_X1_put {G : GX} (hG : GOk G) {k0 : Nat} {x1 : Int32} {x2 : Int32} {h : Hp} {r : Hp} (hk0 : isCity k0) (hf : f_X1_put k0 x1 x2 h = some r) : Ctr G 3 yX1_put cX1_put 3 none [.ref k0, .int x1, .int x2] h ((.inl none, r)) :=
  Ctr_of hG RX1 rfl (by decide) rfl (fun X _ hdx hX => T_X1_put_0 hX hdx k0 hk0 x1 x2 h hf)
theorem dX1_setDay_0 : decode cX1_setDay 0 = .ok (.aload_n 0, 1) := by decide +kernel
theorem dX1_setDay_1 : decode cX1_setDay 1 = .ok (.iload_n 1, 1) := by decide +kernel
theorem dX1_setDay_2 : decode cX1_setDay 2 = .ok (.iload_n 2, 1) := by decide +kernel
theorem dX1_setDay_3 : decode cX1_setDay 3 = .ok (.invokevirtual 111, 3) := by decide +kernel
theorem dX1_setDay_6 : decode cX1_setDay 6 = .ok (.iload_n 3, 1) := by decide +kernel
theorem dX1_setDay_7 : decode cX1_setDay 7 = .ok (.if_icmp .eq 7, 3) := by decide +kernel
theorem dX1_setDay_10 : decode cX1_setDay 10 = .ok (.iconst 1, 1) := by decide +kernel
theorem dX1_setDay_11 : decode cX1_setDay 11 = .ok (.goto 4, 3) := by decide +kernel
theorem dX1_setDay_14 : decode cX1_setDay 14 = .ok (.iconst 0, 1) := by decide +kernel
theorem dX1_setDay_15 : decode cX1_setDay 15 = .ok (.istore 4, 2) := by decide +kernel
theorem dX1_setDay_17 : decode cX1_setDay 17 = .ok (.iload 4, 2) := by decide +kernel
theorem dX1_setDay_19 : decode cX1_setDay 19 = .ok (.ifCond .eq 23, 3) := by decide +kernel
theorem dX1_setDay_22 : decode cX1_setDay 22 = .ok (.aload_n 0, 1) := by decide +kernel
theorem dX1_setDay_23 : decode cX1_setDay 23 = .ok (.iload_n 1, 1) := by decide +kernel
theorem dX1_setDay_24 : decode cX1_setDay 24 = .ok (.invokevirtual 101, 3) := by decide +kernel
theorem dX1_setDay_27 : decode cX1_setDay 27 = .ok (.ifCond .eq 15, 3) := by decide +kernel
theorem dX1_setDay_30 : decode cX1_setDay 30 = .ok (.aload_n 0, 1) := by decide +kernel
theorem dX1_setDay_31 : decode cX1_setDay 31 = .ok (.getfield 33, 3) := by decide +kernel
theorem dX1_setDay_34 : decode cX1_setDay 34 = .ok (.iload_n 1, 1) := by decide +kernel
theorem dX1_setDay_35 : decode cX1_setDay 35 = .ok (.dup2, 1) := by decide +kernel
theorem dX1_setDay_36 : decode cX1_setDay 36 = .ok (.iaload, 1) := by decide +kernel
theorem dX1_setDay_37 : decode cX1_setDay 37 = .ok (.iconst 1, 1) := by decide +kernel
theorem dX1_setDay_38 : decode cX1_setDay 38 = .ok (.iload_n 2, 1) := by decide +kernel
theorem dX1_setDay_39 : decode cX1_setDay 39 = .ok (.ishl, 1) := by decide +kernel
theorem dX1_setDay_40 : decode cX1_setDay 40 = .ok (.ixor, 1) := by decide +kernel
theorem dX1_setDay_41 : decode cX1_setDay 41 = .ok (.iastore, 1) := by decide +kernel
theorem dX1_setDay_42 : decode cX1_setDay 42 = .ok (.iload 4, 2) := by decide +kernel
theorem dX1_setDay_44 : decode cX1_setDay 44 = .ok (.ireturn, 1) := by decide +kernel
set_option maxRecDepth 100000 in
set_option maxHeartbeats 200000 in
theorem T_X1_setDay_15 {X : CX} (hX : Ok X cX1_setDay 5 RX1 (some .boolean)) (hdx : dX X = 4) {r : Bool × Hp} (k0 : Nat) (hk0 : isCity k0) (x1 : Int32) (x2 : Int32) (t0 : Int32) (h : Hp) (hf : F_X1_setDay_15 k0 x1 x2 t0 h = some r) : J X ((.inl (some (.int (b2i r.1))), r.2)) 15 [(0, .ref k0), (1, .int x1), (2, .int x2)] [.int t0] h := by
  unfold F_X1_setDay_15 at hf
  refine J_istore hX [(4, .int t0), (0, .ref k0), (1, .int x1), (2, .int x2)] dX1_setDay_15 rfl rfl ?_
  refine J_iload hX 0 dX1_setDay_17 rfl ?_
  rcases ifE hf with ⟨c_1, hf⟩ | ⟨c_1, hf⟩
  · refine J_if_eqT hX 42 dX1_setDay_19 rfl c_1 ?_
    refine J_iload hX 0 dX1_setDay_42 rfl ?_
    obtain ⟨b_2, e_3, hf⟩ := bdE hf
    exact E_Zi hX dX1_setDay_44 (toBE e_3) hf
  · refine J_if_eqF hX 42 dX1_setDay_19 rfl c_1 ?_
    refine J_aload_n hX 1 dX1_setDay_22 rfl rfl ?_
    refine J_iload_n hX 2 dX1_setDay_23 rfl rfl ?_
    refine V_1 hX [.int x1] dX1_setDay_24 cw_X1_101 (city_ob hk0) rfl (C_X1_isPerson (okG hX) hk0 rfl) (ltD hdx rfl) rfl rfl rfl rfl ?_
    rcases ifE hf with ⟨c_4, hf⟩ | ⟨c_4, hf⟩
    · refine J_if_eqF hX 42 dX1_setDay_27 rfl (b2iT c_4) ?_
      refine J_aload_n hX 1 dX1_setDay_30 rfl rfl ?_
      refine J_getR hX (k0 + 8) dX1_setDay_31 fl_X1_33 (city_ob hk0) rfl rfl ?_
      refine J_iload_n hX 2 dX1_setDay_34 rfl rfl ?_
      refine J_dup2 hX dX1_setDay_35 rfl rfl ?_
      obtain ⟨g_5, hf⟩ := gdE hf
      refine J_ald hX x1.toNatClampNeg dX1_setDay_36 (city_ar 8 6 (by decide) hk0) (Or.inl ⟨rfl, rfl⟩) g_5 rfl ?_
      refine J_iconst hX 1 dX1_setDay_37 rfl ?_
      refine J_iload_n hX 3 dX1_setDay_38 rfl rfl ?_
      refine J_ishl hX dX1_setDay_39 ?_
      refine J_ixor hX dX1_setDay_40 ?_
      obtain ⟨g_6, hf⟩ := gdE hf
      obtain ⟨h_7, e_8, hf⟩ := bndE hf
      refine J_ast hX x1.toNatClampNeg ((h (k0 + 8) x1.toNatClampNeg) ^^^ (shl 1 x2)) dX1_setDay_41 (city_ar 8 6 (by decide) hk0) (Or.inl ⟨rfl, rfl, rfl⟩) g_6 rfl ?_
      refine J_nmh e_8 ?_
      refine J_iload hX 0 dX1_setDay_42 rfl ?_
      obtain ⟨b_9, e_10, hf⟩ := bdE hf
      exact E_Zi hX dX1_setDay_44 (toBE e_10) hf
    · refine J_if_eqT hX 42 dX1_setDay_27 rfl (b2iF c_4) ?_
      refine J_iload hX 0 dX1_setDay_42 rfl ?_
      obtain ⟨b_11, e_12, hf⟩ := bdE hf
      exact E_Zi hX dX1_setDay_44 (toBE e_12) hf
set_option maxRecDepth 100000 in
set_option maxHeartbeats 200000 in
theorem T_X1_setDay_0 {X : CX} (hX : Ok X cX1_setDay 5 RX1 (some .boolean)) (hdx : dX X = 4) {r : Bool × Hp} (k0 : Nat) (hk0 : isCity k0) (x1 : Int32) (x2 : Int32) (x3 : Int32) (h : Hp) (hf : f_X1_setDay k0 x1 x2 x3 h = some r) : J X ((.inl (some (.int (b2i r.1))), r.2)) 0 [(0, .ref k0), (1, .int x1), (2, .int x2), (3, .int x3)] [] h := by
  unfold f_X1_setDay at hf
  refine J_aload_n hX 0 dX1_setDay_0 rfl rfl ?_
  refine J_iload_n hX 1 dX1_setDay_1 rfl rfl ?_
  refine J_iload_n hX 2 dX1_setDay_2 rfl rfl ?_
  obtain ⟨r_1, e_2, hf⟩ := bdE hf
  refine V_1 hX [.int x1, .int x2] dX1_setDay_3 cw_X1_111 (city_ob hk0) rfl (C_X1_isThere (okG hX) hk0 e_2) (ltD hdx rfl) rfl rfl rfl rfl ?_
  refine J_iload_n hX 3 dX1_setDay_6 rfl rfl ?_
  rcases ifE hf with ⟨c_3, hf⟩ | ⟨c_3, hf⟩
  · refine J_icmp_eqT hX 14 dX1_setDay_7 rfl c_3 ?_
    refine J_iconst hX 0 dX1_setDay_14 rfl ?_
    refine J_sub [0, 1, 2] [(0, .ref k0), (1, .int x1), (2, .int x2)] rfl ?_
    exact T_X1_setDay_15 hX hdx k0 hk0 x1 x2 0 h hf
  · refine J_icmp_eqF hX 14 dX1_setDay_7 rfl c_3 ?_
    refine J_iconst hX 1 dX1_setDay_10 rfl ?_
    refine J_goto hX 15 dX1_setDay_11 rfl ?_
    refine J_sub [0, 1, 2] [(0, .ref k0), (1, .int x1), (2, .int x2)] rfl ?_
    exact T_X1_setDay_15 hX hdx k0 hk0 x1 x2 1 h hf
set_option maxRecDepth 100000 in
set_option maxHeartbeats 200000 in
theorem C_X1_setDay {G : GX} (hG : GOk G) {k0 : Nat} {x1 : Int32} {x2 : Int32} {x3 : Int32} {h : Hp} {r : Bool × Hp} (hk0 : isCity k0) (hf : f_X1_setDay k0 x1 x2 x3 h = some r) : Ctr G 4 yX1_setDay cX1_setDay 5 (some .boolean) [.ref k0, .int x1, .int x2, .int x3] h ((.inl (some (.int (b2i r.1))), r.2)) :=
  Ctr_of hG RX1 rfl (by decide) rfl (fun X _ hdx hX => T_X1_setDay_0 hX hdx k0 hk0 x1 x2 x3 h hf)
theorem dX1_takeDown_0 : decode cX1_takeDown 0 = .ok (.aload_n 0, 1) := by decide +kernel
theorem dX1_takeDown_1 : decode cX1_takeDown 1 = .ok (.iload_n 1, 1) := by decide +kernel
theorem dX1_takeDown_2 : decode cX1_takeDown 2 = .ok (.invokevirtual 81, 3) := by decide +kernel
theorem dX1_takeDown_5 : decode cX1_takeDown 5 = .ok (.ifCond .ne 4, 3) := by decide +kernel
theorem dX1_takeDown_8 : decode cX1_takeDown 8 = .ok (.return_, 1) := by decide +kernel
theorem dX1_takeDown_9 : decode cX1_takeDown 9 = .ok (.aload_n 0, 1) := by decide +kernel
theorem dX1_takeDown_10 : decode cX1_takeDown 10 = .ok (.dup, 1) := by decide +kernel
theorem dX1_takeDown_11 : decode cX1_takeDown 11 = .ok (.getfield 66, 3) := by decide +kernel
theorem dX1_takeDown_14 : decode cX1_takeDown 14 = .ok (.iconst 1, 1) := by decide +kernel
theorem dX1_takeDown_15 : decode cX1_takeDown 15 = .ok (.iload_n 1, 1) := by decide +kernel
theorem dX1_takeDown_16 : decode cX1_takeDown 16 = .ok (.ishl, 1) := by decide +kernel
theorem dX1_takeDown_17 : decode cX1_takeDown 17 = .ok (.iconst (-1), 1) := by decide +kernel
theorem dX1_takeDown_18 : decode cX1_takeDown 18 = .ok (.ixor, 1) := by decide +kernel
theorem dX1_takeDown_19 : decode cX1_takeDown 19 = .ok (.iand, 1) := by decide +kernel
theorem dX1_takeDown_20 : decode cX1_takeDown 20 = .ok (.putfield 66, 3) := by decide +kernel
theorem dX1_takeDown_23 : decode cX1_takeDown 23 = .ok (.iconst 0, 1) := by decide +kernel
theorem dX1_takeDown_24 : decode cX1_takeDown 24 = .ok (.istore_n 2, 1) := by decide +kernel
theorem dX1_takeDown_25 : decode cX1_takeDown 25 = .ok (.iload_n 2, 1) := by decide +kernel
theorem dX1_takeDown_26 : decode cX1_takeDown 26 = .ok (.bipush 8, 2) := by decide +kernel
theorem dX1_takeDown_28 : decode cX1_takeDown 28 = .ok (.if_icmp .ge 33, 3) := by decide +kernel
theorem dX1_takeDown_31 : decode cX1_takeDown 31 = .ok (.aload_n 0, 1) := by decide +kernel
theorem dX1_takeDown_32 : decode cX1_takeDown 32 = .ok (.getfield 24, 3) := by decide +kernel
theorem dX1_takeDown_35 : decode cX1_takeDown 35 = .ok (.iload_n 1, 1) := by decide +kernel
theorem dX1_takeDown_36 : decode cX1_takeDown 36 = .ok (.bipush 8, 2) := by decide +kernel
theorem dX1_takeDown_38 : decode cX1_takeDown 38 = .ok (.imul, 1) := by decide +kernel
theorem dX1_takeDown_39 : decode cX1_takeDown 39 = .ok (.iload_n 2, 1) := by decide +kernel
theorem dX1_takeDown_40 : decode cX1_takeDown 40 = .ok (.iadd, 1) := by decide +kernel
theorem dX1_takeDown_41 : decode cX1_takeDown 41 = .ok (.iconst 0, 1) := by decide +kernel
theorem dX1_takeDown_42 : decode cX1_takeDown 42 = .ok (.iastore, 1) := by decide +kernel
theorem dX1_takeDown_43 : decode cX1_takeDown 43 = .ok (.aload_n 0, 1) := by decide +kernel
theorem dX1_takeDown_44 : decode cX1_takeDown 44 = .ok (.getfield 24, 3) := by decide +kernel
theorem dX1_takeDown_47 : decode cX1_takeDown 47 = .ok (.iload_n 2, 1) := by decide +kernel
theorem dX1_takeDown_48 : decode cX1_takeDown 48 = .ok (.bipush 8, 2) := by decide +kernel
theorem dX1_takeDown_50 : decode cX1_takeDown 50 = .ok (.imul, 1) := by decide +kernel
theorem dX1_takeDown_51 : decode cX1_takeDown 51 = .ok (.iload_n 1, 1) := by decide +kernel
theorem dX1_takeDown_52 : decode cX1_takeDown 52 = .ok (.iadd, 1) := by decide +kernel
theorem dX1_takeDown_53 : decode cX1_takeDown 53 = .ok (.iconst 0, 1) := by decide +kernel
theorem dX1_takeDown_54 : decode cX1_takeDown 54 = .ok (.iastore, 1) := by decide +kernel
theorem dX1_takeDown_55 : decode cX1_takeDown 55 = .ok (.iinc 2 1, 3) := by decide +kernel
theorem dX1_takeDown_58 : decode cX1_takeDown 58 = .ok (.goto (-33), 3) := by decide +kernel
theorem dX1_takeDown_61 : decode cX1_takeDown 61 = .ok (.iconst 0, 1) := by decide +kernel
theorem dX1_takeDown_62 : decode cX1_takeDown 62 = .ok (.istore_n 2, 1) := by decide +kernel
theorem dX1_takeDown_63 : decode cX1_takeDown 63 = .ok (.iload_n 2, 1) := by decide +kernel
theorem dX1_takeDown_64 : decode cX1_takeDown 64 = .ok (.bipush 6, 2) := by decide +kernel
theorem dX1_takeDown_66 : decode cX1_takeDown 66 = .ok (.if_icmp .ge 26, 3) := by decide +kernel
theorem dX1_takeDown_69 : decode cX1_takeDown 69 = .ok (.aload_n 0, 1) := by decide +kernel
theorem dX1_takeDown_70 : decode cX1_takeDown 70 = .ok (.getfield 27, 3) := by decide +kernel
theorem dX1_takeDown_73 : decode cX1_takeDown 73 = .ok (.iload_n 2, 1) := by decide +kernel
theorem dX1_takeDown_74 : decode cX1_takeDown 74 = .ok (.iaload, 1) := by decide +kernel
theorem dX1_takeDown_75 : decode cX1_takeDown 75 = .ok (.iload_n 1, 1) := by decide +kernel
theorem dX1_takeDown_76 : decode cX1_takeDown 76 = .ok (.if_icmp .ne 10, 3) := by decide +kernel
theorem dX1_takeDown_79 : decode cX1_takeDown 79 = .ok (.aload_n 0, 1) := by decide +kernel
theorem dX1_takeDown_80 : decode cX1_takeDown 80 = .ok (.getfield 27, 3) := by decide +kernel
theorem dX1_takeDown_83 : decode cX1_takeDown 83 = .ok (.iload_n 2, 1) := by decide +kernel
theorem dX1_takeDown_84 : decode cX1_takeDown 84 = .ok (.iconst (-1), 1) := by decide +kernel
theorem dX1_takeDown_85 : decode cX1_takeDown 85 = .ok (.iastore, 1) := by decide +kernel
theorem dX1_takeDown_86 : decode cX1_takeDown 86 = .ok (.iinc 2 1, 3) := by decide +kernel
theorem dX1_takeDown_89 : decode cX1_takeDown 89 = .ok (.goto (-26), 3) := by decide +kernel
theorem dX1_takeDown_92 : decode cX1_takeDown 92 = .ok (.return_, 1) := by decide +kernel
set_option maxRecDepth 100000 in
set_option maxHeartbeats 200000 in
theorem T_X1_takeDown_63_s {X : CX} (hX : Ok X cX1_takeDown 3 RX1 none) (hdx : dX X = 3) {r : Hp} (k0 : Nat) (hk0 : isCity k0) (x1 : Int32) (q_63 : Int32 → Hp → Option Hp) (hq_63 : ∀ (x2 : Int32) (h : Hp), q_63 x2 h = some r → J X ((.inl none, r)) 63 [(0, .ref k0), (1, .int x1), (2, .int x2)] [] h) (x2 : Int32) (h : Hp) (hf : S_X1_takeDown_63 k0 x1 q_63 x2 h = some r) : J X ((.inl none, r)) 63 [(0, .ref k0), (1, .int x1), (2, .int x2)] [] h := by
  unfold S_X1_takeDown_63 at hf
  refine J_iload_n hX 2 dX1_takeDown_63 rfl rfl ?_
  refine J_bipush hX 6 dX1_takeDown_64 rfl ?_
  rcases ifE hf with ⟨c_1, hf⟩ | ⟨c_1, hf⟩
  · refine J_icmp_geF hX 92 dX1_takeDown_66 rfl c_1 ?_
    refine J_aload_n hX 0 dX1_takeDown_69 rfl rfl ?_
    refine J_getR hX (k0 + 6) dX1_takeDown_70 fl_X1_27 (city_ob hk0) rfl rfl ?_
    refine J_iload_n hX 2 dX1_takeDown_73 rfl rfl ?_
    obtain ⟨g_2, hf⟩ := gdE hf
    refine J_ald hX x2.toNatClampNeg dX1_takeDown_74 (city_ar 6 6 (by decide) hk0) (Or.inl ⟨rfl, rfl⟩) g_2 rfl ?_
    refine J_iload_n hX 1 dX1_takeDown_75 rfl rfl ?_
    rcases ifE hf with ⟨c_3, hf⟩ | ⟨c_3, hf⟩
    · refine J_icmp_neF hX 86 dX1_takeDown_76 rfl c_3 ?_
      refine J_aload_n hX 0 dX1_takeDown_79 rfl rfl ?_
      refine J_getR hX (k0 + 6) dX1_takeDown_80 fl_X1_27 (city_ob hk0) rfl rfl ?_
      refine J_iload_n hX 2 dX1_takeDown_83 rfl rfl ?_
      refine J_iconst hX (-1) dX1_takeDown_84 rfl ?_
      obtain ⟨g_4, hf⟩ := gdE hf
      obtain ⟨h_5, e_6, hf⟩ := bndE hf
      refine J_ast hX x2.toNatClampNeg (-1) dX1_takeDown_85 (city_ar 6 6 (by decide) hk0) (Or.inl ⟨rfl, rfl, rfl⟩) g_4 rfl ?_
      refine J_nmh e_6 ?_
      refine J_iinc hX (x2 + 1) 2 [(2, .int (x2 + 1)), (0, .ref k0), (1, .int x1)] dX1_takeDown_86 rfl rfl rfl rfl ?_
      refine J_goto hX 63 dX1_takeDown_89 rfl ?_
      refine J_sub [1, 2, 0] [(0, .ref k0), (1, .int x1), (2, .int (x2 + 1))] rfl ?_
      exact hq_63 (x2 + 1) h_5 hf
    · refine J_icmp_neT hX 86 dX1_takeDown_76 rfl c_3 ?_
      refine J_iinc hX (x2 + 1) 2 [(2, .int (x2 + 1)), (0, .ref k0), (1, .int x1)] dX1_takeDown_86 rfl rfl rfl rfl ?_
      refine J_goto hX 63 dX1_takeDown_89 rfl ?_
      refine J_sub [1, 2, 0] [(0, .ref k0), (1, .int x1), (2, .int (x2 + 1))] rfl ?_
      exact hq_63 (x2 + 1) h hf
  · refine J_icmp_geT hX 92 dX1_takeDown_66 rfl c_1 ?_
    exact E_Vi hX dX1_takeDown_92 hf
set_option maxRecDepth 100000 in
set_option maxHeartbeats 200000 in
theorem T_X1_takeDown_63 {X : CX} (hX : Ok X cX1_takeDown 3 RX1 none) (hdx : dX X = 3) {r : Hp} (k0 : Nat) (hk0 : isCity k0) (x1 : Int32) : ∀ (n : Nat) (x2 : Int32) (h : Hp), F_X1_takeDown_63 k0 x1 n x2 h = some r → J X ((.inl none, r)) 63 [(0, .ref k0), (1, .int x1), (2, .int x2)] [] h := by
  intro n
  induction n with
  | zero => intro x2 h hf; exact nomatch hf
  | succ n ih => intro x2 h hf; exact T_X1_takeDown_63_s hX hdx k0 hk0 x1 _ (fun x2 h hf => ih x2 h hf) x2 h hf
set_option maxRecDepth 100000 in
set_option maxHeartbeats 200000 in
theorem T_X1_takeDown_25_s {X : CX} (hX : Ok X cX1_takeDown 3 RX1 none) (hdx : dX X = 3) {r : Hp} (k0 : Nat) (hk0 : isCity k0) (x1 : Int32) (q_25 : Int32 → Hp → Option Hp) (hq_25 : ∀ (x2 : Int32) (h : Hp), q_25 x2 h = some r → J X ((.inl none, r)) 25 [(0, .ref k0), (1, .int x1), (2, .int x2)] [] h) (x2 : Int32) (h : Hp) (hf : S_X1_takeDown_25 k0 x1 q_25 x2 h = some r) : J X ((.inl none, r)) 25 [(0, .ref k0), (1, .int x1), (2, .int x2)] [] h := by
  unfold S_X1_takeDown_25 at hf
  refine J_iload_n hX 2 dX1_takeDown_25 rfl rfl ?_
  refine J_bipush hX 8 dX1_takeDown_26 rfl ?_
  rcases ifE hf with ⟨c_1, hf⟩ | ⟨c_1, hf⟩
  · refine J_icmp_geF hX 61 dX1_takeDown_28 rfl c_1 ?_
    refine J_aload_n hX 0 dX1_takeDown_31 rfl rfl ?_
    refine J_getR hX (k0 + 5) dX1_takeDown_32 fl_X1_24 (city_ob hk0) rfl rfl ?_
    refine J_iload_n hX 1 dX1_takeDown_35 rfl rfl ?_
    refine J_bipush hX 8 dX1_takeDown_36 rfl ?_
    refine J_imul hX dX1_takeDown_38 ?_
    refine J_iload_n hX 2 dX1_takeDown_39 rfl rfl ?_
    refine J_iadd hX dX1_takeDown_40 ?_
    refine J_iconst hX 0 dX1_takeDown_41 rfl ?_
    obtain ⟨g_2, hf⟩ := gdE hf
    obtain ⟨h_3, e_4, hf⟩ := bndE hf
    refine J_ast hX (((x1 * 8) + x2).toNatClampNeg) 0 dX1_takeDown_42 (city_ar 5 64 (by decide) hk0) (Or.inl ⟨rfl, rfl, rfl⟩) g_2 rfl ?_
    refine J_nmh e_4 ?_
    refine J_aload_n hX 0 dX1_takeDown_43 rfl rfl ?_
    refine J_getR hX (k0 + 5) dX1_takeDown_44 fl_X1_24 (city_ob hk0) rfl rfl ?_
    refine J_iload_n hX 2 dX1_takeDown_47 rfl rfl ?_
    refine J_bipush hX 8 dX1_takeDown_48 rfl ?_
    refine J_imul hX dX1_takeDown_50 ?_
    refine J_iload_n hX 1 dX1_takeDown_51 rfl rfl ?_
    refine J_iadd hX dX1_takeDown_52 ?_
    refine J_iconst hX 0 dX1_takeDown_53 rfl ?_
    obtain ⟨g_5, hf⟩ := gdE hf
    obtain ⟨h_6, e_7, hf⟩ := bndE hf
    refine J_ast hX (((x2 * 8) + x1).toNatClampNeg) 0 dX1_takeDown_54 (city_ar 5 64 (by decide) hk0) (Or.inl ⟨rfl, rfl, rfl⟩) g_5 rfl ?_
    refine J_nmh e_7 ?_
    refine J_iinc hX (x2 + 1) 2 [(2, .int (x2 + 1)), (0, .ref k0), (1, .int x1)] dX1_takeDown_55 rfl rfl rfl rfl ?_
    refine J_goto hX 25 dX1_takeDown_58 rfl ?_
    refine J_sub [1, 2, 0] [(0, .ref k0), (1, .int x1), (2, .int (x2 + 1))] rfl ?_
    exact hq_25 (x2 + 1) h_6 hf
  · refine J_icmp_geT hX 61 dX1_takeDown_28 rfl c_1 ?_
    refine J_iconst hX 0 dX1_takeDown_61 rfl ?_
    refine J_istore_n hX [(2, .int 0), (0, .ref k0), (1, .int x1)] dX1_takeDown_62 rfl rfl rfl ?_
    refine J_sub [1, 2, 0] [(0, .ref k0), (1, .int x1), (2, .int 0)] rfl ?_
    exact T_X1_takeDown_63 hX hdx k0 hk0 x1 FU 0 h hf
set_option maxRecDepth 100000 in
set_option maxHeartbeats 200000 in
theorem T_X1_takeDown_25 {X : CX} (hX : Ok X cX1_takeDown 3 RX1 none) (hdx : dX X = 3) {r : Hp} (k0 : Nat) (hk0 : isCity k0) (x1 : Int32) : ∀ (n : Nat) (x2 : Int32) (h : Hp), F_X1_takeDown_25 k0 x1 n x2 h = some r → J X ((.inl none, r)) 25 [(0, .ref k0), (1, .int x1), (2, .int x2)] [] h := by
  intro n
  induction n with
  | zero => intro x2 h hf; exact nomatch hf
  | succ n ih => intro x2 h hf; exact T_X1_takeDown_25_s hX hdx k0 hk0 x1 _ (fun x2 h hf => ih x2 h hf) x2 h hf
set_option maxRecDepth 100000 in
set_option maxHeartbeats 200000 in
theorem T_X1_takeDown_0 {X : CX} (hX : Ok X cX1_takeDown 3 RX1 none) (hdx : dX X = 3) {r : Hp} (k0 : Nat) (hk0 : isCity k0) (x1 : Int32) (h : Hp) (hf : f_X1_takeDown k0 x1 h = some r) : J X ((.inl none, r)) 0 [(0, .ref k0), (1, .int x1)] [] h := by
  unfold f_X1_takeDown at hf
  refine J_aload_n hX 0 dX1_takeDown_0 rfl rfl ?_
  refine J_iload_n hX 1 dX1_takeDown_1 rfl rfl ?_
  refine V_1 hX [.int x1] dX1_takeDown_2 cw_X1_81 (city_ob hk0) rfl (C_X1_isHouse (okG hX) hk0 rfl) (ltD hdx rfl) rfl rfl rfl rfl ?_
  rcases ifE hf with ⟨c_1, hf⟩ | ⟨c_1, hf⟩
  · refine J_if_neT hX 9 dX1_takeDown_5 rfl (b2iT c_1) ?_
    refine J_aload_n hX 0 dX1_takeDown_9 rfl rfl ?_
    refine J_dup hX dX1_takeDown_10 rfl ?_
    refine J_getI hX dX1_takeDown_11 fl_X1_66 (city_ob hk0) rfl ?_
    refine J_iconst hX 1 dX1_takeDown_14 rfl ?_
    refine J_iload_n hX 1 dX1_takeDown_15 rfl rfl ?_
    refine J_ishl hX dX1_takeDown_16 ?_
    refine J_iconst hX (-1) dX1_takeDown_17 rfl ?_
    refine J_ixor hX dX1_takeDown_18 ?_
    refine J_iand hX dX1_takeDown_19 ?_
    obtain ⟨h_2, e_3, hf⟩ := bndE hf
    refine J_putI hX dX1_takeDown_20 fl_X1_66 fw_1_11 (city_ob hk0) rfl rfl rfl ?_
    refine J_nmh e_3 ?_
    refine J_iconst hX 0 dX1_takeDown_23 rfl ?_
    refine J_istore_n hX [(2, .int 0), (0, .ref k0), (1, .int x1)] dX1_takeDown_24 rfl rfl rfl ?_
    refine J_sub [1, 2, 0] [(0, .ref k0), (1, .int x1), (2, .int 0)] rfl ?_
    exact T_X1_takeDown_25 hX hdx k0 hk0 x1 FU 0 h_2 hf
  · refine J_if_neF hX 9 dX1_takeDown_5 rfl (b2iF c_1) ?_
    exact E_Vi hX dX1_takeDown_8 hf
set_option maxRecDepth 100000 in
set_option maxHeartbeats 200000 in
theorem C_X1_takeDown {G : GX} (hG : GOk G) {k0 : Nat} {x1 : Int32} {h : Hp} {r : Hp} (hk0 : isCity k0) (hf : f_X1_takeDown k0 x1 h = some r) : Ctr G 3 yX1_takeDown cX1_takeDown 3 none [.ref k0, .int x1] h ((.inl none, r)) :=
  Ctr_of hG RX1 rfl (by decide) rfl (fun X _ hdx hX => T_X1_takeDown_0 hX hdx k0 hk0 x1 h hf)
theorem dX1_leansOn_0 : decode cX1_leansOn 0 = .ok (.iconst 0, 1) := by decide +kernel
theorem dX1_leansOn_1 : decode cX1_leansOn 1 = .ok (.istore_n 2, 1) := by decide +kernel
theorem dX1_leansOn_2 : decode cX1_leansOn 2 = .ok (.iconst 0, 1) := by decide +kernel
theorem dX1_leansOn_3 : decode cX1_leansOn 3 = .ok (.istore_n 3, 1) := by decide +kernel
theorem dX1_leansOn_4 : decode cX1_leansOn 4 = .ok (.iload_n 3, 1) := by decide +kernel
theorem dX1_leansOn_5 : decode cX1_leansOn 5 = .ok (.bipush 8, 2) := by decide +kernel
theorem dX1_leansOn_7 : decode cX1_leansOn 7 = .ok (.if_icmp .ge 24, 3) := by decide +kernel
theorem dX1_leansOn_10 : decode cX1_leansOn 10 = .ok (.aload_n 0, 1) := by decide +kernel
theorem dX1_leansOn_11 : decode cX1_leansOn 11 = .ok (.iload_n 1, 1) := by decide +kernel
theorem dX1_leansOn_12 : decode cX1_leansOn 12 = .ok (.iload_n 3, 1) := by decide +kernel
theorem dX1_leansOn_13 : decode cX1_leansOn 13 = .ok (.invokevirtual 85, 3) := by decide +kernel
theorem dX1_leansOn_16 : decode cX1_leansOn 16 = .ok (.ifCond .le 9, 3) := by decide +kernel
theorem dX1_leansOn_19 : decode cX1_leansOn 19 = .ok (.iload_n 2, 1) := by decide +kernel
theorem dX1_leansOn_20 : decode cX1_leansOn 20 = .ok (.iconst 1, 1) := by decide +kernel
theorem dX1_leansOn_21 : decode cX1_leansOn 21 = .ok (.iload_n 3, 1) := by decide +kernel
theorem dX1_leansOn_22 : decode cX1_leansOn 22 = .ok (.ishl, 1) := by decide +kernel
theorem dX1_leansOn_23 : decode cX1_leansOn 23 = .ok (.ior, 1) := by decide +kernel
theorem dX1_leansOn_24 : decode cX1_leansOn 24 = .ok (.istore_n 2, 1) := by decide +kernel
theorem dX1_leansOn_25 : decode cX1_leansOn 25 = .ok (.iinc 3 1, 3) := by decide +kernel
theorem dX1_leansOn_28 : decode cX1_leansOn 28 = .ok (.goto (-24), 3) := by decide +kernel
theorem dX1_leansOn_31 : decode cX1_leansOn 31 = .ok (.iload_n 2, 1) := by decide +kernel
theorem dX1_leansOn_32 : decode cX1_leansOn 32 = .ok (.ireturn, 1) := by decide +kernel
set_option maxRecDepth 100000 in
set_option maxHeartbeats 200000 in
theorem T_X1_leansOn_4_s {X : CX} (hX : Ok X cX1_leansOn 4 RX1 (some .int)) (hdx : dX X = 4) {r : Int32} (h : Hp) (k0 : Nat) (hk0 : isCity k0) (x1 : Int32) (q_4 : Int32 → Int32 → Option Int32) (hq_4 : ∀ (x2 : Int32) (x3 : Int32), q_4 x2 x3 = some r → J X ((.inl (some (.int r)), h)) 4 [(0, .ref k0), (1, .int x1), (2, .int x2), (3, .int x3)] [] h) (x2 : Int32) (x3 : Int32) (hf : S_X1_leansOn_4 h k0 x1 q_4 x2 x3 = some r) : J X ((.inl (some (.int r)), h)) 4 [(0, .ref k0), (1, .int x1), (2, .int x2), (3, .int x3)] [] h := by
  unfold S_X1_leansOn_4 at hf
  refine J_iload_n hX 3 dX1_leansOn_4 rfl rfl ?_
  refine J_bipush hX 8 dX1_leansOn_5 rfl ?_
  rcases ifE hf with ⟨c_1, hf⟩ | ⟨c_1, hf⟩
  · refine J_icmp_geF hX 31 dX1_leansOn_7 rfl c_1 ?_
    refine J_aload_n hX 0 dX1_leansOn_10 rfl rfl ?_
    refine J_iload_n hX 1 dX1_leansOn_11 rfl rfl ?_
    refine J_iload_n hX 3 dX1_leansOn_12 rfl rfl ?_
    obtain ⟨r_2, e_3, hf⟩ := bdE hf
    refine V_1 hX [.int x1, .int x3] dX1_leansOn_13 cw_X1_85 (city_ob hk0) rfl (C_X1_partOf (okG hX) hk0 e_3) (ltD hdx rfl) rfl rfl rfl rfl ?_
    rcases ifE hf with ⟨c_4, hf⟩ | ⟨c_4, hf⟩
    · refine J_if_leF hX 25 dX1_leansOn_16 rfl c_4 ?_
      refine J_iload_n hX 2 dX1_leansOn_19 rfl rfl ?_
      refine J_iconst hX 1 dX1_leansOn_20 rfl ?_
      refine J_iload_n hX 3 dX1_leansOn_21 rfl rfl ?_
      refine J_ishl hX dX1_leansOn_22 ?_
      refine J_ior hX dX1_leansOn_23 ?_
      obtain ⟨x2_5, e_6, hf⟩ := bndE hf
      refine J_nm e_6 ?_
      refine J_istore_n hX [(2, .int x2_5), (0, .ref k0), (1, .int x1), (3, .int x3)] dX1_leansOn_24 rfl rfl rfl ?_
      refine J_iinc hX (x3 + 1) 3 [(3, .int (x3 + 1)), (2, .int x2_5), (0, .ref k0), (1, .int x1)] dX1_leansOn_25 rfl rfl rfl rfl ?_
      refine J_goto hX 4 dX1_leansOn_28 rfl ?_
      refine J_sub [2, 3, 1, 0] [(0, .ref k0), (1, .int x1), (2, .int x2_5), (3, .int (x3 + 1))] rfl ?_
      exact hq_4 x2_5 (x3 + 1) hf
    · refine J_if_leT hX 25 dX1_leansOn_16 rfl c_4 ?_
      refine J_iinc hX (x3 + 1) 3 [(3, .int (x3 + 1)), (0, .ref k0), (1, .int x1), (2, .int x2)] dX1_leansOn_25 rfl rfl rfl rfl ?_
      refine J_goto hX 4 dX1_leansOn_28 rfl ?_
      refine J_sub [1, 2, 3, 0] [(0, .ref k0), (1, .int x1), (2, .int x2), (3, .int (x3 + 1))] rfl ?_
      exact hq_4 x2 (x3 + 1) hf
  · refine J_icmp_geT hX 31 dX1_leansOn_7 rfl c_1 ?_
    refine J_iload_n hX 2 dX1_leansOn_31 rfl rfl ?_
    exact E_Ip hX dX1_leansOn_32 hf
set_option maxRecDepth 100000 in
set_option maxHeartbeats 200000 in
theorem T_X1_leansOn_4 {X : CX} (hX : Ok X cX1_leansOn 4 RX1 (some .int)) (hdx : dX X = 4) {r : Int32} (h : Hp) (k0 : Nat) (hk0 : isCity k0) (x1 : Int32) : ∀ (n : Nat) (x2 : Int32) (x3 : Int32), F_X1_leansOn_4 h k0 x1 n x2 x3 = some r → J X ((.inl (some (.int r)), h)) 4 [(0, .ref k0), (1, .int x1), (2, .int x2), (3, .int x3)] [] h := by
  intro n
  induction n with
  | zero => intro x2 x3 hf; exact nomatch hf
  | succ n ih => intro x2 x3 hf; exact T_X1_leansOn_4_s hX hdx h k0 hk0 x1 _ (fun x2 x3 hf => ih x2 x3 hf) x2 x3 hf
set_option maxRecDepth 100000 in
set_option maxHeartbeats 200000 in
theorem T_X1_leansOn_0 {X : CX} (hX : Ok X cX1_leansOn 4 RX1 (some .int)) (hdx : dX X = 4) {r : Int32} (k0 : Nat) (hk0 : isCity k0) (x1 : Int32) (h : Hp) (hf : f_X1_leansOn k0 x1 h = some r) : J X ((.inl (some (.int r)), h)) 0 [(0, .ref k0), (1, .int x1)] [] h := by
  unfold f_X1_leansOn at hf
  refine J_iconst hX 0 dX1_leansOn_0 rfl ?_
  refine J_istore_n hX [(2, .int 0), (0, .ref k0), (1, .int x1)] dX1_leansOn_1 rfl rfl rfl ?_
  refine J_iconst hX 0 dX1_leansOn_2 rfl ?_
  refine J_istore_n hX [(3, .int 0), (2, .int 0), (0, .ref k0), (1, .int x1)] dX1_leansOn_3 rfl rfl rfl ?_
  refine J_sub [2, 3, 1, 0] [(0, .ref k0), (1, .int x1), (2, .int 0), (3, .int 0)] rfl ?_
  exact T_X1_leansOn_4 hX hdx h k0 hk0 x1 FU 0 0 hf
set_option maxRecDepth 100000 in
set_option maxHeartbeats 200000 in
theorem C_X1_leansOn {G : GX} (hG : GOk G) {k0 : Nat} {x1 : Int32} {h : Hp} {r : Int32} (hk0 : isCity k0) (hf : f_X1_leansOn k0 x1 h = some r) : Ctr G 4 yX1_leansOn cX1_leansOn 4 (some .int) [.ref k0, .int x1] h ((.inl (some (.int r)), h)) :=
  Ctr_of hG RX1 rfl (by decide) rfl (fun X _ hdx hX => T_X1_leansOn_0 hX hdx k0 hk0 x1 h hf)
theorem dX1_touching_0 : decode cX1_touching 0 = .ok (.aload_n 0, 1) := by decide +kernel
theorem dX1_touching_1 : decode cX1_touching 1 = .ok (.iload_n 1, 1) := by decide +kernel
theorem dX1_touching_2 : decode cX1_touching 2 = .ok (.invokevirtual 115, 3) := by decide +kernel
theorem dX1_touching_5 : decode cX1_touching 5 = .ok (.istore_n 2, 1) := by decide +kernel
theorem dX1_touching_6 : decode cX1_touching 6 = .ok (.iconst 0, 1) := by decide +kernel
theorem dX1_touching_7 : decode cX1_touching 7 = .ok (.istore_n 3, 1) := by decide +kernel
theorem dX1_touching_8 : decode cX1_touching 8 = .ok (.iload_n 3, 1) := by decide +kernel
theorem dX1_touching_9 : decode cX1_touching 9 = .ok (.bipush 8, 2) := by decide +kernel
theorem dX1_touching_11 : decode cX1_touching 11 = .ok (.if_icmp .ge 24, 3) := by decide +kernel
theorem dX1_touching_14 : decode cX1_touching 14 = .ok (.aload_n 0, 1) := by decide +kernel
theorem dX1_touching_15 : decode cX1_touching 15 = .ok (.iload_n 3, 1) := by decide +kernel
theorem dX1_touching_16 : decode cX1_touching 16 = .ok (.iload_n 1, 1) := by decide +kernel
theorem dX1_touching_17 : decode cX1_touching 17 = .ok (.invokevirtual 85, 3) := by decide +kernel
theorem dX1_touching_20 : decode cX1_touching 20 = .ok (.ifCond .le 9, 3) := by decide +kernel
theorem dX1_touching_23 : decode cX1_touching 23 = .ok (.iload_n 2, 1) := by decide +kernel
theorem dX1_touching_24 : decode cX1_touching 24 = .ok (.iconst 1, 1) := by decide +kernel
theorem dX1_touching_25 : decode cX1_touching 25 = .ok (.iload_n 3, 1) := by decide +kernel
theorem dX1_touching_26 : decode cX1_touching 26 = .ok (.ishl, 1) := by decide +kernel
theorem dX1_touching_27 : decode cX1_touching 27 = .ok (.ior, 1) := by decide +kernel
theorem dX1_touching_28 : decode cX1_touching 28 = .ok (.istore_n 2, 1) := by decide +kernel
theorem dX1_touching_29 : decode cX1_touching 29 = .ok (.iinc 3 1, 3) := by decide +kernel
theorem dX1_touching_32 : decode cX1_touching 32 = .ok (.goto (-24), 3) := by decide +kernel
theorem dX1_touching_35 : decode cX1_touching 35 = .ok (.iload_n 2, 1) := by decide +kernel
theorem dX1_touching_36 : decode cX1_touching 36 = .ok (.ireturn, 1) := by decide +kernel
set_option maxRecDepth 100000 in
set_option maxHeartbeats 200000 in
theorem T_X1_touching_8_s {X : CX} (hX : Ok X cX1_touching 4 RX1 (some .int)) (hdx : dX X = 5) {r : Int32} (h : Hp) (k0 : Nat) (hk0 : isCity k0) (x1 : Int32) (q_8 : Int32 → Int32 → Option Int32) (hq_8 : ∀ (x2 : Int32) (x3 : Int32), q_8 x2 x3 = some r → J X ((.inl (some (.int r)), h)) 8 [(0, .ref k0), (1, .int x1), (2, .int x2), (3, .int x3)] [] h) (x2 : Int32) (x3 : Int32) (hf : S_X1_touching_8 h k0 x1 q_8 x2 x3 = some r) : J X ((.inl (some (.int r)), h)) 8 [(0, .ref k0), (1, .int x1), (2, .int x2), (3, .int x3)] [] h := by
  unfold S_X1_touching_8 at hf
  refine J_iload_n hX 3 dX1_touching_8 rfl rfl ?_
  refine J_bipush hX 8 dX1_touching_9 rfl ?_
  rcases ifE hf with ⟨c_1, hf⟩ | ⟨c_1, hf⟩
  · refine J_icmp_geF hX 35 dX1_touching_11 rfl c_1 ?_
    refine J_aload_n hX 0 dX1_touching_14 rfl rfl ?_
    refine J_iload_n hX 3 dX1_touching_15 rfl rfl ?_
    refine J_iload_n hX 1 dX1_touching_16 rfl rfl ?_
    obtain ⟨r_2, e_3, hf⟩ := bdE hf
    refine V_1 hX [.int x3, .int x1] dX1_touching_17 cw_X1_85 (city_ob hk0) rfl (C_X1_partOf (okG hX) hk0 e_3) (ltD hdx rfl) rfl rfl rfl rfl ?_
    rcases ifE hf with ⟨c_4, hf⟩ | ⟨c_4, hf⟩
    · refine J_if_leF hX 29 dX1_touching_20 rfl c_4 ?_
      refine J_iload_n hX 2 dX1_touching_23 rfl rfl ?_
      refine J_iconst hX 1 dX1_touching_24 rfl ?_
      refine J_iload_n hX 3 dX1_touching_25 rfl rfl ?_
      refine J_ishl hX dX1_touching_26 ?_
      refine J_ior hX dX1_touching_27 ?_
      obtain ⟨x2_5, e_6, hf⟩ := bndE hf
      refine J_nm e_6 ?_
      refine J_istore_n hX [(2, .int x2_5), (0, .ref k0), (1, .int x1), (3, .int x3)] dX1_touching_28 rfl rfl rfl ?_
      refine J_iinc hX (x3 + 1) 3 [(3, .int (x3 + 1)), (2, .int x2_5), (0, .ref k0), (1, .int x1)] dX1_touching_29 rfl rfl rfl rfl ?_
      refine J_goto hX 8 dX1_touching_32 rfl ?_
      refine J_sub [2, 3, 1, 0] [(0, .ref k0), (1, .int x1), (2, .int x2_5), (3, .int (x3 + 1))] rfl ?_
      exact hq_8 x2_5 (x3 + 1) hf
    · refine J_if_leT hX 29 dX1_touching_20 rfl c_4 ?_
      refine J_iinc hX (x3 + 1) 3 [(3, .int (x3 + 1)), (0, .ref k0), (1, .int x1), (2, .int x2)] dX1_touching_29 rfl rfl rfl rfl ?_
      refine J_goto hX 8 dX1_touching_32 rfl ?_
      refine J_sub [1, 2, 3, 0] [(0, .ref k0), (1, .int x1), (2, .int x2), (3, .int (x3 + 1))] rfl ?_
      exact hq_8 x2 (x3 + 1) hf
  · refine J_icmp_geT hX 35 dX1_touching_11 rfl c_1 ?_
    refine J_iload_n hX 2 dX1_touching_35 rfl rfl ?_
    exact E_Ip hX dX1_touching_36 hf
set_option maxRecDepth 100000 in
set_option maxHeartbeats 200000 in
theorem T_X1_touching_8 {X : CX} (hX : Ok X cX1_touching 4 RX1 (some .int)) (hdx : dX X = 5) {r : Int32} (h : Hp) (k0 : Nat) (hk0 : isCity k0) (x1 : Int32) : ∀ (n : Nat) (x2 : Int32) (x3 : Int32), F_X1_touching_8 h k0 x1 n x2 x3 = some r → J X ((.inl (some (.int r)), h)) 8 [(0, .ref k0), (1, .int x1), (2, .int x2), (3, .int x3)] [] h := by
  intro n
  induction n with
  | zero => intro x2 x3 hf; exact nomatch hf
  | succ n ih => intro x2 x3 hf; exact T_X1_touching_8_s hX hdx h k0 hk0 x1 _ (fun x2 x3 hf => ih x2 x3 hf) x2 x3 hf
set_option maxRecDepth 100000 in
set_option maxHeartbeats 200000 in
theorem T_X1_touching_0 {X : CX} (hX : Ok X cX1_touching 4 RX1 (some .int)) (hdx : dX X = 5) {r : Int32} (k0 : Nat) (hk0 : isCity k0) (x1 : Int32) (h : Hp) (hf : f_X1_touching k0 x1 h = some r) : J X ((.inl (some (.int r)), h)) 0 [(0, .ref k0), (1, .int x1)] [] h := by
  unfold f_X1_touching at hf
  refine J_aload_n hX 0 dX1_touching_0 rfl rfl ?_
  refine J_iload_n hX 1 dX1_touching_1 rfl rfl ?_
  obtain ⟨r_1, e_2, hf⟩ := bdE hf
  refine V_1 hX [.int x1] dX1_touching_2 cw_X1_115 (city_ob hk0) rfl (C_X1_leansOn (okG hX) hk0 e_2) (ltD hdx rfl) rfl rfl rfl rfl ?_
  refine J_istore_n hX [(2, .int r_1), (0, .ref k0), (1, .int x1)] dX1_touching_5 rfl rfl rfl ?_
  refine J_iconst hX 0 dX1_touching_6 rfl ?_
  refine J_istore_n hX [(3, .int 0), (2, .int r_1), (0, .ref k0), (1, .int x1)] dX1_touching_7 rfl rfl rfl ?_
  refine J_sub [2, 3, 1, 0] [(0, .ref k0), (1, .int x1), (2, .int r_1), (3, .int 0)] rfl ?_
  exact T_X1_touching_8 hX hdx h k0 hk0 x1 FU r_1 0 hf
set_option maxRecDepth 100000 in
set_option maxHeartbeats 200000 in
theorem C_X1_touching {G : GX} (hG : GOk G) {k0 : Nat} {x1 : Int32} {h : Hp} {r : Int32} (hk0 : isCity k0) (hf : f_X1_touching k0 x1 h = some r) : Ctr G 5 yX1_touching cX1_touching 4 (some .int) [.ref k0, .int x1] h ((.inl (some (.int r)), h)) :=
  Ctr_of hG RX1 rfl (by decide) rfl (fun X _ hdx hX => T_X1_touching_0 hX hdx k0 hk0 x1 h hf)
theorem dX1_onward_0 : decode cX1_onward 0 = .ok (.aload_n 0, 1) := by decide +kernel
theorem dX1_onward_1 : decode cX1_onward 1 = .ok (.iload_n 1, 1) := by decide +kernel
theorem dX1_onward_2 : decode cX1_onward 2 = .ok (.invokevirtual 115, 3) := by decide +kernel
theorem dX1_onward_5 : decode cX1_onward 5 = .ok (.istore_n 2, 1) := by decide +kernel
theorem dX1_onward_6 : decode cX1_onward 6 = .ok (.iconst 0, 1) := by decide +kernel
theorem dX1_onward_7 : decode cX1_onward 7 = .ok (.istore_n 3, 1) := by decide +kernel
theorem dX1_onward_8 : decode cX1_onward 8 = .ok (.iload_n 3, 1) := by decide +kernel
theorem dX1_onward_9 : decode cX1_onward 9 = .ok (.bipush 8, 2) := by decide +kernel
theorem dX1_onward_11 : decode cX1_onward 11 = .ok (.if_icmp .ge 44, 3) := by decide +kernel
theorem dX1_onward_14 : decode cX1_onward 14 = .ok (.iconst 0, 1) := by decide +kernel
theorem dX1_onward_15 : decode cX1_onward 15 = .ok (.istore 4, 2) := by decide +kernel
theorem dX1_onward_17 : decode cX1_onward 17 = .ok (.iload 4, 2) := by decide +kernel
theorem dX1_onward_19 : decode cX1_onward 19 = .ok (.bipush 8, 2) := by decide +kernel
theorem dX1_onward_21 : decode cX1_onward 21 = .ok (.if_icmp .ge 28, 3) := by decide +kernel
theorem dX1_onward_24 : decode cX1_onward 24 = .ok (.iload_n 2, 1) := by decide +kernel
theorem dX1_onward_25 : decode cX1_onward 25 = .ok (.iload 4, 2) := by decide +kernel
theorem dX1_onward_27 : decode cX1_onward 27 = .ok (.ishr, 1) := by decide +kernel
theorem dX1_onward_28 : decode cX1_onward 28 = .ok (.iconst 1, 1) := by decide +kernel
theorem dX1_onward_29 : decode cX1_onward 29 = .ok (.iand, 1) := by decide +kernel
theorem dX1_onward_30 : decode cX1_onward 30 = .ok (.iconst 1, 1) := by decide +kernel
theorem dX1_onward_31 : decode cX1_onward 31 = .ok (.if_icmp .ne 12, 3) := by decide +kernel
theorem dX1_onward_34 : decode cX1_onward 34 = .ok (.iload_n 2, 1) := by decide +kernel
theorem dX1_onward_35 : decode cX1_onward 35 = .ok (.aload_n 0, 1) := by decide +kernel
theorem dX1_onward_36 : decode cX1_onward 36 = .ok (.iload 4, 2) := by decide +kernel
theorem dX1_onward_38 : decode cX1_onward 38 = .ok (.invokevirtual 115, 3) := by decide +kernel
theorem dX1_onward_41 : decode cX1_onward 41 = .ok (.ior, 1) := by decide +kernel
theorem dX1_onward_42 : decode cX1_onward 42 = .ok (.istore_n 2, 1) := by decide +kernel
theorem dX1_onward_43 : decode cX1_onward 43 = .ok (.iinc 4 1, 3) := by decide +kernel
theorem dX1_onward_46 : decode cX1_onward 46 = .ok (.goto (-29), 3) := by decide +kernel
theorem dX1_onward_49 : decode cX1_onward 49 = .ok (.iinc 3 1, 3) := by decide +kernel
theorem dX1_onward_52 : decode cX1_onward 52 = .ok (.goto (-44), 3) := by decide +kernel
theorem dX1_onward_55 : decode cX1_onward 55 = .ok (.iload_n 2, 1) := by decide +kernel
theorem dX1_onward_56 : decode cX1_onward 56 = .ok (.ireturn, 1) := by decide +kernel
set_option maxRecDepth 100000 in
set_option maxHeartbeats 200000 in
theorem T_X1_onward_17_s {X : CX} (hX : Ok X cX1_onward 5 RX1 (some .int)) (hdx : dX X = 5) {r : Int32} (h : Hp) (k0 : Nat) (hk0 : isCity k0) (x3 : Int32) (q_8 : Int32 → Int32 → Option Int32) (hq_8 : ∀ (x2 : Int32) (x3 : Int32), q_8 x2 x3 = some r → J X ((.inl (some (.int r)), h)) 8 [(0, .ref k0), (2, .int x2), (3, .int x3)] [] h) (q_17 : Int32 → Int32 → Option Int32) (hq_17 : ∀ (x2 : Int32) (x4 : Int32), q_17 x2 x4 = some r → J X ((.inl (some (.int r)), h)) 17 [(0, .ref k0), (2, .int x2), (3, .int x3), (4, .int x4)] [] h) (x2 : Int32) (x4 : Int32) (hf : S_X1_onward_17 q_8 h k0 x3 q_17 x2 x4 = some r) : J X ((.inl (some (.int r)), h)) 17 [(0, .ref k0), (2, .int x2), (3, .int x3), (4, .int x4)] [] h := by
  unfold S_X1_onward_17 at hf
  refine J_iload hX 3 dX1_onward_17 rfl ?_
  refine J_bipush hX 8 dX1_onward_19 rfl ?_
  rcases ifE hf with ⟨c_1, hf⟩ | ⟨c_1, hf⟩
  · refine J_icmp_geF hX 49 dX1_onward_21 rfl c_1 ?_
    refine J_iload_n hX 1 dX1_onward_24 rfl rfl ?_
    refine J_iload hX 3 dX1_onward_25 rfl ?_
    refine J_ishr hX dX1_onward_27 ?_
    refine J_iconst hX 1 dX1_onward_28 rfl ?_
    refine J_iand hX dX1_onward_29 ?_
    refine J_iconst hX 1 dX1_onward_30 rfl ?_
    rcases ifE hf with ⟨c_2, hf⟩ | ⟨c_2, hf⟩
    · refine J_icmp_neF hX 43 dX1_onward_31 rfl c_2 ?_
      refine J_iload_n hX 1 dX1_onward_34 rfl rfl ?_
      refine J_aload_n hX 0 dX1_onward_35 rfl rfl ?_
      refine J_iload hX 3 dX1_onward_36 rfl ?_
      obtain ⟨r_3, e_4, hf⟩ := bdE hf
      refine V_1 hX [.int x4] dX1_onward_38 cw_X1_115 (city_ob hk0) rfl (C_X1_leansOn (okG hX) hk0 e_4) (ltD hdx rfl) rfl rfl rfl rfl ?_
      refine J_ior hX dX1_onward_41 ?_
      obtain ⟨x2_5, e_6, hf⟩ := bndE hf
      refine J_nm e_6 ?_
      refine J_istore_n hX [(2, .int x2_5), (0, .ref k0), (3, .int x3), (4, .int x4)] dX1_onward_42 rfl rfl rfl ?_
      refine J_iinc hX (x4 + 1) 3 [(4, .int (x4 + 1)), (2, .int x2_5), (0, .ref k0), (3, .int x3)] dX1_onward_43 rfl rfl rfl rfl ?_
      refine J_goto hX 17 dX1_onward_46 rfl ?_
      refine J_sub [2, 1, 3, 0] [(0, .ref k0), (2, .int x2_5), (3, .int x3), (4, .int (x4 + 1))] rfl ?_
      exact hq_17 x2_5 (x4 + 1) hf
    · refine J_icmp_neT hX 43 dX1_onward_31 rfl c_2 ?_
      refine J_iinc hX (x4 + 1) 3 [(4, .int (x4 + 1)), (0, .ref k0), (2, .int x2), (3, .int x3)] dX1_onward_43 rfl rfl rfl rfl ?_
      refine J_goto hX 17 dX1_onward_46 rfl ?_
      refine J_sub [1, 2, 3, 0] [(0, .ref k0), (2, .int x2), (3, .int x3), (4, .int (x4 + 1))] rfl ?_
      exact hq_17 x2 (x4 + 1) hf
  · refine J_icmp_geT hX 49 dX1_onward_21 rfl c_1 ?_
    refine J_iinc hX (x3 + 1) 2 [(3, .int (x3 + 1)), (0, .ref k0), (2, .int x2), (4, .int x4)] dX1_onward_49 rfl rfl rfl rfl ?_
    refine J_goto hX 8 dX1_onward_52 rfl ?_
    refine J_sub [1, 2, 0] [(0, .ref k0), (2, .int x2), (3, .int (x3 + 1))] rfl ?_
    exact hq_8 x2 (x3 + 1) hf
set_option maxRecDepth 100000 in
set_option maxHeartbeats 200000 in
theorem T_X1_onward_17 {X : CX} (hX : Ok X cX1_onward 5 RX1 (some .int)) (hdx : dX X = 5) {r : Int32} (h : Hp) (k0 : Nat) (hk0 : isCity k0) (x3 : Int32) (q_8 : Int32 → Int32 → Option Int32) (hq_8 : ∀ (x2 : Int32) (x3 : Int32), q_8 x2 x3 = some r → J X ((.inl (some (.int r)), h)) 8 [(0, .ref k0), (2, .int x2), (3, .int x3)] [] h) : ∀ (n : Nat) (x2 : Int32) (x4 : Int32), F_X1_onward_17 q_8 h k0 x3 n x2 x4 = some r → J X ((.inl (some (.int r)), h)) 17 [(0, .ref k0), (2, .int x2), (3, .int x3), (4, .int x4)] [] h := by
  intro n
  induction n with
  | zero => intro x2 x4 hf; exact nomatch hf
  | succ n ih => intro x2 x4 hf; exact T_X1_onward_17_s hX hdx h k0 hk0 x3 q_8 hq_8 _ (fun x2 x4 hf => ih x2 x4 hf) x2 x4 hf
set_option maxRecDepth 100000 in
set_option maxHeartbeats 200000 in
theorem T_X1_onward_8_s {X : CX} (hX : Ok X cX1_onward 5 RX1 (some .int)) (hdx : dX X = 5) {r : Int32} (h : Hp) (k0 : Nat) (hk0 : isCity k0) (q_8 : Int32 → Int32 → Option Int32) (hq_8 : ∀ (x2 : Int32) (x3 : Int32), q_8 x2 x3 = some r → J X ((.inl (some (.int r)), h)) 8 [(0, .ref k0), (2, .int x2), (3, .int x3)] [] h) (x2 : Int32) (x3 : Int32) (hf : S_X1_onward_8 h k0 q_8 x2 x3 = some r) : J X ((.inl (some (.int r)), h)) 8 [(0, .ref k0), (2, .int x2), (3, .int x3)] [] h := by
  unfold S_X1_onward_8 at hf
  refine J_iload_n hX 2 dX1_onward_8 rfl rfl ?_
  refine J_bipush hX 8 dX1_onward_9 rfl ?_
  rcases ifE hf with ⟨c_1, hf⟩ | ⟨c_1, hf⟩
  · refine J_icmp_geF hX 55 dX1_onward_11 rfl c_1 ?_
    refine J_iconst hX 0 dX1_onward_14 rfl ?_
    refine J_istore hX [(4, .int 0), (0, .ref k0), (2, .int x2), (3, .int x3)] dX1_onward_15 rfl rfl ?_
    refine J_sub [1, 2, 3, 0] [(0, .ref k0), (2, .int x2), (3, .int x3), (4, .int 0)] rfl ?_
    exact T_X1_onward_17 hX hdx h k0 hk0 x3 q_8 hq_8 FU x2 0 hf
  · refine J_icmp_geT hX 55 dX1_onward_11 rfl c_1 ?_
    refine J_iload_n hX 1 dX1_onward_55 rfl rfl ?_
    exact E_Ip hX dX1_onward_56 hf
set_option maxRecDepth 100000 in
set_option maxHeartbeats 200000 in
theorem T_X1_onward_8 {X : CX} (hX : Ok X cX1_onward 5 RX1 (some .int)) (hdx : dX X = 5) {r : Int32} (h : Hp) (k0 : Nat) (hk0 : isCity k0) : ∀ (n : Nat) (x2 : Int32) (x3 : Int32), F_X1_onward_8 h k0 n x2 x3 = some r → J X ((.inl (some (.int r)), h)) 8 [(0, .ref k0), (2, .int x2), (3, .int x3)] [] h := by
  intro n
  induction n with
  | zero => intro x2 x3 hf; exact nomatch hf
  | succ n ih => intro x2 x3 hf; exact T_X1_onward_8_s hX hdx h k0 hk0 _ (fun x2 x3 hf => ih x2 x3 hf) x2 x3 hf
set_option maxRecDepth 100000 in
set_option maxHeartbeats 200000 in
theorem T_X1_onward_0 {X : CX} (hX : Ok X cX1_onward 5 RX1 (some .int)) (hdx : dX X = 5) {r : Int32} (k0 : Nat) (hk0 : isCity k0) (x1 : Int32) (h : Hp) (hf : f_X1_onward k0 x1 h = some r) : J X ((.inl (some (.int r)), h)) 0 [(0, .ref k0), (1, .int x1)] [] h := by
  unfold f_X1_onward at hf
  refine J_aload_n hX 0 dX1_onward_0 rfl rfl ?_
  refine J_iload_n hX 1 dX1_onward_1 rfl rfl ?_
  obtain ⟨r_1, e_2, hf⟩ := bdE hf
  refine V_1 hX [.int x1] dX1_onward_2 cw_X1_115 (city_ob hk0) rfl (C_X1_leansOn (okG hX) hk0 e_2) (ltD hdx rfl) rfl rfl rfl rfl ?_
  refine J_istore_n hX [(2, .int r_1), (0, .ref k0), (1, .int x1)] dX1_onward_5 rfl rfl rfl ?_
  refine J_iconst hX 0 dX1_onward_6 rfl ?_
  refine J_istore_n hX [(3, .int 0), (2, .int r_1), (0, .ref k0), (1, .int x1)] dX1_onward_7 rfl rfl rfl ?_
  refine J_sub [2, 1, 0] [(0, .ref k0), (2, .int r_1), (3, .int 0)] rfl ?_
  exact T_X1_onward_8 hX hdx h k0 hk0 FU r_1 0 hf
set_option maxRecDepth 100000 in
set_option maxHeartbeats 200000 in
theorem C_X1_onward {G : GX} (hG : GOk G) {k0 : Nat} {x1 : Int32} {h : Hp} {r : Int32} (hk0 : isCity k0) (hf : f_X1_onward k0 x1 h = some r) : Ctr G 5 yX1_onward cX1_onward 5 (some .int) [.ref k0, .int x1] h ((.inl (some (.int r)), h)) :=
  Ctr_of hG RX1 rfl (by decide) rfl (fun X _ hdx hX => T_X1_onward_0 hX hdx k0 hk0 x1 h hf)
