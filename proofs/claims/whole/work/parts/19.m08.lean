theorem dX12_noTwo_0 : decode cX12_noTwo 0 = .ok (.aload_n 0, 1) := by decide +kernel
theorem dX12_noTwo_1 : decode cX12_noTwo 1 = .ok (.iconst 0, 1) := by decide +kernel
theorem dX12_noTwo_2 : decode cX12_noTwo 2 = .ok (.putfield 3, 3) := by decide +kernel
theorem dX12_noTwo_5 : decode cX12_noTwo 5 = .ok (.aload_n 0, 1) := by decide +kernel
theorem dX12_noTwo_6 : decode cX12_noTwo 6 = .ok (.aload_n 0, 1) := by decide +kernel
theorem dX12_noTwo_7 : decode cX12_noTwo 7 = .ok (.iload_n 1, 1) := by decide +kernel
theorem dX12_noTwo_8 : decode cX12_noTwo 8 = .ok (.invokevirtual 392, 3) := by decide +kernel
theorem dX12_noTwo_11 : decode cX12_noTwo 11 = .ok (.ifCond .ne 11, 3) := by decide +kernel
theorem dX12_noTwo_14 : decode cX12_noTwo 14 = .ok (.aload_n 0, 1) := by decide +kernel
theorem dX12_noTwo_15 : decode cX12_noTwo 15 = .ok (.iload_n 2, 1) := by decide +kernel
theorem dX12_noTwo_16 : decode cX12_noTwo 16 = .ok (.invokevirtual 392, 3) := by decide +kernel
theorem dX12_noTwo_19 : decode cX12_noTwo 19 = .ok (.ifCond .eq 7, 3) := by decide +kernel
theorem dX12_noTwo_22 : decode cX12_noTwo 22 = .ok (.iconst 1, 1) := by decide +kernel
theorem dX12_noTwo_23 : decode cX12_noTwo 23 = .ok (.goto 4, 3) := by decide +kernel
theorem dX12_noTwo_26 : decode cX12_noTwo 26 = .ok (.iconst 0, 1) := by decide +kernel
theorem dX12_noTwo_27 : decode cX12_noTwo 27 = .ok (.iconst 1, 1) := by decide +kernel
theorem dX12_noTwo_28 : decode cX12_noTwo 28 = .ok (.invokevirtual 280, 3) := by decide +kernel
theorem dX12_noTwo_31 : decode cX12_noTwo 31 = .ok (.ifCond .ne 54, 3) := by decide +kernel
theorem dX12_noTwo_34 : decode cX12_noTwo 34 = .ok (.aload_n 0, 1) := by decide +kernel
theorem dX12_noTwo_35 : decode cX12_noTwo 35 = .ok (.iload_n 1, 1) := by decide +kernel
theorem dX12_noTwo_36 : decode cX12_noTwo 36 = .ok (.iload_n 2, 1) := by decide +kernel
theorem dX12_noTwo_37 : decode cX12_noTwo 37 = .ok (.if_icmp .eq 7, 3) := by decide +kernel
theorem dX12_noTwo_40 : decode cX12_noTwo 40 = .ok (.iload_n 3, 1) := by decide +kernel
theorem dX12_noTwo_41 : decode cX12_noTwo 41 = .ok (.ifCond .ne 7, 3) := by decide +kernel
theorem dX12_noTwo_44 : decode cX12_noTwo 44 = .ok (.iconst 1, 1) := by decide +kernel
theorem dX12_noTwo_45 : decode cX12_noTwo 45 = .ok (.goto 4, 3) := by decide +kernel
theorem dX12_noTwo_48 : decode cX12_noTwo 48 = .ok (.iconst 0, 1) := by decide +kernel
theorem dX12_noTwo_49 : decode cX12_noTwo 49 = .ok (.iconst 2, 1) := by decide +kernel
theorem dX12_noTwo_50 : decode cX12_noTwo 50 = .ok (.invokevirtual 280, 3) := by decide +kernel
theorem dX12_noTwo_53 : decode cX12_noTwo 53 = .ok (.ifCond .ne 32, 3) := by decide +kernel
theorem dX12_noTwo_56 : decode cX12_noTwo 56 = .ok (.aload_n 0, 1) := by decide +kernel
theorem dX12_noTwo_57 : decode cX12_noTwo 57 = .ok (.aload_n 0, 1) := by decide +kernel
theorem dX12_noTwo_58 : decode cX12_noTwo 58 = .ok (.iload_n 1, 1) := by decide +kernel
theorem dX12_noTwo_59 : decode cX12_noTwo 59 = .ok (.invokevirtual 91, 3) := by decide +kernel
theorem dX12_noTwo_62 : decode cX12_noTwo 62 = .ok (.ifCond .ne 11, 3) := by decide +kernel
theorem dX12_noTwo_65 : decode cX12_noTwo 65 = .ok (.aload_n 0, 1) := by decide +kernel
theorem dX12_noTwo_66 : decode cX12_noTwo 66 = .ok (.iload_n 2, 1) := by decide +kernel
theorem dX12_noTwo_67 : decode cX12_noTwo 67 = .ok (.invokevirtual 91, 3) := by decide +kernel
theorem dX12_noTwo_70 : decode cX12_noTwo 70 = .ok (.ifCond .eq 7, 3) := by decide +kernel
theorem dX12_noTwo_73 : decode cX12_noTwo 73 = .ok (.iconst 1, 1) := by decide +kernel
theorem dX12_noTwo_74 : decode cX12_noTwo 74 = .ok (.goto 4, 3) := by decide +kernel
theorem dX12_noTwo_77 : decode cX12_noTwo 77 = .ok (.iconst 0, 1) := by decide +kernel
theorem dX12_noTwo_78 : decode cX12_noTwo 78 = .ok (.iconst 3, 1) := by decide +kernel
theorem dX12_noTwo_79 : decode cX12_noTwo 79 = .ok (.invokevirtual 280, 3) := by decide +kernel
theorem dX12_noTwo_82 : decode cX12_noTwo 82 = .ok (.ifCond .eq 7, 3) := by decide +kernel
theorem dX12_noTwo_85 : decode cX12_noTwo 85 = .ok (.iconst 1, 1) := by decide +kernel
theorem dX12_noTwo_86 : decode cX12_noTwo 86 = .ok (.goto 4, 3) := by decide +kernel
theorem dX12_noTwo_89 : decode cX12_noTwo 89 = .ok (.iconst 0, 1) := by decide +kernel
theorem dX12_noTwo_90 : decode cX12_noTwo 90 = .ok (.ireturn, 1) := by decide +kernel
set_option maxRecDepth 100000 in
set_option maxHeartbeats 200000 in
theorem T_X12_noTwo_78 {X : CX} (hX : Ok X cX12_noTwo 4 RX12 (some .boolean)) (hdx : dX X = 5) {r : Bool × Hp} (t0 : Int32) (h : Hp) (hf : F_X12_noTwo_78 t0 h = some r) : J X ((.inl (some (.int (b2i r.1))), r.2)) 78 [] [.int t0, .ref 30] h := by
  unfold F_X12_noTwo_78 at hf
  refine J_iconst hX 3 dX12_noTwo_78 rfl ?_
  obtain ⟨r_1, e_2, hf⟩ := bdE hf
  refine V_1 hX [.int t0, .int 3] dX12_noTwo_79 cw_X12_280 ob_30 rfl (C_X12_throwsIf (okG hX) e_2) (ltD hdx rfl) rfl rfl rfl rfl ?_
  rcases ifE hf with ⟨c_3, hf⟩ | ⟨c_3, hf⟩
  · refine J_if_eqF hX 89 dX12_noTwo_82 rfl (b2iT c_3) ?_
    refine J_iconst hX 1 dX12_noTwo_85 rfl ?_
    refine J_goto hX 90 dX12_noTwo_86 rfl ?_
    exact E_Zi hX dX12_noTwo_90 rfl hf
  · refine J_if_eqT hX 89 dX12_noTwo_82 rfl (b2iF c_3) ?_
    refine J_iconst hX 0 dX12_noTwo_89 rfl ?_
    exact E_Zi hX dX12_noTwo_90 rfl hf
set_option maxRecDepth 100000 in
set_option maxHeartbeats 200000 in
theorem T_X12_noTwo_49 {X : CX} (hX : Ok X cX12_noTwo 4 RX12 (some .boolean)) (hdx : dX X = 5) {r : Bool × Hp} (x1 : Int32) (x2 : Int32) (t0 : Int32) (h : Hp) (hf : F_X12_noTwo_49 x1 x2 t0 h = some r) : J X ((.inl (some (.int (b2i r.1))), r.2)) 49 [(0, .ref 30), (1, .int x1), (2, .int x2)] [.int t0, .ref 30] h := by
  unfold F_X12_noTwo_49 at hf
  refine J_iconst hX 2 dX12_noTwo_49 rfl ?_
  obtain ⟨r_1, e_2, hf⟩ := bdE hf
  refine V_1 hX [.int t0, .int 2] dX12_noTwo_50 cw_X12_280 ob_30 rfl (C_X12_throwsIf (okG hX) e_2) (ltD hdx rfl) rfl rfl rfl rfl ?_
  rcases ifE hf with ⟨c_3, hf⟩ | ⟨c_3, hf⟩
  · refine J_if_neT hX 85 dX12_noTwo_53 rfl (b2iT c_3) ?_
    refine J_iconst hX 1 dX12_noTwo_85 rfl ?_
    refine J_goto hX 90 dX12_noTwo_86 rfl ?_
    exact E_Zi hX dX12_noTwo_90 rfl hf
  · refine J_if_neF hX 85 dX12_noTwo_53 rfl (b2iF c_3) ?_
    refine J_aload_n hX 0 dX12_noTwo_56 rfl rfl ?_
    refine J_aload_n hX 0 dX12_noTwo_57 rfl rfl ?_
    refine J_iload_n hX 1 dX12_noTwo_58 rfl rfl ?_
    obtain ⟨r_4, e_5, hf⟩ := bdE hf
    refine V_1 hX [.int x1] dX12_noTwo_59 cw_X12_91 ob_30 rfl (C_X12_isFallen (okG hX) e_5) (ltD hdx rfl) rfl rfl rfl rfl ?_
    rcases ifE hf with ⟨c_6, hf⟩ | ⟨c_6, hf⟩
    · refine J_if_neT hX 73 dX12_noTwo_62 rfl (b2iT c_6) ?_
      refine J_iconst hX 1 dX12_noTwo_73 rfl ?_
      refine J_goto hX 78 dX12_noTwo_74 rfl ?_
      refine J_sub [] [] rfl ?_
      exact T_X12_noTwo_78 hX hdx 1 r_1.2 hf
    · refine J_if_neF hX 73 dX12_noTwo_62 rfl (b2iF c_6) ?_
      refine J_aload_n hX 0 dX12_noTwo_65 rfl rfl ?_
      refine J_iload_n hX 2 dX12_noTwo_66 rfl rfl ?_
      obtain ⟨r_7, e_8, hf⟩ := bdE hf
      refine V_1 hX [.int x2] dX12_noTwo_67 cw_X12_91 ob_30 rfl (C_X12_isFallen (okG hX) e_8) (ltD hdx rfl) rfl rfl rfl rfl ?_
      rcases ifE hf with ⟨c_9, hf⟩ | ⟨c_9, hf⟩
      · refine J_if_eqF hX 77 dX12_noTwo_70 rfl (b2iT c_9) ?_
        refine J_iconst hX 1 dX12_noTwo_73 rfl ?_
        refine J_goto hX 78 dX12_noTwo_74 rfl ?_
        refine J_sub [] [] rfl ?_
        exact T_X12_noTwo_78 hX hdx 1 r_1.2 hf
      · refine J_if_eqT hX 77 dX12_noTwo_70 rfl (b2iF c_9) ?_
        refine J_iconst hX 0 dX12_noTwo_77 rfl ?_
        refine J_sub [] [] rfl ?_
        exact T_X12_noTwo_78 hX hdx 0 r_1.2 hf
set_option maxRecDepth 100000 in
set_option maxHeartbeats 200000 in
theorem T_X12_noTwo_27 {X : CX} (hX : Ok X cX12_noTwo 4 RX12 (some .boolean)) (hdx : dX X = 5) {r : Bool × Hp} (x1 : Int32) (x2 : Int32) (x3 : Int32) (t0 : Int32) (h : Hp) (hf : F_X12_noTwo_27 x1 x2 x3 t0 h = some r) : J X ((.inl (some (.int (b2i r.1))), r.2)) 27 [(0, .ref 30), (1, .int x1), (2, .int x2), (3, .int x3)] [.int t0, .ref 30] h := by
  unfold F_X12_noTwo_27 at hf
  refine J_iconst hX 1 dX12_noTwo_27 rfl ?_
  obtain ⟨r_1, e_2, hf⟩ := bdE hf
  refine V_1 hX [.int t0, .int 1] dX12_noTwo_28 cw_X12_280 ob_30 rfl (C_X12_throwsIf (okG hX) e_2) (ltD hdx rfl) rfl rfl rfl rfl ?_
  rcases ifE hf with ⟨c_3, hf⟩ | ⟨c_3, hf⟩
  · refine J_if_neT hX 85 dX12_noTwo_31 rfl (b2iT c_3) ?_
    refine J_iconst hX 1 dX12_noTwo_85 rfl ?_
    refine J_goto hX 90 dX12_noTwo_86 rfl ?_
    exact E_Zi hX dX12_noTwo_90 rfl hf
  · refine J_if_neF hX 85 dX12_noTwo_31 rfl (b2iF c_3) ?_
    refine J_aload_n hX 0 dX12_noTwo_34 rfl rfl ?_
    refine J_iload_n hX 1 dX12_noTwo_35 rfl rfl ?_
    refine J_iload_n hX 2 dX12_noTwo_36 rfl rfl ?_
    rcases ifE hf with ⟨c_4, hf⟩ | ⟨c_4, hf⟩
    · refine J_icmp_eqT hX 44 dX12_noTwo_37 rfl c_4 ?_
      refine J_iconst hX 1 dX12_noTwo_44 rfl ?_
      refine J_goto hX 49 dX12_noTwo_45 rfl ?_
      refine J_sub [0, 1, 2] [(0, .ref 30), (1, .int x1), (2, .int x2)] rfl ?_
      exact T_X12_noTwo_49 hX hdx x1 x2 1 r_1.2 hf
    · refine J_icmp_eqF hX 44 dX12_noTwo_37 rfl c_4 ?_
      refine J_iload_n hX 3 dX12_noTwo_40 rfl rfl ?_
      rcases ifE hf with ⟨c_5, hf⟩ | ⟨c_5, hf⟩
      · refine J_if_neF hX 48 dX12_noTwo_41 rfl c_5 ?_
        refine J_iconst hX 1 dX12_noTwo_44 rfl ?_
        refine J_goto hX 49 dX12_noTwo_45 rfl ?_
        refine J_sub [0, 1, 2] [(0, .ref 30), (1, .int x1), (2, .int x2)] rfl ?_
        exact T_X12_noTwo_49 hX hdx x1 x2 1 r_1.2 hf
      · refine J_if_neT hX 48 dX12_noTwo_41 rfl c_5 ?_
        refine J_iconst hX 0 dX12_noTwo_48 rfl ?_
        refine J_sub [0, 1, 2] [(0, .ref 30), (1, .int x1), (2, .int x2)] rfl ?_
        exact T_X12_noTwo_49 hX hdx x1 x2 0 r_1.2 hf
set_option maxRecDepth 100000 in
set_option maxHeartbeats 200000 in
theorem T_X12_noTwo_0 {X : CX} (hX : Ok X cX12_noTwo 4 RX12 (some .boolean)) (hdx : dX X = 5) {r : Bool × Hp} (x1 : Int32) (x2 : Int32) (x3 : Int32) (h : Hp) (hf : f_X12_noTwo x1 x2 x3 h = some r) : J X ((.inl (some (.int (b2i r.1))), r.2)) 0 [(0, .ref 30), (1, .int x1), (2, .int x2), (3, .int x3)] [] h := by
  unfold f_X12_noTwo at hf
  refine J_aload_n hX 0 dX12_noTwo_0 rfl rfl ?_
  refine J_iconst hX 0 dX12_noTwo_1 rfl ?_
  obtain ⟨h_1, e_2, hf⟩ := bndE hf
  refine J_putI hX dX12_noTwo_2 fl_X12_3 fw_10_0 ob_30 rfl rfl rfl ?_
  refine J_nmh e_2 ?_
  refine J_aload_n hX 0 dX12_noTwo_5 rfl rfl ?_
  refine J_aload_n hX 0 dX12_noTwo_6 rfl rfl ?_
  refine J_iload_n hX 1 dX12_noTwo_7 rfl rfl ?_
  refine V_1 hX [.int x1] dX12_noTwo_8 cw_X12_392 ob_30 rfl (C_X12_noHouse (okG hX) rfl) (ltD hdx rfl) rfl rfl rfl rfl ?_
  rcases ifE hf with ⟨c_3, hf⟩ | ⟨c_3, hf⟩
  · refine J_if_neT hX 22 dX12_noTwo_11 rfl (b2iT c_3) ?_
    refine J_iconst hX 1 dX12_noTwo_22 rfl ?_
    refine J_goto hX 27 dX12_noTwo_23 rfl ?_
    exact T_X12_noTwo_27 hX hdx x1 x2 x3 1 h_1 hf
  · refine J_if_neF hX 22 dX12_noTwo_11 rfl (b2iF c_3) ?_
    refine J_aload_n hX 0 dX12_noTwo_14 rfl rfl ?_
    refine J_iload_n hX 2 dX12_noTwo_15 rfl rfl ?_
    refine V_1 hX [.int x2] dX12_noTwo_16 cw_X12_392 ob_30 rfl (C_X12_noHouse (okG hX) rfl) (ltD hdx rfl) rfl rfl rfl rfl ?_
    rcases ifE hf with ⟨c_4, hf⟩ | ⟨c_4, hf⟩
    · refine J_if_eqF hX 26 dX12_noTwo_19 rfl (b2iT c_4) ?_
      refine J_iconst hX 1 dX12_noTwo_22 rfl ?_
      refine J_goto hX 27 dX12_noTwo_23 rfl ?_
      exact T_X12_noTwo_27 hX hdx x1 x2 x3 1 h_1 hf
    · refine J_if_eqT hX 26 dX12_noTwo_19 rfl (b2iF c_4) ?_
      refine J_iconst hX 0 dX12_noTwo_26 rfl ?_
      exact T_X12_noTwo_27 hX hdx x1 x2 x3 0 h_1 hf
set_option maxRecDepth 100000 in
set_option maxHeartbeats 200000 in
theorem C_X12_noTwo {G : GX} (hG : GOk G) {x1 : Int32} {x2 : Int32} {x3 : Int32} {h : Hp} {r : Bool × Hp} (hf : f_X12_noTwo x1 x2 x3 h = some r) : Ctr G 5 yX12_noTwo cX12_noTwo 4 (some .boolean) [.ref 30, .int x1, .int x2, .int x3] h ((.inl (some (.int (b2i r.1))), r.2)) :=
  Ctr_of hG RX12 rfl (by decide) rfl (fun X _ hdx hX => T_X12_noTwo_0 hX hdx x1 x2 x3 h hf)
theorem dX12_lean_0 : decode cX12_lean 0 = .ok (.aload_n 0, 1) := by decide +kernel
theorem dX12_lean_1 : decode cX12_lean 1 = .ok (.iload_n 1, 1) := by decide +kernel
theorem dX12_lean_2 : decode cX12_lean 2 = .ok (.iload_n 2, 1) := by decide +kernel
theorem dX12_lean_3 : decode cX12_lean 3 = .ok (.iload_n 3, 1) := by decide +kernel
theorem dX12_lean_4 : decode cX12_lean 4 = .ok (.iconst 0, 1) := by decide +kernel
theorem dX12_lean_5 : decode cX12_lean 5 = .ok (.bipush 9, 2) := by decide +kernel
theorem dX12_lean_7 : decode cX12_lean 7 = .ok (.invokestatic 95, 3) := by decide +kernel
theorem dX12_lean_10 : decode cX12_lean 10 = .ok (.invokevirtual 413, 3) := by decide +kernel
theorem dX12_lean_13 : decode cX12_lean 13 = .ok (.ifCond .eq 5, 3) := by decide +kernel
theorem dX12_lean_16 : decode cX12_lean 16 = .ok (.iconst 0, 1) := by decide +kernel
theorem dX12_lean_17 : decode cX12_lean 17 = .ok (.ireturn, 1) := by decide +kernel
theorem dX12_lean_18 : decode cX12_lean 18 = .ok (.aload_n 0, 1) := by decide +kernel
theorem dX12_lean_19 : decode cX12_lean 19 = .ok (.invokevirtual 382, 3) := by decide +kernel
theorem dX12_lean_22 : decode cX12_lean 22 = .ok (.aload_n 0, 1) := by decide +kernel
theorem dX12_lean_23 : decode cX12_lean 23 = .ok (.iload_n 1, 1) := by decide +kernel
theorem dX12_lean_24 : decode cX12_lean 24 = .ok (.iload_n 2, 1) := by decide +kernel
theorem dX12_lean_25 : decode cX12_lean 25 = .ok (.invokevirtual 103, 3) := by decide +kernel
theorem dX12_lean_28 : decode cX12_lean 28 = .ok (.istore 4, 2) := by decide +kernel
theorem dX12_lean_30 : decode cX12_lean 30 = .ok (.aload_n 0, 1) := by decide +kernel
theorem dX12_lean_31 : decode cX12_lean 31 = .ok (.getfield 13, 3) := by decide +kernel
theorem dX12_lean_34 : decode cX12_lean 34 = .ok (.iload_n 1, 1) := by decide +kernel
theorem dX12_lean_35 : decode cX12_lean 35 = .ok (.iload_n 2, 1) := by decide +kernel
theorem dX12_lean_36 : decode cX12_lean 36 = .ok (.invokestatic 78, 3) := by decide +kernel
theorem dX12_lean_39 : decode cX12_lean 39 = .ok (.iload_n 3, 1) := by decide +kernel
theorem dX12_lean_40 : decode cX12_lean 40 = .ok (.iastore, 1) := by decide +kernel
theorem dX12_lean_41 : decode cX12_lean 41 = .ok (.iload 4, 2) := by decide +kernel
theorem dX12_lean_43 : decode cX12_lean 43 = .ok (.ireturn, 1) := by decide +kernel
set_option maxRecDepth 100000 in
set_option maxHeartbeats 200000 in
theorem T_X12_lean_0 {X : CX} (hX : Ok X cX12_lean 5 RX12 (some .int)) (hdx : dX X = 6) {r : Int32 × Hp} (x1 : Int32) (x2 : Int32) (x3 : Int32) (h : Hp) (hf : f_X12_lean x1 x2 x3 h = some r) : J X ((.inl (some (.int r.1)), r.2)) 0 [(0, .ref 30), (1, .int x1), (2, .int x2), (3, .int x3)] [] h := by
  unfold f_X12_lean at hf
  refine J_aload_n hX 0 dX12_lean_0 rfl rfl ?_
  refine J_iload_n hX 1 dX12_lean_1 rfl rfl ?_
  refine J_iload_n hX 2 dX12_lean_2 rfl rfl ?_
  refine J_iload_n hX 3 dX12_lean_3 rfl rfl ?_
  refine J_iconst hX 0 dX12_lean_4 rfl ?_
  refine J_bipush hX 9 dX12_lean_5 rfl ?_
  refine S_1 hX [.int x3, .int 0, .int 9] dX12_lean_7 cw_X12_95 (C_X12_in (okG hX) rfl) (ltD hdx rfl) rfl rfl rfl rfl ?_
  obtain ⟨r_1, e_2, hf⟩ := bdE hf
  refine V_1 hX [.int x1, .int x2, .int (b2i (f_X12_in x3 0 9 h))] dX12_lean_10 cw_X12_413 ob_30 rfl (C_X12_noTwo (okG hX) e_2) (ltD hdx rfl) rfl rfl rfl rfl ?_
  rcases ifE hf with ⟨c_3, hf⟩ | ⟨c_3, hf⟩
  · refine J_if_eqF hX 18 dX12_lean_13 rfl (b2iT c_3) ?_
    refine J_iconst hX 0 dX12_lean_16 rfl ?_
    exact E_Ii hX dX12_lean_17 hf
  · refine J_if_eqT hX 18 dX12_lean_13 rfl (b2iF c_3) ?_
    refine J_aload_n hX 0 dX12_lean_18 rfl rfl ?_
    obtain ⟨r_4, e_5, hf⟩ := bdE hf
    refine V_0 hX [] dX12_lean_19 cw_X12_382 ob_30 rfl (C_X12_remembers (okG hX) e_5) (ltD hdx rfl) rfl rfl rfl rfl ?_
    refine J_aload_n hX 0 dX12_lean_22 rfl rfl ?_
    refine J_iload_n hX 1 dX12_lean_23 rfl rfl ?_
    refine J_iload_n hX 2 dX12_lean_24 rfl rfl ?_
    obtain ⟨r_6, e_7, hf⟩ := bdE hf
    refine V_1 hX [.int x1, .int x2] dX12_lean_25 cw_X12_103 ob_30 rfl (C_X12_partOf (okG hX) e_7) (ltD hdx rfl) rfl rfl rfl rfl ?_
    refine J_istore hX [(4, .int r_6), (0, .ref 30), (1, .int x1), (2, .int x2), (3, .int x3)] dX12_lean_28 rfl rfl ?_
    refine J_aload_n hX 1 dX12_lean_30 rfl rfl ?_
    refine J_getR hX 31 dX12_lean_31 fl_X12_13 ob_30 rfl rfl ?_
    refine J_iload_n hX 2 dX12_lean_34 rfl rfl ?_
    refine J_iload_n hX 3 dX12_lean_35 rfl rfl ?_
    refine S_1 hX [.int x1, .int x2] dX12_lean_36 cw_X12_78 (C_X12_partAt (okG hX) rfl) (ltD hdx rfl) rfl rfl rfl rfl ?_
    refine J_iload_n hX 4 dX12_lean_39 rfl rfl ?_
    obtain ⟨g_8, hf⟩ := gdE hf
    obtain ⟨h_9, e_10, hf⟩ := bndE hf
    refine J_ast hX ((f_X12_partAt x1 x2 r_4).toNatClampNeg) x3 dX12_lean_40 ar_31 (Or.inl ⟨rfl, rfl, rfl⟩) g_8 rfl ?_
    refine J_nmh e_10 ?_
    refine J_iload hX 0 dX12_lean_41 rfl ?_
    exact E_Ii hX dX12_lean_43 hf
set_option maxRecDepth 100000 in
set_option maxHeartbeats 200000 in
theorem C_X12_lean {G : GX} (hG : GOk G) {x1 : Int32} {x2 : Int32} {x3 : Int32} {h : Hp} {r : Int32 × Hp} (hf : f_X12_lean x1 x2 x3 h = some r) : Ctr G 6 yX12_lean cX12_lean 5 (some .int) [.ref 30, .int x1, .int x2, .int x3] h ((.inl (some (.int r.1)), r.2)) :=
  Ctr_of hG RX12 rfl (by decide) rfl (fun X _ hdx hX => T_X12_lean_0 hX hdx x1 x2 x3 h hf)
theorem dX12_weds_0 : decode cX12_weds 0 = .ok (.aload_n 0, 1) := by decide +kernel
theorem dX12_weds_1 : decode cX12_weds 1 = .ok (.getfield 13, 3) := by decide +kernel
theorem dX12_weds_4 : decode cX12_weds 4 = .ok (.iload_n 1, 1) := by decide +kernel
theorem dX12_weds_5 : decode cX12_weds 5 = .ok (.iload_n 2, 1) := by decide +kernel
theorem dX12_weds_6 : decode cX12_weds 6 = .ok (.invokestatic 78, 3) := by decide +kernel
theorem dX12_weds_9 : decode cX12_weds 9 = .ok (.bipush 9, 2) := by decide +kernel
theorem dX12_weds_11 : decode cX12_weds 11 = .ok (.aload_n 0, 1) := by decide +kernel
theorem dX12_weds_12 : decode cX12_weds 12 = .ok (.iload_n 1, 1) := by decide +kernel
theorem dX12_weds_13 : decode cX12_weds 13 = .ok (.iload_n 2, 1) := by decide +kernel
theorem dX12_weds_14 : decode cX12_weds 14 = .ok (.invokevirtual 103, 3) := by decide +kernel
theorem dX12_weds_17 : decode cX12_weds 17 = .ok (.iconst 1, 1) := by decide +kernel
theorem dX12_weds_18 : decode cX12_weds 18 = .ok (.iadd, 1) := by decide +kernel
theorem dX12_weds_19 : decode cX12_weds 19 = .ok (.invokestatic 328, 3) := by decide +kernel
theorem dX12_weds_22 : decode cX12_weds 22 = .ok (.iastore, 1) := by decide +kernel
theorem dX12_weds_23 : decode cX12_weds 23 = .ok (.aload_n 0, 1) := by decide +kernel
theorem dX12_weds_24 : decode cX12_weds 24 = .ok (.getfield 13, 3) := by decide +kernel
theorem dX12_weds_27 : decode cX12_weds 27 = .ok (.iload_n 2, 1) := by decide +kernel
theorem dX12_weds_28 : decode cX12_weds 28 = .ok (.iload_n 1, 1) := by decide +kernel
theorem dX12_weds_29 : decode cX12_weds 29 = .ok (.invokestatic 78, 3) := by decide +kernel
theorem dX12_weds_32 : decode cX12_weds 32 = .ok (.bipush 9, 2) := by decide +kernel
theorem dX12_weds_34 : decode cX12_weds 34 = .ok (.aload_n 0, 1) := by decide +kernel
theorem dX12_weds_35 : decode cX12_weds 35 = .ok (.iload_n 2, 1) := by decide +kernel
theorem dX12_weds_36 : decode cX12_weds 36 = .ok (.iload_n 1, 1) := by decide +kernel
theorem dX12_weds_37 : decode cX12_weds 37 = .ok (.invokevirtual 103, 3) := by decide +kernel
theorem dX12_weds_40 : decode cX12_weds 40 = .ok (.iconst 1, 1) := by decide +kernel
theorem dX12_weds_41 : decode cX12_weds 41 = .ok (.iadd, 1) := by decide +kernel
theorem dX12_weds_42 : decode cX12_weds 42 = .ok (.invokestatic 328, 3) := by decide +kernel
theorem dX12_weds_45 : decode cX12_weds 45 = .ok (.iastore, 1) := by decide +kernel
theorem dX12_weds_46 : decode cX12_weds 46 = .ok (.return_, 1) := by decide +kernel
set_option maxRecDepth 100000 in
set_option maxHeartbeats 200000 in
theorem T_X12_weds_0 {X : CX} (hX : Ok X cX12_weds 3 RX12 none) (hdx : dX X = 4) {r : Hp} (x1 : Int32) (x2 : Int32) (h : Hp) (hf : f_X12_weds x1 x2 h = some r) : J X ((.inl none, r)) 0 [(0, .ref 30), (1, .int x1), (2, .int x2)] [] h := by
  unfold f_X12_weds at hf
  refine J_aload_n hX 0 dX12_weds_0 rfl rfl ?_
  refine J_getR hX 31 dX12_weds_1 fl_X12_13 ob_30 rfl rfl ?_
  refine J_iload_n hX 1 dX12_weds_4 rfl rfl ?_
  refine J_iload_n hX 2 dX12_weds_5 rfl rfl ?_
  refine S_1 hX [.int x1, .int x2] dX12_weds_6 cw_X12_78 (C_X12_partAt (okG hX) rfl) (ltD hdx rfl) rfl rfl rfl rfl ?_
  refine J_bipush hX 9 dX12_weds_9 rfl ?_
  refine J_aload_n hX 0 dX12_weds_11 rfl rfl ?_
  refine J_iload_n hX 1 dX12_weds_12 rfl rfl ?_
  refine J_iload_n hX 2 dX12_weds_13 rfl rfl ?_
  obtain ⟨r_1, e_2, hf⟩ := bdE hf
  refine V_1 hX [.int x1, .int x2] dX12_weds_14 cw_X12_103 ob_30 rfl (C_X12_partOf (okG hX) e_2) (ltD hdx rfl) rfl rfl rfl rfl ?_
  refine J_iconst hX 1 dX12_weds_17 rfl ?_
  refine J_iadd hX dX12_weds_18 ?_
  refine J_min hX dX12_weds_19 mw_X12_328 (ltD hdx rfl) rfl ?_
  obtain ⟨g_3, hf⟩ := gdE hf
  obtain ⟨h_4, e_5, hf⟩ := bndE hf
  refine J_ast hX ((f_X12_partAt x1 x2 h).toNatClampNeg) (imin 9 (r_1 + 1)) dX12_weds_22 ar_31 (Or.inl ⟨rfl, rfl, rfl⟩) g_3 rfl ?_
  refine J_nmh e_5 ?_
  refine J_aload_n hX 0 dX12_weds_23 rfl rfl ?_
  refine J_getR hX 31 dX12_weds_24 fl_X12_13 ob_30 rfl rfl ?_
  refine J_iload_n hX 2 dX12_weds_27 rfl rfl ?_
  refine J_iload_n hX 1 dX12_weds_28 rfl rfl ?_
  refine S_1 hX [.int x2, .int x1] dX12_weds_29 cw_X12_78 (C_X12_partAt (okG hX) rfl) (ltD hdx rfl) rfl rfl rfl rfl ?_
  refine J_bipush hX 9 dX12_weds_32 rfl ?_
  refine J_aload_n hX 0 dX12_weds_34 rfl rfl ?_
  refine J_iload_n hX 2 dX12_weds_35 rfl rfl ?_
  refine J_iload_n hX 1 dX12_weds_36 rfl rfl ?_
  obtain ⟨r_6, e_7, hf⟩ := bdE hf
  refine V_1 hX [.int x2, .int x1] dX12_weds_37 cw_X12_103 ob_30 rfl (C_X12_partOf (okG hX) e_7) (ltD hdx rfl) rfl rfl rfl rfl ?_
  refine J_iconst hX 1 dX12_weds_40 rfl ?_
  refine J_iadd hX dX12_weds_41 ?_
  refine J_min hX dX12_weds_42 mw_X12_328 (ltD hdx rfl) rfl ?_
  obtain ⟨g_8, hf⟩ := gdE hf
  obtain ⟨h_9, e_10, hf⟩ := bndE hf
  refine J_ast hX ((f_X12_partAt x2 x1 h_4).toNatClampNeg) (imin 9 (r_6 + 1)) dX12_weds_45 ar_31 (Or.inl ⟨rfl, rfl, rfl⟩) g_8 rfl ?_
  refine J_nmh e_10 ?_
  exact E_Vi hX dX12_weds_46 hf
set_option maxRecDepth 100000 in
set_option maxHeartbeats 200000 in
theorem C_X12_weds {G : GX} (hG : GOk G) {x1 : Int32} {x2 : Int32} {h : Hp} {r : Hp} (hf : f_X12_weds x1 x2 h = some r) : Ctr G 4 yX12_weds cX12_weds 3 none [.ref 30, .int x1, .int x2] h ((.inl none, r)) :=
  Ctr_of hG RX12 rfl (by decide) rfl (fun X _ hdx hX => T_X12_weds_0 hX hdx x1 x2 h hf)
theorem dX12_wed_0 : decode cX12_wed 0 = .ok (.aload_n 0, 1) := by decide +kernel
theorem dX12_wed_1 : decode cX12_wed 1 = .ok (.iload_n 1, 1) := by decide +kernel
theorem dX12_wed_2 : decode cX12_wed 2 = .ok (.iload_n 2, 1) := by decide +kernel
theorem dX12_wed_3 : decode cX12_wed 3 = .ok (.iconst 1, 1) := by decide +kernel
theorem dX12_wed_4 : decode cX12_wed 4 = .ok (.invokevirtual 413, 3) := by decide +kernel
theorem dX12_wed_7 : decode cX12_wed 7 = .ok (.ifCond .eq 5, 3) := by decide +kernel
theorem dX12_wed_10 : decode cX12_wed 10 = .ok (.iconst 0, 1) := by decide +kernel
theorem dX12_wed_11 : decode cX12_wed 11 = .ok (.ireturn, 1) := by decide +kernel
theorem dX12_wed_12 : decode cX12_wed 12 = .ok (.aload_n 0, 1) := by decide +kernel
theorem dX12_wed_13 : decode cX12_wed 13 = .ok (.invokevirtual 382, 3) := by decide +kernel
theorem dX12_wed_16 : decode cX12_wed 16 = .ok (.aload_n 0, 1) := by decide +kernel
theorem dX12_wed_17 : decode cX12_wed 17 = .ok (.iload_n 1, 1) := by decide +kernel
theorem dX12_wed_18 : decode cX12_wed 18 = .ok (.iload_n 2, 1) := by decide +kernel
theorem dX12_wed_19 : decode cX12_wed 19 = .ok (.invokevirtual 417, 3) := by decide +kernel
theorem dX12_wed_22 : decode cX12_wed 22 = .ok (.aload_n 0, 1) := by decide +kernel
theorem dX12_wed_23 : decode cX12_wed 23 = .ok (.iload_n 1, 1) := by decide +kernel
theorem dX12_wed_24 : decode cX12_wed 24 = .ok (.iload_n 2, 1) := by decide +kernel
theorem dX12_wed_25 : decode cX12_wed 25 = .ok (.invokevirtual 103, 3) := by decide +kernel
theorem dX12_wed_28 : decode cX12_wed 28 = .ok (.ireturn, 1) := by decide +kernel
set_option maxRecDepth 100000 in
set_option maxHeartbeats 200000 in
theorem T_X12_wed_0 {X : CX} (hX : Ok X cX12_wed 3 RX12 (some .int)) (hdx : dX X = 6) {r : Int32 × Hp} (x1 : Int32) (x2 : Int32) (h : Hp) (hf : f_X12_wed x1 x2 h = some r) : J X ((.inl (some (.int r.1)), r.2)) 0 [(0, .ref 30), (1, .int x1), (2, .int x2)] [] h := by
  unfold f_X12_wed at hf
  refine J_aload_n hX 0 dX12_wed_0 rfl rfl ?_
  refine J_iload_n hX 1 dX12_wed_1 rfl rfl ?_
  refine J_iload_n hX 2 dX12_wed_2 rfl rfl ?_
  refine J_iconst hX 1 dX12_wed_3 rfl ?_
  obtain ⟨r_1, e_2, hf⟩ := bdE hf
  refine V_1 hX [.int x1, .int x2, .int 1] dX12_wed_4 cw_X12_413 ob_30 rfl (C_X12_noTwo (okG hX) e_2) (ltD hdx rfl) rfl rfl rfl rfl ?_
  rcases ifE hf with ⟨c_3, hf⟩ | ⟨c_3, hf⟩
  · refine J_if_eqF hX 12 dX12_wed_7 rfl (b2iT c_3) ?_
    refine J_iconst hX 0 dX12_wed_10 rfl ?_
    exact E_Ii hX dX12_wed_11 hf
  · refine J_if_eqT hX 12 dX12_wed_7 rfl (b2iF c_3) ?_
    refine J_aload_n hX 0 dX12_wed_12 rfl rfl ?_
    obtain ⟨r_4, e_5, hf⟩ := bdE hf
    refine V_0 hX [] dX12_wed_13 cw_X12_382 ob_30 rfl (C_X12_remembers (okG hX) e_5) (ltD hdx rfl) rfl rfl rfl rfl ?_
    refine J_aload_n hX 0 dX12_wed_16 rfl rfl ?_
    refine J_iload_n hX 1 dX12_wed_17 rfl rfl ?_
    refine J_iload_n hX 2 dX12_wed_18 rfl rfl ?_
    obtain ⟨r_6, e_7, hf⟩ := bdE hf
    refine V_0 hX [.int x1, .int x2] dX12_wed_19 cw_X12_417 ob_30 rfl (C_X12_weds (okG hX) e_7) (ltD hdx rfl) rfl rfl rfl rfl ?_
    refine J_aload_n hX 0 dX12_wed_22 rfl rfl ?_
    refine J_iload_n hX 1 dX12_wed_23 rfl rfl ?_
    refine J_iload_n hX 2 dX12_wed_24 rfl rfl ?_
    obtain ⟨r_8, e_9, hf⟩ := bdE hf
    refine V_1 hX [.int x1, .int x2] dX12_wed_25 cw_X12_103 ob_30 rfl (C_X12_partOf (okG hX) e_9) (ltD hdx rfl) rfl rfl rfl rfl ?_
    exact E_Ii hX dX12_wed_28 hf
set_option maxRecDepth 100000 in
set_option maxHeartbeats 200000 in
theorem C_X12_wed {G : GX} (hG : GOk G) {x1 : Int32} {x2 : Int32} {h : Hp} {r : Int32 × Hp} (hf : f_X12_wed x1 x2 h = some r) : Ctr G 6 yX12_wed cX12_wed 3 (some .int) [.ref 30, .int x1, .int x2] h ((.inl (some (.int r.1)), r.2)) :=
  Ctr_of hG RX12 rfl (by decide) rfl (fun X _ hdx hX => T_X12_wed_0 hX hdx x1 x2 h hf)
theorem dX12_trim_0 : decode cX12_trim 0 = .ok (.aload_n 0, 1) := by decide +kernel
theorem dX12_trim_1 : decode cX12_trim 1 = .ok (.iconst 0, 1) := by decide +kernel
theorem dX12_trim_2 : decode cX12_trim 2 = .ok (.putfield 3, 3) := by decide +kernel
theorem dX12_trim_5 : decode cX12_trim 5 = .ok (.aload_n 0, 1) := by decide +kernel
theorem dX12_trim_6 : decode cX12_trim 6 = .ok (.aload_n 0, 1) := by decide +kernel
theorem dX12_trim_7 : decode cX12_trim 7 = .ok (.iload_n 1, 1) := by decide +kernel
theorem dX12_trim_8 : decode cX12_trim 8 = .ok (.invokevirtual 392, 3) := by decide +kernel
theorem dX12_trim_11 : decode cX12_trim 11 = .ok (.iconst 1, 1) := by decide +kernel
theorem dX12_trim_12 : decode cX12_trim 12 = .ok (.invokevirtual 280, 3) := by decide +kernel
theorem dX12_trim_15 : decode cX12_trim 15 = .ok (.ifCond .ne 16, 3) := by decide +kernel
theorem dX12_trim_18 : decode cX12_trim 18 = .ok (.aload_n 0, 1) := by decide +kernel
theorem dX12_trim_19 : decode cX12_trim 19 = .ok (.aload_n 0, 1) := by decide +kernel
theorem dX12_trim_20 : decode cX12_trim 20 = .ok (.iload_n 1, 1) := by decide +kernel
theorem dX12_trim_21 : decode cX12_trim 21 = .ok (.invokevirtual 91, 3) := by decide +kernel
theorem dX12_trim_24 : decode cX12_trim 24 = .ok (.iconst 2, 1) := by decide +kernel
theorem dX12_trim_25 : decode cX12_trim 25 = .ok (.invokevirtual 280, 3) := by decide +kernel
theorem dX12_trim_28 : decode cX12_trim 28 = .ok (.ifCond .eq 5, 3) := by decide +kernel
theorem dX12_trim_31 : decode cX12_trim 31 = .ok (.iconst 0, 1) := by decide +kernel
theorem dX12_trim_32 : decode cX12_trim 32 = .ok (.ireturn, 1) := by decide +kernel
theorem dX12_trim_33 : decode cX12_trim 33 = .ok (.aload_n 0, 1) := by decide +kernel
theorem dX12_trim_34 : decode cX12_trim 34 = .ok (.invokevirtual 382, 3) := by decide +kernel
theorem dX12_trim_37 : decode cX12_trim 37 = .ok (.aload_n 0, 1) := by decide +kernel
theorem dX12_trim_38 : decode cX12_trim 38 = .ok (.iload_n 1, 1) := by decide +kernel
theorem dX12_trim_39 : decode cX12_trim 39 = .ok (.iconst 2, 1) := by decide +kernel
theorem dX12_trim_40 : decode cX12_trim 40 = .ok (.invokevirtual 84, 3) := by decide +kernel
theorem dX12_trim_43 : decode cX12_trim 43 = .ok (.istore_n 2, 1) := by decide +kernel
theorem dX12_trim_44 : decode cX12_trim 44 = .ok (.aload_n 0, 1) := by decide +kernel
theorem dX12_trim_45 : decode cX12_trim 45 = .ok (.getfield 13, 3) := by decide +kernel
theorem dX12_trim_48 : decode cX12_trim 48 = .ok (.iload_n 1, 1) := by decide +kernel
theorem dX12_trim_49 : decode cX12_trim 49 = .ok (.iconst 2, 1) := by decide +kernel
theorem dX12_trim_50 : decode cX12_trim 50 = .ok (.invokestatic 74, 3) := by decide +kernel
theorem dX12_trim_53 : decode cX12_trim 53 = .ok (.iconst 0, 1) := by decide +kernel
theorem dX12_trim_54 : decode cX12_trim 54 = .ok (.iastore, 1) := by decide +kernel
theorem dX12_trim_55 : decode cX12_trim 55 = .ok (.iload_n 2, 1) := by decide +kernel
theorem dX12_trim_56 : decode cX12_trim 56 = .ok (.ireturn, 1) := by decide +kernel
set_option maxRecDepth 100000 in
set_option maxHeartbeats 200000 in
theorem T_X12_trim_0 {X : CX} (hX : Ok X cX12_trim 3 RX12 (some .int)) (hdx : dX X = 5) {r : Int32 × Hp} (x1 : Int32) (h : Hp) (hf : f_X12_trim x1 h = some r) : J X ((.inl (some (.int r.1)), r.2)) 0 [(0, .ref 30), (1, .int x1)] [] h := by
  unfold f_X12_trim at hf
  refine J_aload_n hX 0 dX12_trim_0 rfl rfl ?_
  refine J_iconst hX 0 dX12_trim_1 rfl ?_
  obtain ⟨h_1, e_2, hf⟩ := bndE hf
  refine J_putI hX dX12_trim_2 fl_X12_3 fw_10_0 ob_30 rfl rfl rfl ?_
  refine J_nmh e_2 ?_
  refine J_aload_n hX 0 dX12_trim_5 rfl rfl ?_
  refine J_aload_n hX 0 dX12_trim_6 rfl rfl ?_
  refine J_iload_n hX 1 dX12_trim_7 rfl rfl ?_
  refine V_1 hX [.int x1] dX12_trim_8 cw_X12_392 ob_30 rfl (C_X12_noHouse (okG hX) rfl) (ltD hdx rfl) rfl rfl rfl rfl ?_
  refine J_iconst hX 1 dX12_trim_11 rfl ?_
  obtain ⟨r_3, e_4, hf⟩ := bdE hf
  refine V_1 hX [.int (b2i (f_X12_noHouse x1 h_1)), .int 1] dX12_trim_12 cw_X12_280 ob_30 rfl (C_X12_throwsIf (okG hX) e_4) (ltD hdx rfl) rfl rfl rfl rfl ?_
  rcases ifE hf with ⟨c_5, hf⟩ | ⟨c_5, hf⟩
  · refine J_if_neT hX 31 dX12_trim_15 rfl (b2iT c_5) ?_
    refine J_iconst hX 0 dX12_trim_31 rfl ?_
    exact E_Ii hX dX12_trim_32 hf
  · refine J_if_neF hX 31 dX12_trim_15 rfl (b2iF c_5) ?_
    refine J_aload_n hX 0 dX12_trim_18 rfl rfl ?_
    refine J_aload_n hX 0 dX12_trim_19 rfl rfl ?_
    refine J_iload_n hX 1 dX12_trim_20 rfl rfl ?_
    obtain ⟨r_6, e_7, hf⟩ := bdE hf
    refine V_1 hX [.int x1] dX12_trim_21 cw_X12_91 ob_30 rfl (C_X12_isFallen (okG hX) e_7) (ltD hdx rfl) rfl rfl rfl rfl ?_
    refine J_iconst hX 2 dX12_trim_24 rfl ?_
    obtain ⟨r_8, e_9, hf⟩ := bdE hf
    refine V_1 hX [.int (b2i r_6), .int 2] dX12_trim_25 cw_X12_280 ob_30 rfl (C_X12_throwsIf (okG hX) e_9) (ltD hdx rfl) rfl rfl rfl rfl ?_
    rcases ifE hf with ⟨c_10, hf⟩ | ⟨c_10, hf⟩
    · refine J_if_eqF hX 33 dX12_trim_28 rfl (b2iT c_10) ?_
      refine J_iconst hX 0 dX12_trim_31 rfl ?_
      exact E_Ii hX dX12_trim_32 hf
    · refine J_if_eqT hX 33 dX12_trim_28 rfl (b2iF c_10) ?_
      refine J_aload_n hX 0 dX12_trim_33 rfl rfl ?_
      obtain ⟨r_11, e_12, hf⟩ := bdE hf
      refine V_0 hX [] dX12_trim_34 cw_X12_382 ob_30 rfl (C_X12_remembers (okG hX) e_12) (ltD hdx rfl) rfl rfl rfl rfl ?_
      refine J_aload_n hX 0 dX12_trim_37 rfl rfl ?_
      refine J_iload_n hX 1 dX12_trim_38 rfl rfl ?_
      refine J_iconst hX 2 dX12_trim_39 rfl ?_
      obtain ⟨r_13, e_14, hf⟩ := bdE hf
      refine V_1 hX [.int x1, .int 2] dX12_trim_40 cw_X12_84 ob_30 rfl (C_X12_of (okG hX) e_14) (ltD hdx rfl) rfl rfl rfl rfl ?_
      refine J_istore_n hX [(2, .int r_13), (0, .ref 30), (1, .int x1)] dX12_trim_43 rfl rfl rfl ?_
      refine J_aload_n hX 1 dX12_trim_44 rfl rfl ?_
      refine J_getR hX 31 dX12_trim_45 fl_X12_13 ob_30 rfl rfl ?_
      refine J_iload_n hX 2 dX12_trim_48 rfl rfl ?_
      refine J_iconst hX 2 dX12_trim_49 rfl ?_
      refine S_1 hX [.int x1, .int 2] dX12_trim_50 cw_X12_74 (C_X12_at (okG hX) rfl) (ltD hdx rfl) rfl rfl rfl rfl ?_
      refine J_iconst hX 0 dX12_trim_53 rfl ?_
      obtain ⟨g_15, hf⟩ := gdE hf
      obtain ⟨h_16, e_17, hf⟩ := bndE hf
      refine J_ast hX ((f_X12_at x1 2 r_11).toNatClampNeg) 0 dX12_trim_54 ar_31 (Or.inl ⟨rfl, rfl, rfl⟩) g_15 rfl ?_
      refine J_nmh e_17 ?_
      refine J_iload_n hX 0 dX12_trim_55 rfl rfl ?_
      exact E_Ii hX dX12_trim_56 hf
set_option maxRecDepth 100000 in
set_option maxHeartbeats 200000 in
theorem C_X12_trim {G : GX} (hG : GOk G) {x1 : Int32} {h : Hp} {r : Int32 × Hp} (hf : f_X12_trim x1 h = some r) : Ctr G 5 yX12_trim cX12_trim 3 (some .int) [.ref 30, .int x1] h ((.inl (some (.int r.1)), r.2)) :=
  Ctr_of hG RX12 rfl (by decide) rfl (fun X _ hdx hX => T_X12_trim_0 hX hdx x1 h hf)
theorem dX12_move_0 : decode cX12_move 0 = .ok (.aload_n 0, 1) := by decide +kernel
theorem dX12_move_1 : decode cX12_move 1 = .ok (.iconst 0, 1) := by decide +kernel
theorem dX12_move_2 : decode cX12_move 2 = .ok (.putfield 3, 3) := by decide +kernel
theorem dX12_move_5 : decode cX12_move 5 = .ok (.aload_n 0, 1) := by decide +kernel
theorem dX12_move_6 : decode cX12_move 6 = .ok (.aload_n 0, 1) := by decide +kernel
theorem dX12_move_7 : decode cX12_move 7 = .ok (.iload_n 1, 1) := by decide +kernel
theorem dX12_move_8 : decode cX12_move 8 = .ok (.invokevirtual 407, 3) := by decide +kernel
theorem dX12_move_11 : decode cX12_move 11 = .ok (.ifCond .ne 11, 3) := by decide +kernel
theorem dX12_move_14 : decode cX12_move 14 = .ok (.aload_n 0, 1) := by decide +kernel
theorem dX12_move_15 : decode cX12_move 15 = .ok (.iload_n 2, 1) := by decide +kernel
theorem dX12_move_16 : decode cX12_move 16 = .ok (.invokevirtual 392, 3) := by decide +kernel
theorem dX12_move_19 : decode cX12_move 19 = .ok (.ifCond .eq 7, 3) := by decide +kernel
theorem dX12_move_22 : decode cX12_move 22 = .ok (.iconst 1, 1) := by decide +kernel
theorem dX12_move_23 : decode cX12_move 23 = .ok (.goto 4, 3) := by decide +kernel
theorem dX12_move_26 : decode cX12_move 26 = .ok (.iconst 0, 1) := by decide +kernel
theorem dX12_move_27 : decode cX12_move 27 = .ok (.iconst 1, 1) := by decide +kernel
theorem dX12_move_28 : decode cX12_move 28 = .ok (.invokevirtual 280, 3) := by decide +kernel
theorem dX12_move_31 : decode cX12_move 31 = .ok (.ifCond .ne 16, 3) := by decide +kernel
theorem dX12_move_34 : decode cX12_move 34 = .ok (.aload_n 0, 1) := by decide +kernel
theorem dX12_move_35 : decode cX12_move 35 = .ok (.aload_n 0, 1) := by decide +kernel
theorem dX12_move_36 : decode cX12_move 36 = .ok (.iload_n 2, 1) := by decide +kernel
theorem dX12_move_37 : decode cX12_move 37 = .ok (.invokevirtual 91, 3) := by decide +kernel
theorem dX12_move_40 : decode cX12_move 40 = .ok (.iconst 2, 1) := by decide +kernel
theorem dX12_move_41 : decode cX12_move 41 = .ok (.invokevirtual 280, 3) := by decide +kernel
theorem dX12_move_44 : decode cX12_move 44 = .ok (.ifCond .eq 5, 3) := by decide +kernel
theorem dX12_move_47 : decode cX12_move 47 = .ok (.iconst 0, 1) := by decide +kernel
theorem dX12_move_48 : decode cX12_move 48 = .ok (.ireturn, 1) := by decide +kernel
theorem dX12_move_49 : decode cX12_move 49 = .ok (.aload_n 0, 1) := by decide +kernel
theorem dX12_move_50 : decode cX12_move 50 = .ok (.invokevirtual 382, 3) := by decide +kernel
theorem dX12_move_53 : decode cX12_move 53 = .ok (.aload_n 0, 1) := by decide +kernel
theorem dX12_move_54 : decode cX12_move 54 = .ok (.iload_n 1, 1) := by decide +kernel
theorem dX12_move_55 : decode cX12_move 55 = .ok (.iconst 0, 1) := by decide +kernel
theorem dX12_move_56 : decode cX12_move 56 = .ok (.invokevirtual 283, 3) := by decide +kernel
theorem dX12_move_59 : decode cX12_move 59 = .ok (.istore_n 3, 1) := by decide +kernel
theorem dX12_move_60 : decode cX12_move 60 = .ok (.aload_n 0, 1) := by decide +kernel
theorem dX12_move_61 : decode cX12_move 61 = .ok (.getfield 13, 3) := by decide +kernel
theorem dX12_move_64 : decode cX12_move 64 = .ok (.iload_n 1, 1) := by decide +kernel
theorem dX12_move_65 : decode cX12_move 65 = .ok (.iconst 0, 1) := by decide +kernel
theorem dX12_move_66 : decode cX12_move 66 = .ok (.invokestatic 81, 3) := by decide +kernel
theorem dX12_move_69 : decode cX12_move 69 = .ok (.iload_n 2, 1) := by decide +kernel
theorem dX12_move_70 : decode cX12_move 70 = .ok (.iastore, 1) := by decide +kernel
theorem dX12_move_71 : decode cX12_move 71 = .ok (.iload_n 3, 1) := by decide +kernel
theorem dX12_move_72 : decode cX12_move 72 = .ok (.ireturn, 1) := by decide +kernel
set_option maxRecDepth 100000 in
set_option maxHeartbeats 200000 in
theorem T_X12_move_27 {X : CX} (hX : Ok X cX12_move 4 RX12 (some .int)) (hdx : dX X = 5) {r : Int32 × Hp} (x1 : Int32) (x2 : Int32) (t0 : Int32) (h : Hp) (hf : F_X12_move_27 x1 x2 t0 h = some r) : J X ((.inl (some (.int r.1)), r.2)) 27 [(0, .ref 30), (1, .int x1), (2, .int x2)] [.int t0, .ref 30] h := by
  unfold F_X12_move_27 at hf
  refine J_iconst hX 1 dX12_move_27 rfl ?_
  obtain ⟨r_1, e_2, hf⟩ := bdE hf
  refine V_1 hX [.int t0, .int 1] dX12_move_28 cw_X12_280 ob_30 rfl (C_X12_throwsIf (okG hX) e_2) (ltD hdx rfl) rfl rfl rfl rfl ?_
  rcases ifE hf with ⟨c_3, hf⟩ | ⟨c_3, hf⟩
  · refine J_if_neT hX 47 dX12_move_31 rfl (b2iT c_3) ?_
    refine J_iconst hX 0 dX12_move_47 rfl ?_
    exact E_Ii hX dX12_move_48 hf
  · refine J_if_neF hX 47 dX12_move_31 rfl (b2iF c_3) ?_
    refine J_aload_n hX 0 dX12_move_34 rfl rfl ?_
    refine J_aload_n hX 0 dX12_move_35 rfl rfl ?_
    refine J_iload_n hX 2 dX12_move_36 rfl rfl ?_
    obtain ⟨r_4, e_5, hf⟩ := bdE hf
    refine V_1 hX [.int x2] dX12_move_37 cw_X12_91 ob_30 rfl (C_X12_isFallen (okG hX) e_5) (ltD hdx rfl) rfl rfl rfl rfl ?_
    refine J_iconst hX 2 dX12_move_40 rfl ?_
    obtain ⟨r_6, e_7, hf⟩ := bdE hf
    refine V_1 hX [.int (b2i r_4), .int 2] dX12_move_41 cw_X12_280 ob_30 rfl (C_X12_throwsIf (okG hX) e_7) (ltD hdx rfl) rfl rfl rfl rfl ?_
    rcases ifE hf with ⟨c_8, hf⟩ | ⟨c_8, hf⟩
    · refine J_if_eqF hX 49 dX12_move_44 rfl (b2iT c_8) ?_
      refine J_iconst hX 0 dX12_move_47 rfl ?_
      exact E_Ii hX dX12_move_48 hf
    · refine J_if_eqT hX 49 dX12_move_44 rfl (b2iF c_8) ?_
      refine J_aload_n hX 0 dX12_move_49 rfl rfl ?_
      obtain ⟨r_9, e_10, hf⟩ := bdE hf
      refine V_0 hX [] dX12_move_50 cw_X12_382 ob_30 rfl (C_X12_remembers (okG hX) e_10) (ltD hdx rfl) rfl rfl rfl rfl ?_
      refine J_aload_n hX 0 dX12_move_53 rfl rfl ?_
      refine J_iload_n hX 1 dX12_move_54 rfl rfl ?_
      refine J_iconst hX 0 dX12_move_55 rfl ?_
      obtain ⟨r_11, e_12, hf⟩ := bdE hf
      refine V_1 hX [.int x1, .int 0] dX12_move_56 cw_X12_283 ob_30 rfl (C_X12_ofPerson (okG hX) e_12) (ltD hdx rfl) rfl rfl rfl rfl ?_
      refine J_istore_n hX [(3, .int r_11), (0, .ref 30), (1, .int x1), (2, .int x2)] dX12_move_59 rfl rfl rfl ?_
      refine J_aload_n hX 1 dX12_move_60 rfl rfl ?_
      refine J_getR hX 31 dX12_move_61 fl_X12_13 ob_30 rfl rfl ?_
      refine J_iload_n hX 2 dX12_move_64 rfl rfl ?_
      refine J_iconst hX 0 dX12_move_65 rfl ?_
      refine S_1 hX [.int x1, .int 0] dX12_move_66 cw_X12_81 (C_X12_personAt (okG hX) rfl) (ltD hdx rfl) rfl rfl rfl rfl ?_
      refine J_iload_n hX 3 dX12_move_69 rfl rfl ?_
      obtain ⟨g_13, hf⟩ := gdE hf
      obtain ⟨h_14, e_15, hf⟩ := bndE hf
      refine J_ast hX ((f_X12_personAt x1 0 r_9).toNatClampNeg) x2 dX12_move_70 ar_31 (Or.inl ⟨rfl, rfl, rfl⟩) g_13 rfl ?_
      refine J_nmh e_15 ?_
      refine J_iload_n hX 0 dX12_move_71 rfl rfl ?_
      exact E_Ii hX dX12_move_72 hf
set_option maxRecDepth 100000 in
set_option maxHeartbeats 200000 in
theorem T_X12_move_0 {X : CX} (hX : Ok X cX12_move 4 RX12 (some .int)) (hdx : dX X = 5) {r : Int32 × Hp} (x1 : Int32) (x2 : Int32) (h : Hp) (hf : f_X12_move x1 x2 h = some r) : J X ((.inl (some (.int r.1)), r.2)) 0 [(0, .ref 30), (1, .int x1), (2, .int x2)] [] h := by
  unfold f_X12_move at hf
  refine J_aload_n hX 0 dX12_move_0 rfl rfl ?_
  refine J_iconst hX 0 dX12_move_1 rfl ?_
  obtain ⟨h_1, e_2, hf⟩ := bndE hf
  refine J_putI hX dX12_move_2 fl_X12_3 fw_10_0 ob_30 rfl rfl rfl ?_
  refine J_nmh e_2 ?_
  refine J_aload_n hX 0 dX12_move_5 rfl rfl ?_
  refine J_aload_n hX 0 dX12_move_6 rfl rfl ?_
  refine J_iload_n hX 1 dX12_move_7 rfl rfl ?_
  refine V_1 hX [.int x1] dX12_move_8 cw_X12_407 ob_30 rfl (C_X12_noPerson (okG hX) rfl) (ltD hdx rfl) rfl rfl rfl rfl ?_
  rcases ifE hf with ⟨c_3, hf⟩ | ⟨c_3, hf⟩
  · refine J_if_neT hX 22 dX12_move_11 rfl (b2iT c_3) ?_
    refine J_iconst hX 1 dX12_move_22 rfl ?_
    refine J_goto hX 27 dX12_move_23 rfl ?_
    exact T_X12_move_27 hX hdx x1 x2 1 h_1 hf
  · refine J_if_neF hX 22 dX12_move_11 rfl (b2iF c_3) ?_
    refine J_aload_n hX 0 dX12_move_14 rfl rfl ?_
    refine J_iload_n hX 2 dX12_move_15 rfl rfl ?_
    refine V_1 hX [.int x2] dX12_move_16 cw_X12_392 ob_30 rfl (C_X12_noHouse (okG hX) rfl) (ltD hdx rfl) rfl rfl rfl rfl ?_
    rcases ifE hf with ⟨c_4, hf⟩ | ⟨c_4, hf⟩
    · refine J_if_eqF hX 26 dX12_move_19 rfl (b2iT c_4) ?_
      refine J_iconst hX 1 dX12_move_22 rfl ?_
      refine J_goto hX 27 dX12_move_23 rfl ?_
      exact T_X12_move_27 hX hdx x1 x2 1 h_1 hf
    · refine J_if_eqT hX 26 dX12_move_19 rfl (b2iF c_4) ?_
      refine J_iconst hX 0 dX12_move_26 rfl ?_
      exact T_X12_move_27 hX hdx x1 x2 0 h_1 hf
set_option maxRecDepth 100000 in
set_option maxHeartbeats 200000 in
theorem C_X12_move {G : GX} (hG : GOk G) {x1 : Int32} {x2 : Int32} {h : Hp} {r : Int32 × Hp} (hf : f_X12_move x1 x2 h = some r) : Ctr G 5 yX12_move cX12_move 4 (some .int) [.ref 30, .int x1, .int x2] h ((.inl (some (.int r.1)), r.2)) :=
  Ctr_of hG RX12 rfl (by decide) rfl (fun X _ hdx hX => T_X12_move_0 hX hdx x1 x2 h hf)
theorem dX12_come_0 : decode cX12_come 0 = .ok (.aload_n 0, 1) := by decide +kernel
theorem dX12_come_1 : decode cX12_come 1 = .ok (.iconst 0, 1) := by decide +kernel
theorem dX12_come_2 : decode cX12_come 2 = .ok (.putfield 3, 3) := by decide +kernel
theorem dX12_come_5 : decode cX12_come 5 = .ok (.aload_n 0, 1) := by decide +kernel
theorem dX12_come_6 : decode cX12_come 6 = .ok (.aload_n 0, 1) := by decide +kernel
theorem dX12_come_7 : decode cX12_come 7 = .ok (.iload_n 1, 1) := by decide +kernel
theorem dX12_come_8 : decode cX12_come 8 = .ok (.invokevirtual 407, 3) := by decide +kernel
theorem dX12_come_11 : decode cX12_come 11 = .ok (.ifCond .ne 10, 3) := by decide +kernel
theorem dX12_come_14 : decode cX12_come 14 = .ok (.iload_n 2, 1) := by decide +kernel
theorem dX12_come_15 : decode cX12_come 15 = .ok (.invokestatic 420, 3) := by decide +kernel
theorem dX12_come_18 : decode cX12_come 18 = .ok (.ifCond .eq 7, 3) := by decide +kernel
theorem dX12_come_21 : decode cX12_come 21 = .ok (.iconst 1, 1) := by decide +kernel
theorem dX12_come_22 : decode cX12_come 22 = .ok (.goto 4, 3) := by decide +kernel
theorem dX12_come_25 : decode cX12_come 25 = .ok (.iconst 0, 1) := by decide +kernel
theorem dX12_come_26 : decode cX12_come 26 = .ok (.iconst 1, 1) := by decide +kernel
theorem dX12_come_27 : decode cX12_come 27 = .ok (.invokevirtual 280, 3) := by decide +kernel
theorem dX12_come_30 : decode cX12_come 30 = .ok (.ifCond .eq 5, 3) := by decide +kernel
theorem dX12_come_33 : decode cX12_come 33 = .ok (.iconst 0, 1) := by decide +kernel
theorem dX12_come_34 : decode cX12_come 34 = .ok (.ireturn, 1) := by decide +kernel
theorem dX12_come_35 : decode cX12_come 35 = .ok (.aload_n 0, 1) := by decide +kernel
theorem dX12_come_36 : decode cX12_come 36 = .ok (.invokevirtual 382, 3) := by decide +kernel
theorem dX12_come_39 : decode cX12_come 39 = .ok (.aload_n 0, 1) := by decide +kernel
theorem dX12_come_40 : decode cX12_come 40 = .ok (.iload_n 1, 1) := by decide +kernel
theorem dX12_come_41 : decode cX12_come 41 = .ok (.iconst 2, 1) := by decide +kernel
theorem dX12_come_42 : decode cX12_come 42 = .ok (.invokevirtual 283, 3) := by decide +kernel
theorem dX12_come_45 : decode cX12_come 45 = .ok (.iload_n 2, 1) := by decide +kernel
theorem dX12_come_46 : decode cX12_come 46 = .ok (.invokestatic 289, 3) := by decide +kernel
theorem dX12_come_49 : decode cX12_come 49 = .ok (.istore 4, 2) := by decide +kernel
theorem dX12_come_51 : decode cX12_come 51 = .ok (.aload_n 0, 1) := by decide +kernel
theorem dX12_come_52 : decode cX12_come 52 = .ok (.getfield 13, 3) := by decide +kernel
theorem dX12_come_55 : decode cX12_come 55 = .ok (.iload_n 1, 1) := by decide +kernel
theorem dX12_come_56 : decode cX12_come 56 = .ok (.iconst 2, 1) := by decide +kernel
theorem dX12_come_57 : decode cX12_come 57 = .ok (.invokestatic 81, 3) := by decide +kernel
theorem dX12_come_60 : decode cX12_come 60 = .ok (.aload_n 0, 1) := by decide +kernel
theorem dX12_come_61 : decode cX12_come 61 = .ok (.iload_n 1, 1) := by decide +kernel
theorem dX12_come_62 : decode cX12_come 62 = .ok (.iconst 2, 1) := by decide +kernel
theorem dX12_come_63 : decode cX12_come 63 = .ok (.invokevirtual 283, 3) := by decide +kernel
theorem dX12_come_66 : decode cX12_come 66 = .ok (.iconst 1, 1) := by decide +kernel
theorem dX12_come_67 : decode cX12_come 67 = .ok (.iload_n 2, 1) := by decide +kernel
theorem dX12_come_68 : decode cX12_come 68 = .ok (.ishl, 1) := by decide +kernel
theorem dX12_come_69 : decode cX12_come 69 = .ok (.iconst (-1), 1) := by decide +kernel
theorem dX12_come_70 : decode cX12_come 70 = .ok (.ixor, 1) := by decide +kernel
theorem dX12_come_71 : decode cX12_come 71 = .ok (.iand, 1) := by decide +kernel
theorem dX12_come_72 : decode cX12_come 72 = .ok (.iload_n 3, 1) := by decide +kernel
theorem dX12_come_73 : decode cX12_come 73 = .ok (.ifCond .eq 9, 3) := by decide +kernel
theorem dX12_come_76 : decode cX12_come 76 = .ok (.iconst 1, 1) := by decide +kernel
theorem dX12_come_77 : decode cX12_come 77 = .ok (.iload_n 2, 1) := by decide +kernel
theorem dX12_come_78 : decode cX12_come 78 = .ok (.ishl, 1) := by decide +kernel
theorem dX12_come_79 : decode cX12_come 79 = .ok (.goto 4, 3) := by decide +kernel
theorem dX12_come_82 : decode cX12_come 82 = .ok (.iconst 0, 1) := by decide +kernel
theorem dX12_come_83 : decode cX12_come 83 = .ok (.ior, 1) := by decide +kernel
theorem dX12_come_84 : decode cX12_come 84 = .ok (.iastore, 1) := by decide +kernel
theorem dX12_come_85 : decode cX12_come 85 = .ok (.iload 4, 2) := by decide +kernel
theorem dX12_come_87 : decode cX12_come 87 = .ok (.iload_n 3, 1) := by decide +kernel
theorem dX12_come_88 : decode cX12_come 88 = .ok (.if_icmp .eq 7, 3) := by decide +kernel
theorem dX12_come_91 : decode cX12_come 91 = .ok (.iconst 1, 1) := by decide +kernel
theorem dX12_come_92 : decode cX12_come 92 = .ok (.goto 4, 3) := by decide +kernel
theorem dX12_come_95 : decode cX12_come 95 = .ok (.iconst 0, 1) := by decide +kernel
theorem dX12_come_96 : decode cX12_come 96 = .ok (.ireturn, 1) := by decide +kernel
set_option maxRecDepth 100000 in
set_option maxHeartbeats 200000 in
theorem T_X12_come_83 {X : CX} (hX : Ok X cX12_come 5 RX12 (some .boolean)) (hdx : dX X = 4) {r : Bool × Hp} (x3 : Int32) (x4 : Int32) (t0 : Int32) (t1 : Int32) (t2 : Int32) (h : Hp) (hf : F_X12_come_83 x3 x4 t0 t1 t2 h = some r) : J X ((.inl (some (.int (b2i r.1))), r.2)) 83 [(3, .int x3), (4, .int x4)] [.int t0, .int t1, .int t2, .ref 31] h := by
  unfold F_X12_come_83 at hf
  refine J_ior hX dX12_come_83 ?_
  obtain ⟨g_1, hf⟩ := gdE hf
  obtain ⟨h_2, e_3, hf⟩ := bndE hf
  refine J_ast hX t2.toNatClampNeg (t1 ||| t0) dX12_come_84 ar_31 (Or.inl ⟨rfl, rfl, rfl⟩) g_1 rfl ?_
  refine J_nmh e_3 ?_
  refine J_iload hX 1 dX12_come_85 rfl ?_
  refine J_iload_n hX 0 dX12_come_87 rfl rfl ?_
  rcases ifE hf with ⟨c_4, hf⟩ | ⟨c_4, hf⟩
  · refine J_icmp_eqT hX 95 dX12_come_88 rfl c_4 ?_
    refine J_iconst hX 0 dX12_come_95 rfl ?_
    exact E_Zi hX dX12_come_96 rfl hf
  · refine J_icmp_eqF hX 95 dX12_come_88 rfl c_4 ?_
    refine J_iconst hX 1 dX12_come_91 rfl ?_
    refine J_goto hX 96 dX12_come_92 rfl ?_
    exact E_Zi hX dX12_come_96 rfl hf
set_option maxRecDepth 100000 in
set_option maxHeartbeats 200000 in
theorem T_X12_come_26 {X : CX} (hX : Ok X cX12_come 5 RX12 (some .boolean)) (hdx : dX X = 4) {r : Bool × Hp} (x1 : Int32) (x2 : Int32) (x3 : Int32) (t0 : Int32) (h : Hp) (hf : F_X12_come_26 x1 x2 x3 t0 h = some r) : J X ((.inl (some (.int (b2i r.1))), r.2)) 26 [(0, .ref 30), (1, .int x1), (2, .int x2), (3, .int x3)] [.int t0, .ref 30] h := by
  unfold F_X12_come_26 at hf
  refine J_iconst hX 1 dX12_come_26 rfl ?_
  obtain ⟨r_1, e_2, hf⟩ := bdE hf
  refine V_1 hX [.int t0, .int 1] dX12_come_27 cw_X12_280 ob_30 rfl (C_X12_throwsIf (okG hX) e_2) (ltD hdx rfl) rfl rfl rfl rfl ?_
  rcases ifE hf with ⟨c_3, hf⟩ | ⟨c_3, hf⟩
  · refine J_if_eqF hX 35 dX12_come_30 rfl (b2iT c_3) ?_
    refine J_iconst hX 0 dX12_come_33 rfl ?_
    exact E_Zi hX dX12_come_34 rfl hf
  · refine J_if_eqT hX 35 dX12_come_30 rfl (b2iF c_3) ?_
    refine J_aload_n hX 0 dX12_come_35 rfl rfl ?_
    obtain ⟨r_4, e_5, hf⟩ := bdE hf
    refine V_0 hX [] dX12_come_36 cw_X12_382 ob_30 rfl (C_X12_remembers (okG hX) e_5) (ltD hdx rfl) rfl rfl rfl rfl ?_
    refine J_aload_n hX 0 dX12_come_39 rfl rfl ?_
    refine J_iload_n hX 1 dX12_come_40 rfl rfl ?_
    refine J_iconst hX 2 dX12_come_41 rfl ?_
    obtain ⟨r_6, e_7, hf⟩ := bdE hf
    refine V_1 hX [.int x1, .int 2] dX12_come_42 cw_X12_283 ob_30 rfl (C_X12_ofPerson (okG hX) e_7) (ltD hdx rfl) rfl rfl rfl rfl ?_
    refine J_iload_n hX 2 dX12_come_45 rfl rfl ?_
    refine S_1 hX [.int r_6, .int x2] dX12_come_46 cw_X12_289 (C_X12_has (okG hX) rfl) (ltD hdx rfl) rfl rfl rfl rfl ?_
    obtain ⟨x4_8, e_9, hf⟩ := bndE hf
    refine J_nm e_9 ?_
    refine J_istore hX [(4, .int x4_8), (0, .ref 30), (1, .int x1), (2, .int x2), (3, .int x3)] dX12_come_49 rfl rfl ?_
    refine J_aload_n hX 1 dX12_come_51 rfl rfl ?_
    refine J_getR hX 31 dX12_come_52 fl_X12_13 ob_30 rfl rfl ?_
    refine J_iload_n hX 2 dX12_come_55 rfl rfl ?_
    refine J_iconst hX 2 dX12_come_56 rfl ?_
    refine S_1 hX [.int x1, .int 2] dX12_come_57 cw_X12_81 (C_X12_personAt (okG hX) rfl) (ltD hdx rfl) rfl rfl rfl rfl ?_
    refine J_aload_n hX 1 dX12_come_60 rfl rfl ?_
    refine J_iload_n hX 2 dX12_come_61 rfl rfl ?_
    refine J_iconst hX 2 dX12_come_62 rfl ?_
    obtain ⟨r_10, e_11, hf⟩ := bdE hf
    refine V_1 hX [.int x1, .int 2] dX12_come_63 cw_X12_283 ob_30 rfl (C_X12_ofPerson (okG hX) e_11) (ltD hdx rfl) rfl rfl rfl rfl ?_
    refine J_iconst hX 1 dX12_come_66 rfl ?_
    refine J_iload_n hX 3 dX12_come_67 rfl rfl ?_
    refine J_ishl hX dX12_come_68 ?_
    refine J_iconst hX (-1) dX12_come_69 rfl ?_
    refine J_ixor hX dX12_come_70 ?_
    refine J_iand hX dX12_come_71 ?_
    refine J_iload_n hX 4 dX12_come_72 rfl rfl ?_
    rcases ifE hf with ⟨c_12, hf⟩ | ⟨c_12, hf⟩
    · refine J_if_eqT hX 82 dX12_come_73 rfl c_12 ?_
      refine J_iconst hX 0 dX12_come_82 rfl ?_
      refine J_sub [4, 0] [(3, .int x3), (4, .int x4_8)] rfl ?_
      exact T_X12_come_83 hX hdx x3 x4_8 0 (r_10 &&& ((shl 1 x2) ^^^ (-1))) (f_X12_personAt x1 2 r_4) r_4 hf
    · refine J_if_eqF hX 82 dX12_come_73 rfl c_12 ?_
      refine J_iconst hX 1 dX12_come_76 rfl ?_
      refine J_iload_n hX 3 dX12_come_77 rfl rfl ?_
      refine J_ishl hX dX12_come_78 ?_
      refine J_goto hX 83 dX12_come_79 rfl ?_
      refine J_sub [4, 0] [(3, .int x3), (4, .int x4_8)] rfl ?_
      exact T_X12_come_83 hX hdx x3 x4_8 (shl 1 x2) (r_10 &&& ((shl 1 x2) ^^^ (-1))) (f_X12_personAt x1 2 r_4) r_4 hf
set_option maxRecDepth 100000 in
set_option maxHeartbeats 200000 in
theorem T_X12_come_0 {X : CX} (hX : Ok X cX12_come 5 RX12 (some .boolean)) (hdx : dX X = 4) {r : Bool × Hp} (x1 : Int32) (x2 : Int32) (x3 : Int32) (h : Hp) (hf : f_X12_come x1 x2 x3 h = some r) : J X ((.inl (some (.int (b2i r.1))), r.2)) 0 [(0, .ref 30), (1, .int x1), (2, .int x2), (3, .int x3)] [] h := by
  unfold f_X12_come at hf
  refine J_aload_n hX 0 dX12_come_0 rfl rfl ?_
  refine J_iconst hX 0 dX12_come_1 rfl ?_
  obtain ⟨h_1, e_2, hf⟩ := bndE hf
  refine J_putI hX dX12_come_2 fl_X12_3 fw_10_0 ob_30 rfl rfl rfl ?_
  refine J_nmh e_2 ?_
  refine J_aload_n hX 0 dX12_come_5 rfl rfl ?_
  refine J_aload_n hX 0 dX12_come_6 rfl rfl ?_
  refine J_iload_n hX 1 dX12_come_7 rfl rfl ?_
  refine V_1 hX [.int x1] dX12_come_8 cw_X12_407 ob_30 rfl (C_X12_noPerson (okG hX) rfl) (ltD hdx rfl) rfl rfl rfl rfl ?_
  rcases ifE hf with ⟨c_3, hf⟩ | ⟨c_3, hf⟩
  · refine J_if_neT hX 21 dX12_come_11 rfl (b2iT c_3) ?_
    refine J_iconst hX 1 dX12_come_21 rfl ?_
    refine J_goto hX 26 dX12_come_22 rfl ?_
    exact T_X12_come_26 hX hdx x1 x2 x3 1 h_1 hf
  · refine J_if_neF hX 21 dX12_come_11 rfl (b2iF c_3) ?_
    refine J_iload_n hX 2 dX12_come_14 rfl rfl ?_
    refine S_1 hX [.int x2] dX12_come_15 cw_X12_420 (C_X12_noEvening (okG hX) rfl) (ltD hdx rfl) rfl rfl rfl rfl ?_
    rcases ifE hf with ⟨c_4, hf⟩ | ⟨c_4, hf⟩
    · refine J_if_eqF hX 25 dX12_come_18 rfl (b2iT c_4) ?_
      refine J_iconst hX 1 dX12_come_21 rfl ?_
      refine J_goto hX 26 dX12_come_22 rfl ?_
      exact T_X12_come_26 hX hdx x1 x2 x3 1 h_1 hf
    · refine J_if_eqT hX 25 dX12_come_18 rfl (b2iF c_4) ?_
      refine J_iconst hX 0 dX12_come_25 rfl ?_
      exact T_X12_come_26 hX hdx x1 x2 x3 0 h_1 hf
set_option maxRecDepth 100000 in
set_option maxHeartbeats 200000 in
theorem C_X12_come {G : GX} (hG : GOk G) {x1 : Int32} {x2 : Int32} {x3 : Int32} {h : Hp} {r : Bool × Hp} (hf : f_X12_come x1 x2 x3 h = some r) : Ctr G 4 yX12_come cX12_come 5 (some .boolean) [.ref 30, .int x1, .int x2, .int x3] h ((.inl (some (.int (b2i r.1))), r.2)) :=
  Ctr_of hG RX12 rfl (by decide) rfl (fun X _ hdx hX => T_X12_come_0 hX hdx x1 x2 x3 h hf)
theorem dX12_raze_0 : decode cX12_raze 0 = .ok (.aload_n 0, 1) := by decide +kernel
theorem dX12_raze_1 : decode cX12_raze 1 = .ok (.iconst 0, 1) := by decide +kernel
theorem dX12_raze_2 : decode cX12_raze 2 = .ok (.putfield 3, 3) := by decide +kernel
theorem dX12_raze_5 : decode cX12_raze 5 = .ok (.aload_n 0, 1) := by decide +kernel
theorem dX12_raze_6 : decode cX12_raze 6 = .ok (.aload_n 0, 1) := by decide +kernel
theorem dX12_raze_7 : decode cX12_raze 7 = .ok (.iload_n 1, 1) := by decide +kernel
theorem dX12_raze_8 : decode cX12_raze 8 = .ok (.invokevirtual 392, 3) := by decide +kernel
theorem dX12_raze_11 : decode cX12_raze 11 = .ok (.iconst 1, 1) := by decide +kernel
theorem dX12_raze_12 : decode cX12_raze 12 = .ok (.invokevirtual 280, 3) := by decide +kernel
theorem dX12_raze_15 : decode cX12_raze 15 = .ok (.ifCond .ne 16, 3) := by decide +kernel
theorem dX12_raze_18 : decode cX12_raze 18 = .ok (.aload_n 0, 1) := by decide +kernel
theorem dX12_raze_19 : decode cX12_raze 19 = .ok (.aload_n 0, 1) := by decide +kernel
theorem dX12_raze_20 : decode cX12_raze 20 = .ok (.iload_n 1, 1) := by decide +kernel
theorem dX12_raze_21 : decode cX12_raze 21 = .ok (.invokevirtual 91, 3) := by decide +kernel
theorem dX12_raze_24 : decode cX12_raze 24 = .ok (.iconst 2, 1) := by decide +kernel
theorem dX12_raze_25 : decode cX12_raze 25 = .ok (.invokevirtual 280, 3) := by decide +kernel
theorem dX12_raze_28 : decode cX12_raze 28 = .ok (.ifCond .eq 5, 3) := by decide +kernel
theorem dX12_raze_31 : decode cX12_raze 31 = .ok (.iconst 0, 1) := by decide +kernel
theorem dX12_raze_32 : decode cX12_raze 32 = .ok (.ireturn, 1) := by decide +kernel
theorem dX12_raze_33 : decode cX12_raze 33 = .ok (.aload_n 0, 1) := by decide +kernel
theorem dX12_raze_34 : decode cX12_raze 34 = .ok (.invokevirtual 382, 3) := by decide +kernel
theorem dX12_raze_37 : decode cX12_raze 37 = .ok (.aload_n 0, 1) := by decide +kernel
theorem dX12_raze_38 : decode cX12_raze 38 = .ok (.invokevirtual 347, 3) := by decide +kernel
theorem dX12_raze_41 : decode cX12_raze 41 = .ok (.aload_n 0, 1) := by decide +kernel
theorem dX12_raze_42 : decode cX12_raze 42 = .ok (.iload_n 1, 1) := by decide +kernel
theorem dX12_raze_43 : decode cX12_raze 43 = .ok (.invokevirtual 322, 3) := by decide +kernel
theorem dX12_raze_46 : decode cX12_raze 46 = .ok (.istore_n 2, 1) := by decide +kernel
theorem dX12_raze_47 : decode cX12_raze 47 = .ok (.aload_n 0, 1) := by decide +kernel
theorem dX12_raze_48 : decode cX12_raze 48 = .ok (.iload_n 1, 1) := by decide +kernel
theorem dX12_raze_49 : decode cX12_raze 49 = .ok (.invokevirtual 344, 3) := by decide +kernel
theorem dX12_raze_52 : decode cX12_raze 52 = .ok (.aload_n 0, 1) := by decide +kernel
theorem dX12_raze_53 : decode cX12_raze 53 = .ok (.iload_n 1, 1) := by decide +kernel
theorem dX12_raze_54 : decode cX12_raze 54 = .ok (.iconst 0, 1) := by decide +kernel
theorem dX12_raze_55 : decode cX12_raze 55 = .ok (.iconst 0, 1) := by decide +kernel
theorem dX12_raze_56 : decode cX12_raze 56 = .ok (.iconst 1, 1) := by decide +kernel
theorem dX12_raze_57 : decode cX12_raze 57 = .ok (.invokevirtual 340, 3) := by decide +kernel
theorem dX12_raze_60 : decode cX12_raze 60 = .ok (.iload_n 2, 1) := by decide +kernel
theorem dX12_raze_61 : decode cX12_raze 61 = .ok (.ireturn, 1) := by decide +kernel
set_option maxRecDepth 100000 in
set_option maxHeartbeats 200000 in
theorem T_X12_raze_0 {X : CX} (hX : Ok X cX12_raze 3 RX12 (some .int)) (hdx : dX X = 7) {r : Int32 × Hp} (x1 : Int32) (h : Hp) (hf : f_X12_raze x1 h = some r) : J X ((.inl (some (.int r.1)), r.2)) 0 [(0, .ref 30), (1, .int x1)] [] h := by
  unfold f_X12_raze at hf
  refine J_aload_n hX 0 dX12_raze_0 rfl rfl ?_
  refine J_iconst hX 0 dX12_raze_1 rfl ?_
  obtain ⟨h_1, e_2, hf⟩ := bndE hf
  refine J_putI hX dX12_raze_2 fl_X12_3 fw_10_0 ob_30 rfl rfl rfl ?_
  refine J_nmh e_2 ?_
  refine J_aload_n hX 0 dX12_raze_5 rfl rfl ?_
  refine J_aload_n hX 0 dX12_raze_6 rfl rfl ?_
  refine J_iload_n hX 1 dX12_raze_7 rfl rfl ?_
  refine V_1 hX [.int x1] dX12_raze_8 cw_X12_392 ob_30 rfl (C_X12_noHouse (okG hX) rfl) (ltD hdx rfl) rfl rfl rfl rfl ?_
  refine J_iconst hX 1 dX12_raze_11 rfl ?_
  obtain ⟨r_3, e_4, hf⟩ := bdE hf
  refine V_1 hX [.int (b2i (f_X12_noHouse x1 h_1)), .int 1] dX12_raze_12 cw_X12_280 ob_30 rfl (C_X12_throwsIf (okG hX) e_4) (ltD hdx rfl) rfl rfl rfl rfl ?_
  rcases ifE hf with ⟨c_5, hf⟩ | ⟨c_5, hf⟩
  · refine J_if_neT hX 31 dX12_raze_15 rfl (b2iT c_5) ?_
    refine J_iconst hX 0 dX12_raze_31 rfl ?_
    exact E_Ii hX dX12_raze_32 hf
  · refine J_if_neF hX 31 dX12_raze_15 rfl (b2iF c_5) ?_
    refine J_aload_n hX 0 dX12_raze_18 rfl rfl ?_
    refine J_aload_n hX 0 dX12_raze_19 rfl rfl ?_
    refine J_iload_n hX 1 dX12_raze_20 rfl rfl ?_
    obtain ⟨r_6, e_7, hf⟩ := bdE hf
    refine V_1 hX [.int x1] dX12_raze_21 cw_X12_91 ob_30 rfl (C_X12_isFallen (okG hX) e_7) (ltD hdx rfl) rfl rfl rfl rfl ?_
    refine J_iconst hX 2 dX12_raze_24 rfl ?_
    obtain ⟨r_8, e_9, hf⟩ := bdE hf
    refine V_1 hX [.int (b2i r_6), .int 2] dX12_raze_25 cw_X12_280 ob_30 rfl (C_X12_throwsIf (okG hX) e_9) (ltD hdx rfl) rfl rfl rfl rfl ?_
    rcases ifE hf with ⟨c_10, hf⟩ | ⟨c_10, hf⟩
    · refine J_if_eqF hX 33 dX12_raze_28 rfl (b2iT c_10) ?_
      refine J_iconst hX 0 dX12_raze_31 rfl ?_
      exact E_Ii hX dX12_raze_32 hf
    · refine J_if_eqT hX 33 dX12_raze_28 rfl (b2iF c_10) ?_
      refine J_aload_n hX 0 dX12_raze_33 rfl rfl ?_
      obtain ⟨r_11, e_12, hf⟩ := bdE hf
      refine V_0 hX [] dX12_raze_34 cw_X12_382 ob_30 rfl (C_X12_remembers (okG hX) e_12) (ltD hdx rfl) rfl rfl rfl rfl ?_
      refine J_aload_n hX 0 dX12_raze_37 rfl rfl ?_
      obtain ⟨r_13, e_14, hf⟩ := bdE hf
      refine V_0 hX [] dX12_raze_38 cw_X12_347 ob_30 rfl (C_X12_lays (okG hX) e_14) (ltD hdx rfl) rfl rfl rfl rfl ?_
      refine J_aload_n hX 0 dX12_raze_41 rfl rfl ?_
      refine J_iload_n hX 1 dX12_raze_42 rfl rfl ?_
      obtain ⟨r_15, e_16, hf⟩ := bdE hf
      refine V_1 hX [.int x1] dX12_raze_43 cw_X12_322 ob_30 rfl (C_X12_bearsNow (okG hX) e_16) (ltD hdx rfl) rfl rfl rfl rfl ?_
      refine J_istore_n hX [(2, .int r_15), (0, .ref 30), (1, .int x1)] dX12_raze_46 rfl rfl rfl ?_
      refine J_aload_n hX 1 dX12_raze_47 rfl rfl ?_
      refine J_iload_n hX 2 dX12_raze_48 rfl rfl ?_
      obtain ⟨r_17, e_18, hf⟩ := bdE hf
      refine V_0 hX [.int x1] dX12_raze_49 cw_X12_344 ob_30 rfl (C_X12_isGone (okG hX) e_18) (ltD hdx rfl) rfl rfl rfl rfl ?_
      refine J_aload_n hX 1 dX12_raze_52 rfl rfl ?_
      refine J_iload_n hX 2 dX12_raze_53 rfl rfl ?_
      refine J_iconst hX 0 dX12_raze_54 rfl ?_
      refine J_iconst hX 0 dX12_raze_55 rfl ?_
      refine J_iconst hX 1 dX12_raze_56 rfl ?_
      obtain ⟨r_19, e_20, hf⟩ := bdE hf
      refine V_0 hX [.int x1, .int 0, .int 0, .int 1] dX12_raze_57 cw_X12_340 ob_30 rfl (C_X12_tells (okG hX) e_20) (ltD hdx rfl) rfl rfl rfl rfl ?_
      refine J_iload_n hX 0 dX12_raze_60 rfl rfl ?_
      exact E_Ii hX dX12_raze_61 hf
set_option maxRecDepth 100000 in
set_option maxHeartbeats 200000 in
theorem C_X12_raze {G : GX} (hG : GOk G) {x1 : Int32} {h : Hp} {r : Int32 × Hp} (hf : f_X12_raze x1 h = some r) : Ctr G 7 yX12_raze cX12_raze 3 (some .int) [.ref 30, .int x1] h ((.inl (some (.int r.1)), r.2)) :=
  Ctr_of hG RX12 rfl (by decide) rfl (fun X _ hdx hX => T_X12_raze_0 hX hdx x1 h hf)
theorem dX12_falls_0 : decode cX12_falls 0 = .ok (.aload_n 0, 1) := by decide +kernel
theorem dX12_falls_1 : decode cX12_falls 1 = .ok (.iconst 0, 1) := by decide +kernel
theorem dX12_falls_2 : decode cX12_falls 2 = .ok (.putfield 3, 3) := by decide +kernel
theorem dX12_falls_5 : decode cX12_falls 5 = .ok (.aload_n 0, 1) := by decide +kernel
theorem dX12_falls_6 : decode cX12_falls 6 = .ok (.iload_n 1, 1) := by decide +kernel
theorem dX12_falls_7 : decode cX12_falls 7 = .ok (.invokestatic 420, 3) := by decide +kernel
theorem dX12_falls_10 : decode cX12_falls 10 = .ok (.iconst 1, 1) := by decide +kernel
theorem dX12_falls_11 : decode cX12_falls 11 = .ok (.invokevirtual 280, 3) := by decide +kernel
theorem dX12_falls_14 : decode cX12_falls 14 = .ok (.ifCond .eq 7, 3) := by decide +kernel
theorem dX12_falls_17 : decode cX12_falls 17 = .ok (.iconst 0, 1) := by decide +kernel
theorem dX12_falls_18 : decode cX12_falls 18 = .ok (.goto 8, 3) := by decide +kernel
theorem dX12_falls_21 : decode cX12_falls 21 = .ok (.aload_n 0, 1) := by decide +kernel
theorem dX12_falls_22 : decode cX12_falls 22 = .ok (.iload_n 1, 1) := by decide +kernel
theorem dX12_falls_23 : decode cX12_falls 23 = .ok (.invokevirtual 404, 3) := by decide +kernel
theorem dX12_falls_26 : decode cX12_falls 26 = .ok (.ireturn, 1) := by decide +kernel
set_option maxRecDepth 100000 in
set_option maxHeartbeats 200000 in
theorem T_X12_falls_0 {X : CX} (hX : Ok X cX12_falls 2 RX12 (some .int)) (hdx : dX X = 15) {r : Int32 × Hp} (x1 : Int32) (h : Hp) (hf : f_X12_falls x1 h = some r) : J X ((.inl (some (.int r.1)), r.2)) 0 [(0, .ref 30), (1, .int x1)] [] h := by
  unfold f_X12_falls at hf
  refine J_aload_n hX 0 dX12_falls_0 rfl rfl ?_
  refine J_iconst hX 0 dX12_falls_1 rfl ?_
  obtain ⟨h_1, e_2, hf⟩ := bndE hf
  refine J_putI hX dX12_falls_2 fl_X12_3 fw_10_0 ob_30 rfl rfl rfl ?_
  refine J_nmh e_2 ?_
  refine J_aload_n hX 0 dX12_falls_5 rfl rfl ?_
  refine J_iload_n hX 1 dX12_falls_6 rfl rfl ?_
  refine S_1 hX [.int x1] dX12_falls_7 cw_X12_420 (C_X12_noEvening (okG hX) rfl) (ltD hdx rfl) rfl rfl rfl rfl ?_
  refine J_iconst hX 1 dX12_falls_10 rfl ?_
  obtain ⟨r_3, e_4, hf⟩ := bdE hf
  refine V_1 hX [.int (b2i (f_X12_noEvening x1 h_1)), .int 1] dX12_falls_11 cw_X12_280 ob_30 rfl (C_X12_throwsIf (okG hX) e_4) (ltD hdx rfl) rfl rfl rfl rfl ?_
  rcases ifE hf with ⟨c_5, hf⟩ | ⟨c_5, hf⟩
  · refine J_if_eqF hX 21 dX12_falls_14 rfl (b2iT c_5) ?_
    refine J_iconst hX 0 dX12_falls_17 rfl ?_
    refine J_goto hX 26 dX12_falls_18 rfl ?_
    exact E_Ii hX dX12_falls_26 hf
  · refine J_if_eqT hX 21 dX12_falls_14 rfl (b2iF c_5) ?_
    refine J_aload_n hX 0 dX12_falls_21 rfl rfl ?_
    refine J_iload_n hX 1 dX12_falls_22 rfl rfl ?_
    obtain ⟨r_6, e_7, hf⟩ := bdE hf
    refine V_1 hX [.int x1] dX12_falls_23 cw_X12_404 ob_30 rfl (C_X12_fallsIn (okG hX) e_7) (ltD hdx rfl) rfl rfl rfl rfl ?_
    exact E_Ii hX dX12_falls_26 hf
set_option maxRecDepth 100000 in
set_option maxHeartbeats 200000 in
theorem C_X12_falls {G : GX} (hG : GOk G) {x1 : Int32} {h : Hp} {r : Int32 × Hp} (hf : f_X12_falls x1 h = some r) : Ctr G 15 yX12_falls cX12_falls 2 (some .int) [.ref 30, .int x1] h ((.inl (some (.int r.1)), r.2)) :=
  Ctr_of hG RX12 rfl (by decide) rfl (fun X _ hdx hX => T_X12_falls_0 hX hdx x1 h hf)
theorem dX12_rounds_0 : decode cX12_rounds 0 = .ok (.aload_n 0, 1) := by decide +kernel
theorem dX12_rounds_1 : decode cX12_rounds 1 = .ok (.iconst 0, 1) := by decide +kernel
theorem dX12_rounds_2 : decode cX12_rounds 2 = .ok (.putfield 3, 3) := by decide +kernel
theorem dX12_rounds_5 : decode cX12_rounds 5 = .ok (.aload_n 0, 1) := by decide +kernel
theorem dX12_rounds_6 : decode cX12_rounds 6 = .ok (.iload_n 1, 1) := by decide +kernel
theorem dX12_rounds_7 : decode cX12_rounds 7 = .ok (.invokestatic 420, 3) := by decide +kernel
theorem dX12_rounds_10 : decode cX12_rounds 10 = .ok (.iconst 1, 1) := by decide +kernel
theorem dX12_rounds_11 : decode cX12_rounds 11 = .ok (.invokevirtual 280, 3) := by decide +kernel
theorem dX12_rounds_14 : decode cX12_rounds 14 = .ok (.ifCond .eq 5, 3) := by decide +kernel
theorem dX12_rounds_17 : decode cX12_rounds 17 = .ok (.iconst 0, 1) := by decide +kernel
theorem dX12_rounds_18 : decode cX12_rounds 18 = .ok (.ireturn, 1) := by decide +kernel
theorem dX12_rounds_19 : decode cX12_rounds 19 = .ok (.aload_n 0, 1) := by decide +kernel
theorem dX12_rounds_20 : decode cX12_rounds 20 = .ok (.iload_n 1, 1) := by decide +kernel
theorem dX12_rounds_21 : decode cX12_rounds 21 = .ok (.invokevirtual 404, 3) := by decide +kernel
theorem dX12_rounds_24 : decode cX12_rounds 24 = .ok (.pop, 1) := by decide +kernel
theorem dX12_rounds_25 : decode cX12_rounds 25 = .ok (.aload_n 0, 1) := by decide +kernel
theorem dX12_rounds_26 : decode cX12_rounds 26 = .ok (.getfield 331, 3) := by decide +kernel
theorem dX12_rounds_29 : decode cX12_rounds 29 = .ok (.ireturn, 1) := by decide +kernel
set_option maxRecDepth 100000 in
set_option maxHeartbeats 200000 in
theorem T_X12_rounds_0 {X : CX} (hX : Ok X cX12_rounds 2 RX12 (some .int)) (hdx : dX X = 15) {r : Int32 × Hp} (x1 : Int32) (h : Hp) (hf : f_X12_rounds x1 h = some r) : J X ((.inl (some (.int r.1)), r.2)) 0 [(0, .ref 30), (1, .int x1)] [] h := by
  unfold f_X12_rounds at hf
  refine J_aload_n hX 0 dX12_rounds_0 rfl rfl ?_
  refine J_iconst hX 0 dX12_rounds_1 rfl ?_
  obtain ⟨h_1, e_2, hf⟩ := bndE hf
  refine J_putI hX dX12_rounds_2 fl_X12_3 fw_10_0 ob_30 rfl rfl rfl ?_
  refine J_nmh e_2 ?_
  refine J_aload_n hX 0 dX12_rounds_5 rfl rfl ?_
  refine J_iload_n hX 1 dX12_rounds_6 rfl rfl ?_
  refine S_1 hX [.int x1] dX12_rounds_7 cw_X12_420 (C_X12_noEvening (okG hX) rfl) (ltD hdx rfl) rfl rfl rfl rfl ?_
  refine J_iconst hX 1 dX12_rounds_10 rfl ?_
  obtain ⟨r_3, e_4, hf⟩ := bdE hf
  refine V_1 hX [.int (b2i (f_X12_noEvening x1 h_1)), .int 1] dX12_rounds_11 cw_X12_280 ob_30 rfl (C_X12_throwsIf (okG hX) e_4) (ltD hdx rfl) rfl rfl rfl rfl ?_
  rcases ifE hf with ⟨c_5, hf⟩ | ⟨c_5, hf⟩
  · refine J_if_eqF hX 19 dX12_rounds_14 rfl (b2iT c_5) ?_
    refine J_iconst hX 0 dX12_rounds_17 rfl ?_
    exact E_Ii hX dX12_rounds_18 hf
  · refine J_if_eqT hX 19 dX12_rounds_14 rfl (b2iF c_5) ?_
    refine J_aload_n hX 0 dX12_rounds_19 rfl rfl ?_
    refine J_iload_n hX 1 dX12_rounds_20 rfl rfl ?_
    obtain ⟨r_6, e_7, hf⟩ := bdE hf
    refine V_1 hX [.int x1] dX12_rounds_21 cw_X12_404 ob_30 rfl (C_X12_fallsIn (okG hX) e_7) (ltD hdx rfl) rfl rfl rfl rfl ?_
    refine J_pop hX dX12_rounds_24 rfl ?_
    refine J_aload_n hX 0 dX12_rounds_25 rfl rfl ?_
    refine J_getI hX dX12_rounds_26 fl_X12_331 ob_30 rfl ?_
    exact E_Ii hX dX12_rounds_29 hf
set_option maxRecDepth 100000 in
set_option maxHeartbeats 200000 in
theorem C_X12_rounds {G : GX} (hG : GOk G) {x1 : Int32} {h : Hp} {r : Int32 × Hp} (hf : f_X12_rounds x1 h = some r) : Ctr G 15 yX12_rounds cX12_rounds 2 (some .int) [.ref 30, .int x1] h ((.inl (some (.int r.1)), r.2)) :=
  Ctr_of hG RX12 rfl (by decide) rfl (fun X _ hdx hX => T_X12_rounds_0 hX hdx x1 h hf)
theorem dX12_pullsOf_0 : decode cX12_pullsOf 0 = .ok (.aload_n 0, 1) := by decide +kernel
theorem dX12_pullsOf_1 : decode cX12_pullsOf 1 = .ok (.invokevirtual 356, 3) := by decide +kernel
theorem dX12_pullsOf_4 : decode cX12_pullsOf 4 = .ok (.aload_n 0, 1) := by decide +kernel
theorem dX12_pullsOf_5 : decode cX12_pullsOf 5 = .ok (.iload_n 1, 1) := by decide +kernel
theorem dX12_pullsOf_6 : decode cX12_pullsOf 6 = .ok (.invokevirtual 344, 3) := by decide +kernel
theorem dX12_pullsOf_9 : decode cX12_pullsOf 9 = .ok (.iconst 1, 1) := by decide +kernel
theorem dX12_pullsOf_10 : decode cX12_pullsOf 10 = .ok (.aload_n 0, 1) := by decide +kernel
theorem dX12_pullsOf_11 : decode cX12_pullsOf 11 = .ok (.aload_n 0, 1) := by decide +kernel
theorem dX12_pullsOf_12 : decode cX12_pullsOf 12 = .ok (.getfield 13, 3) := by decide +kernel
theorem dX12_pullsOf_15 : decode cX12_pullsOf 15 = .ok (.iconst 4, 1) := by decide +kernel
theorem dX12_pullsOf_16 : decode cX12_pullsOf 16 = .ok (.iaload, 1) := by decide +kernel
theorem dX12_pullsOf_17 : decode cX12_pullsOf 17 = .ok (.invokevirtual 359, 3) := by decide +kernel
theorem dX12_pullsOf_20 : decode cX12_pullsOf 20 = .ok (.invokestatic 368, 3) := by decide +kernel
theorem dX12_pullsOf_23 : decode cX12_pullsOf 23 = .ok (.iadd, 1) := by decide +kernel
theorem dX12_pullsOf_24 : decode cX12_pullsOf 24 = .ok (.ireturn, 1) := by decide +kernel
set_option maxRecDepth 100000 in
set_option maxHeartbeats 200000 in
theorem T_X12_pullsOf_0 {X : CX} (hX : Ok X cX12_pullsOf 2 RX12 (some .int)) (hdx : dX X = 14) {r : Int32 × Hp} (x1 : Int32) (h : Hp) (hf : f_X12_pullsOf x1 h = some r) : J X ((.inl (some (.int r.1)), r.2)) 0 [(0, .ref 30), (1, .int x1)] [] h := by
  unfold f_X12_pullsOf at hf
  refine J_aload_n hX 0 dX12_pullsOf_0 rfl rfl ?_
  obtain ⟨r_1, e_2, hf⟩ := bdE hf
  refine V_0 hX [] dX12_pullsOf_1 cw_X12_356 ob_30 rfl (C_X12_keepsAll (okG hX) e_2) (ltD hdx rfl) rfl rfl rfl rfl ?_
  refine J_aload_n hX 0 dX12_pullsOf_4 rfl rfl ?_
  refine J_iload_n hX 1 dX12_pullsOf_5 rfl rfl ?_
  obtain ⟨r_3, e_4, hf⟩ := bdE hf
  refine V_0 hX [.int x1] dX12_pullsOf_6 cw_X12_344 ob_30 rfl (C_X12_isGone (okG hX) e_4) (ltD hdx rfl) rfl rfl rfl rfl ?_
  refine J_iconst hX 1 dX12_pullsOf_9 rfl ?_
  refine J_aload_n hX 0 dX12_pullsOf_10 rfl rfl ?_
  refine J_aload_n hX 0 dX12_pullsOf_11 rfl rfl ?_
  refine J_getR hX 31 dX12_pullsOf_12 fl_X12_13 ob_30 rfl rfl ?_
  refine J_iconst hX 4 dX12_pullsOf_15 rfl ?_
  refine J_ald hX 4 dX12_pullsOf_16 ar_31 (Or.inl ⟨rfl, rfl⟩) (by decide) (by decide) ?_
  obtain ⟨r_5, e_6, hf⟩ := bdE hf
  refine V_1 hX [.int (r_3 31 4)] dX12_pullsOf_17 cw_X12_359 ob_30 rfl (C_X12_wouldFall (okG hX) e_6) (ltD hdx rfl) rfl rfl rfl rfl ?_
  refine S_1 hX [.int r_5.1] dX12_pullsOf_20 cw_X12_368 (C_J6_bitCount_0f7a4 (okG hX) rfl) (ltD hdx rfl) rfl rfl rfl rfl ?_
  refine J_iadd hX dX12_pullsOf_23 ?_
  exact E_Ii hX dX12_pullsOf_24 hf
set_option maxRecDepth 100000 in
set_option maxHeartbeats 200000 in
theorem C_X12_pullsOf {G : GX} (hG : GOk G) {x1 : Int32} {h : Hp} {r : Int32 × Hp} (hf : f_X12_pullsOf x1 h = some r) : Ctr G 14 yX12_pullsOf cX12_pullsOf 2 (some .int) [.ref 30, .int x1] h ((.inl (some (.int r.1)), r.2)) :=
  Ctr_of hG RX12 rfl (by decide) rfl (fun X _ hdx hX => T_X12_pullsOf_0 hX hdx x1 h hf)
theorem dX12_pulls_0 : decode cX12_pulls 0 = .ok (.aload_n 0, 1) := by decide +kernel
theorem dX12_pulls_1 : decode cX12_pulls 1 = .ok (.iconst 0, 1) := by decide +kernel
theorem dX12_pulls_2 : decode cX12_pulls 2 = .ok (.putfield 3, 3) := by decide +kernel
theorem dX12_pulls_5 : decode cX12_pulls 5 = .ok (.aload_n 0, 1) := by decide +kernel
theorem dX12_pulls_6 : decode cX12_pulls 6 = .ok (.aload_n 0, 1) := by decide +kernel
theorem dX12_pulls_7 : decode cX12_pulls 7 = .ok (.iload_n 1, 1) := by decide +kernel
theorem dX12_pulls_8 : decode cX12_pulls 8 = .ok (.invokevirtual 392, 3) := by decide +kernel
theorem dX12_pulls_11 : decode cX12_pulls 11 = .ok (.iconst 1, 1) := by decide +kernel
theorem dX12_pulls_12 : decode cX12_pulls 12 = .ok (.invokevirtual 280, 3) := by decide +kernel
theorem dX12_pulls_15 : decode cX12_pulls 15 = .ok (.ifCond .ne 16, 3) := by decide +kernel
theorem dX12_pulls_18 : decode cX12_pulls 18 = .ok (.aload_n 0, 1) := by decide +kernel
theorem dX12_pulls_19 : decode cX12_pulls 19 = .ok (.aload_n 0, 1) := by decide +kernel
theorem dX12_pulls_20 : decode cX12_pulls 20 = .ok (.iload_n 1, 1) := by decide +kernel
theorem dX12_pulls_21 : decode cX12_pulls 21 = .ok (.invokevirtual 91, 3) := by decide +kernel
theorem dX12_pulls_24 : decode cX12_pulls 24 = .ok (.iconst 2, 1) := by decide +kernel
theorem dX12_pulls_25 : decode cX12_pulls 25 = .ok (.invokevirtual 280, 3) := by decide +kernel
theorem dX12_pulls_28 : decode cX12_pulls 28 = .ok (.ifCond .eq 7, 3) := by decide +kernel
theorem dX12_pulls_31 : decode cX12_pulls 31 = .ok (.iconst 0, 1) := by decide +kernel
theorem dX12_pulls_32 : decode cX12_pulls 32 = .ok (.goto 8, 3) := by decide +kernel
theorem dX12_pulls_35 : decode cX12_pulls 35 = .ok (.aload_n 0, 1) := by decide +kernel
theorem dX12_pulls_36 : decode cX12_pulls 36 = .ok (.iload_n 1, 1) := by decide +kernel
theorem dX12_pulls_37 : decode cX12_pulls 37 = .ok (.invokevirtual 423, 3) := by decide +kernel
theorem dX12_pulls_40 : decode cX12_pulls 40 = .ok (.ireturn, 1) := by decide +kernel
set_option maxRecDepth 100000 in
set_option maxHeartbeats 200000 in
theorem T_X12_pulls_0 {X : CX} (hX : Ok X cX12_pulls 2 RX12 (some .int)) (hdx : dX X = 15) {r : Int32 × Hp} (x1 : Int32) (h : Hp) (hf : f_X12_pulls x1 h = some r) : J X ((.inl (some (.int r.1)), r.2)) 0 [(0, .ref 30), (1, .int x1)] [] h := by
  unfold f_X12_pulls at hf
  refine J_aload_n hX 0 dX12_pulls_0 rfl rfl ?_
  refine J_iconst hX 0 dX12_pulls_1 rfl ?_
  obtain ⟨h_1, e_2, hf⟩ := bndE hf
  refine J_putI hX dX12_pulls_2 fl_X12_3 fw_10_0 ob_30 rfl rfl rfl ?_
  refine J_nmh e_2 ?_
  refine J_aload_n hX 0 dX12_pulls_5 rfl rfl ?_
  refine J_aload_n hX 0 dX12_pulls_6 rfl rfl ?_
  refine J_iload_n hX 1 dX12_pulls_7 rfl rfl ?_
  refine V_1 hX [.int x1] dX12_pulls_8 cw_X12_392 ob_30 rfl (C_X12_noHouse (okG hX) rfl) (ltD hdx rfl) rfl rfl rfl rfl ?_
  refine J_iconst hX 1 dX12_pulls_11 rfl ?_
  obtain ⟨r_3, e_4, hf⟩ := bdE hf
  refine V_1 hX [.int (b2i (f_X12_noHouse x1 h_1)), .int 1] dX12_pulls_12 cw_X12_280 ob_30 rfl (C_X12_throwsIf (okG hX) e_4) (ltD hdx rfl) rfl rfl rfl rfl ?_
  rcases ifE hf with ⟨c_5, hf⟩ | ⟨c_5, hf⟩
  · refine J_if_neT hX 31 dX12_pulls_15 rfl (b2iT c_5) ?_
    refine J_iconst hX 0 dX12_pulls_31 rfl ?_
    refine J_goto hX 40 dX12_pulls_32 rfl ?_
    exact E_Ii hX dX12_pulls_40 hf
  · refine J_if_neF hX 31 dX12_pulls_15 rfl (b2iF c_5) ?_
    refine J_aload_n hX 0 dX12_pulls_18 rfl rfl ?_
    refine J_aload_n hX 0 dX12_pulls_19 rfl rfl ?_
    refine J_iload_n hX 1 dX12_pulls_20 rfl rfl ?_
    obtain ⟨r_6, e_7, hf⟩ := bdE hf
    refine V_1 hX [.int x1] dX12_pulls_21 cw_X12_91 ob_30 rfl (C_X12_isFallen (okG hX) e_7) (ltD hdx rfl) rfl rfl rfl rfl ?_
    refine J_iconst hX 2 dX12_pulls_24 rfl ?_
    obtain ⟨r_8, e_9, hf⟩ := bdE hf
    refine V_1 hX [.int (b2i r_6), .int 2] dX12_pulls_25 cw_X12_280 ob_30 rfl (C_X12_throwsIf (okG hX) e_9) (ltD hdx rfl) rfl rfl rfl rfl ?_
    rcases ifE hf with ⟨c_10, hf⟩ | ⟨c_10, hf⟩
    · refine J_if_eqF hX 35 dX12_pulls_28 rfl (b2iT c_10) ?_
      refine J_iconst hX 0 dX12_pulls_31 rfl ?_
      refine J_goto hX 40 dX12_pulls_32 rfl ?_
      exact E_Ii hX dX12_pulls_40 hf
    · refine J_if_eqT hX 35 dX12_pulls_28 rfl (b2iF c_10) ?_
      refine J_aload_n hX 0 dX12_pulls_35 rfl rfl ?_
      refine J_iload_n hX 1 dX12_pulls_36 rfl rfl ?_
      obtain ⟨r_11, e_12, hf⟩ := bdE hf
      refine V_1 hX [.int x1] dX12_pulls_37 cw_X12_423 ob_30 rfl (C_X12_pullsOf (okG hX) e_12) (ltD hdx rfl) rfl rfl rfl rfl ?_
      exact E_Ii hX dX12_pulls_40 hf
set_option maxRecDepth 100000 in
set_option maxHeartbeats 200000 in
theorem C_X12_pulls {G : GX} (hG : GOk G) {x1 : Int32} {h : Hp} {r : Int32 × Hp} (hf : f_X12_pulls x1 h = some r) : Ctr G 15 yX12_pulls cX12_pulls 2 (some .int) [.ref 30, .int x1] h ((.inl (some (.int r.1)), r.2)) :=
  Ctr_of hG RX12 rfl (by decide) rfl (fun X _ hdx hX => T_X12_pulls_0 hX hdx x1 h hf)
theorem dX12_key_0 : decode cX12_key 0 = .ok (.aload_n 0, 1) := by decide +kernel
theorem dX12_key_1 : decode cX12_key 1 = .ok (.iconst 0, 1) := by decide +kernel
theorem dX12_key_2 : decode cX12_key 2 = .ok (.putfield 3, 3) := by decide +kernel
theorem dX12_key_5 : decode cX12_key 5 = .ok (.iconst (-1), 1) := by decide +kernel
theorem dX12_key_6 : decode cX12_key 6 = .ok (.istore_n 1, 1) := by decide +kernel
theorem dX12_key_7 : decode cX12_key 7 = .ok (.iconst 0, 1) := by decide +kernel
theorem dX12_key_8 : decode cX12_key 8 = .ok (.istore_n 2, 1) := by decide +kernel
theorem dX12_key_9 : decode cX12_key 9 = .ok (.iconst 0, 1) := by decide +kernel
theorem dX12_key_10 : decode cX12_key 10 = .ok (.istore_n 3, 1) := by decide +kernel
theorem dX12_key_11 : decode cX12_key 11 = .ok (.iload_n 3, 1) := by decide +kernel
theorem dX12_key_12 : decode cX12_key 12 = .ok (.aload_n 0, 1) := by decide +kernel
theorem dX12_key_13 : decode cX12_key 13 = .ok (.invokevirtual 87, 3) := by decide +kernel
theorem dX12_key_16 : decode cX12_key 16 = .ok (.if_icmp .ge 47, 3) := by decide +kernel
theorem dX12_key_19 : decode cX12_key 19 = .ok (.aload_n 0, 1) := by decide +kernel
theorem dX12_key_20 : decode cX12_key 20 = .ok (.iload_n 3, 1) := by decide +kernel
theorem dX12_key_21 : decode cX12_key 21 = .ok (.invokevirtual 91, 3) := by decide +kernel
theorem dX12_key_24 : decode cX12_key 24 = .ok (.ifCond .eq 7, 3) := by decide +kernel
theorem dX12_key_27 : decode cX12_key 27 = .ok (.iconst 0, 1) := by decide +kernel
theorem dX12_key_28 : decode cX12_key 28 = .ok (.goto 8, 3) := by decide +kernel
theorem dX12_key_31 : decode cX12_key 31 = .ok (.aload_n 0, 1) := by decide +kernel
theorem dX12_key_32 : decode cX12_key 32 = .ok (.iload_n 3, 1) := by decide +kernel
theorem dX12_key_33 : decode cX12_key 33 = .ok (.invokevirtual 423, 3) := by decide +kernel
theorem dX12_key_36 : decode cX12_key 36 = .ok (.istore 4, 2) := by decide +kernel
theorem dX12_key_38 : decode cX12_key 38 = .ok (.iload 4, 2) := by decide +kernel
theorem dX12_key_40 : decode cX12_key 40 = .ok (.iload_n 2, 1) := by decide +kernel
theorem dX12_key_41 : decode cX12_key 41 = .ok (.if_icmp .le 7, 3) := by decide +kernel
theorem dX12_key_44 : decode cX12_key 44 = .ok (.iload_n 3, 1) := by decide +kernel
theorem dX12_key_45 : decode cX12_key 45 = .ok (.goto 4, 3) := by decide +kernel
theorem dX12_key_48 : decode cX12_key 48 = .ok (.iload_n 1, 1) := by decide +kernel
theorem dX12_key_49 : decode cX12_key 49 = .ok (.istore_n 1, 1) := by decide +kernel
theorem dX12_key_50 : decode cX12_key 50 = .ok (.iload_n 2, 1) := by decide +kernel
theorem dX12_key_51 : decode cX12_key 51 = .ok (.iload 4, 2) := by decide +kernel
theorem dX12_key_53 : decode cX12_key 53 = .ok (.invokestatic 314, 3) := by decide +kernel
theorem dX12_key_56 : decode cX12_key 56 = .ok (.istore_n 2, 1) := by decide +kernel
theorem dX12_key_57 : decode cX12_key 57 = .ok (.iinc 3 1, 3) := by decide +kernel
theorem dX12_key_60 : decode cX12_key 60 = .ok (.goto (-49), 3) := by decide +kernel
theorem dX12_key_63 : decode cX12_key 63 = .ok (.iload_n 1, 1) := by decide +kernel
theorem dX12_key_64 : decode cX12_key 64 = .ok (.ireturn, 1) := by decide +kernel
set_option maxRecDepth 100000 in
set_option maxHeartbeats 200000 in
theorem T_X12_key_49 {X : CX} (hX : Ok X cX12_key 5 RX12 (some .int)) (hdx : dX X = 15) {r : Int32 × Hp} (x2 : Int32) (x3 : Int32) (x4 : Int32) (t0 : Int32) (q_11 : Int32 → Int32 → Int32 → Hp → Option (Int32 × Hp)) (hq_11 : ∀ (x1 : Int32) (x2 : Int32) (x3 : Int32) (h : Hp), q_11 x1 x2 x3 h = some r → J X ((.inl (some (.int r.1)), r.2)) 11 [(0, .ref 30), (1, .int x1), (2, .int x2), (3, .int x3)] [] h) (h : Hp) (hf : F_X12_key_49 q_11 x2 x3 x4 t0 h = some r) : J X ((.inl (some (.int r.1)), r.2)) 49 [(0, .ref 30), (2, .int x2), (3, .int x3), (4, .int x4)] [.int t0] h := by
  unfold F_X12_key_49 at hf
  refine J_istore_n hX [(1, .int t0), (0, .ref 30), (2, .int x2), (3, .int x3), (4, .int x4)] dX12_key_49 rfl rfl rfl ?_
  refine J_iload_n hX 2 dX12_key_50 rfl rfl ?_
  refine J_iload hX 4 dX12_key_51 rfl ?_
  refine J_max hX dX12_key_53 mw_X12_314 (ltD hdx rfl) rfl ?_
  obtain ⟨x2_1, e_2, hf⟩ := bndE hf
  refine J_nm e_2 ?_
  refine J_istore_n hX [(2, .int x2_1), (1, .int t0), (0, .ref 30), (3, .int x3), (4, .int x4)] dX12_key_56 rfl rfl rfl ?_
  refine J_iinc hX (x3 + 1) 3 [(3, .int (x3 + 1)), (2, .int x2_1), (1, .int t0), (0, .ref 30), (4, .int x4)] dX12_key_57 rfl rfl rfl rfl ?_
  refine J_goto hX 11 dX12_key_60 rfl ?_
  refine J_sub [3, 2, 1, 0] [(0, .ref 30), (1, .int t0), (2, .int x2_1), (3, .int (x3 + 1))] rfl ?_
  exact hq_11 t0 x2_1 (x3 + 1) h hf
set_option maxRecDepth 100000 in
set_option maxHeartbeats 200000 in
theorem T_X12_key_36 {X : CX} (hX : Ok X cX12_key 5 RX12 (some .int)) (hdx : dX X = 15) {r : Int32 × Hp} (x1 : Int32) (x2 : Int32) (x3 : Int32) (t0 : Int32) (q_11 : Int32 → Int32 → Int32 → Hp → Option (Int32 × Hp)) (hq_11 : ∀ (x1 : Int32) (x2 : Int32) (x3 : Int32) (h : Hp), q_11 x1 x2 x3 h = some r → J X ((.inl (some (.int r.1)), r.2)) 11 [(0, .ref 30), (1, .int x1), (2, .int x2), (3, .int x3)] [] h) (h : Hp) (hf : F_X12_key_36 q_11 x1 x2 x3 t0 h = some r) : J X ((.inl (some (.int r.1)), r.2)) 36 [(0, .ref 30), (1, .int x1), (2, .int x2), (3, .int x3)] [.int t0] h := by
  unfold F_X12_key_36 at hf
  refine J_istore hX [(4, .int t0), (0, .ref 30), (1, .int x1), (2, .int x2), (3, .int x3)] dX12_key_36 rfl rfl ?_
  refine J_iload hX 0 dX12_key_38 rfl ?_
  refine J_iload_n hX 3 dX12_key_40 rfl rfl ?_
  rcases ifE hf with ⟨c_1, hf⟩ | ⟨c_1, hf⟩
  · refine J_icmp_leF hX 48 dX12_key_41 rfl c_1 ?_
    refine J_iload_n hX 4 dX12_key_44 rfl rfl ?_
    refine J_goto hX 49 dX12_key_45 rfl ?_
    refine J_sub [1, 3, 4, 0] [(0, .ref 30), (2, .int x2), (3, .int x3), (4, .int t0)] rfl ?_
    exact T_X12_key_49 hX hdx x2 x3 t0 x3 q_11 hq_11 h hf
  · refine J_icmp_leT hX 48 dX12_key_41 rfl c_1 ?_
    refine J_iload_n hX 2 dX12_key_48 rfl rfl ?_
    refine J_sub [1, 3, 4, 0] [(0, .ref 30), (2, .int x2), (3, .int x3), (4, .int t0)] rfl ?_
    exact T_X12_key_49 hX hdx x2 x3 t0 x1 q_11 hq_11 h hf
set_option maxRecDepth 100000 in
set_option maxHeartbeats 200000 in
theorem T_X12_key_11_s {X : CX} (hX : Ok X cX12_key 5 RX12 (some .int)) (hdx : dX X = 15) {r : Int32 × Hp} (q_11 : Int32 → Int32 → Int32 → Hp → Option (Int32 × Hp)) (hq_11 : ∀ (x1 : Int32) (x2 : Int32) (x3 : Int32) (h : Hp), q_11 x1 x2 x3 h = some r → J X ((.inl (some (.int r.1)), r.2)) 11 [(0, .ref 30), (1, .int x1), (2, .int x2), (3, .int x3)] [] h) (x1 : Int32) (x2 : Int32) (x3 : Int32) (h : Hp) (hf : S_X12_key_11 q_11 x1 x2 x3 h = some r) : J X ((.inl (some (.int r.1)), r.2)) 11 [(0, .ref 30), (1, .int x1), (2, .int x2), (3, .int x3)] [] h := by
  unfold S_X12_key_11 at hf
  refine J_iload_n hX 3 dX12_key_11 rfl rfl ?_
  refine J_aload_n hX 0 dX12_key_12 rfl rfl ?_
  refine V_1 hX [] dX12_key_13 cw_X12_87 ob_30 rfl (C_X12_houses (okG hX) rfl) (ltD hdx rfl) rfl rfl rfl rfl ?_
  rcases ifE hf with ⟨c_1, hf⟩ | ⟨c_1, hf⟩
  · refine J_icmp_geF hX 63 dX12_key_16 rfl c_1 ?_
    refine J_aload_n hX 0 dX12_key_19 rfl rfl ?_
    refine J_iload_n hX 3 dX12_key_20 rfl rfl ?_
    obtain ⟨r_2, e_3, hf⟩ := bdE hf
    refine V_1 hX [.int x3] dX12_key_21 cw_X12_91 ob_30 rfl (C_X12_isFallen (okG hX) e_3) (ltD hdx rfl) rfl rfl rfl rfl ?_
    rcases ifE hf with ⟨c_4, hf⟩ | ⟨c_4, hf⟩
    · refine J_if_eqF hX 31 dX12_key_24 rfl (b2iT c_4) ?_
      refine J_iconst hX 0 dX12_key_27 rfl ?_
      refine J_goto hX 36 dX12_key_28 rfl ?_
      exact T_X12_key_36 hX hdx x1 x2 x3 0 q_11 hq_11 h hf
    · refine J_if_eqT hX 31 dX12_key_24 rfl (b2iF c_4) ?_
      refine J_aload_n hX 0 dX12_key_31 rfl rfl ?_
      refine J_iload_n hX 3 dX12_key_32 rfl rfl ?_
      obtain ⟨r_5, e_6, hf⟩ := bdE hf
      refine V_1 hX [.int x3] dX12_key_33 cw_X12_423 ob_30 rfl (C_X12_pullsOf (okG hX) e_6) (ltD hdx rfl) rfl rfl rfl rfl ?_
      exact T_X12_key_36 hX hdx x1 x2 x3 r_5.1 q_11 hq_11 r_5.2 hf
  · refine J_icmp_geT hX 63 dX12_key_16 rfl c_1 ?_
    refine J_iload_n hX 1 dX12_key_63 rfl rfl ?_
    exact E_Ii hX dX12_key_64 hf
set_option maxRecDepth 100000 in
set_option maxHeartbeats 200000 in
theorem T_X12_key_11 {X : CX} (hX : Ok X cX12_key 5 RX12 (some .int)) (hdx : dX X = 15) {r : Int32 × Hp} : ∀ (n : Nat) (x1 : Int32) (x2 : Int32) (x3 : Int32) (h : Hp), F_X12_key_11 n x1 x2 x3 h = some r → J X ((.inl (some (.int r.1)), r.2)) 11 [(0, .ref 30), (1, .int x1), (2, .int x2), (3, .int x3)] [] h := by
  intro n
  induction n with
  | zero => intro x1 x2 x3 h hf; exact nomatch hf
  | succ n ih => intro x1 x2 x3 h hf; exact T_X12_key_11_s hX hdx _ (fun x1 x2 x3 h hf => ih x1 x2 x3 h hf) x1 x2 x3 h hf
set_option maxRecDepth 100000 in
set_option maxHeartbeats 200000 in
theorem T_X12_key_0 {X : CX} (hX : Ok X cX12_key 5 RX12 (some .int)) (hdx : dX X = 15) {r : Int32 × Hp} (h : Hp) (hf : f_X12_key h = some r) : J X ((.inl (some (.int r.1)), r.2)) 0 [(0, .ref 30)] [] h := by
  unfold f_X12_key at hf
  refine J_aload_n hX 0 dX12_key_0 rfl rfl ?_
  refine J_iconst hX 0 dX12_key_1 rfl ?_
  obtain ⟨h_1, e_2, hf⟩ := bndE hf
  refine J_putI hX dX12_key_2 fl_X12_3 fw_10_0 ob_30 rfl rfl rfl ?_
  refine J_nmh e_2 ?_
  refine J_iconst hX (-1) dX12_key_5 rfl ?_
  refine J_istore_n hX [(1, .int (-1)), (0, .ref 30)] dX12_key_6 rfl rfl rfl ?_
  refine J_iconst hX 0 dX12_key_7 rfl ?_
  refine J_istore_n hX [(2, .int 0), (1, .int (-1)), (0, .ref 30)] dX12_key_8 rfl rfl rfl ?_
  refine J_iconst hX 0 dX12_key_9 rfl ?_
  refine J_istore_n hX [(3, .int 0), (2, .int 0), (1, .int (-1)), (0, .ref 30)] dX12_key_10 rfl rfl rfl ?_
  refine J_sub [3, 2, 1, 0] [(0, .ref 30), (1, .int (-1)), (2, .int 0), (3, .int 0)] rfl ?_
  exact T_X12_key_11 hX hdx FU (-1) 0 0 h_1 hf
set_option maxRecDepth 100000 in
set_option maxHeartbeats 200000 in
theorem C_X12_key {G : GX} (hG : GOk G) {h : Hp} {r : Int32 × Hp} (hf : f_X12_key h = some r) : Ctr G 15 yX12_key cX12_key 5 (some .int) [.ref 30] h ((.inl (some (.int r.1)), r.2)) :=
  Ctr_of hG RX12 rfl (by decide) rfl (fun X _ hdx hX => T_X12_key_0 hX hdx h hf)
theorem dX12_spare_0 : decode cX12_spare 0 = .ok (.aload_n 0, 1) := by decide +kernel
theorem dX12_spare_1 : decode cX12_spare 1 = .ok (.iconst 0, 1) := by decide +kernel
theorem dX12_spare_2 : decode cX12_spare 2 = .ok (.putfield 3, 3) := by decide +kernel
theorem dX12_spare_5 : decode cX12_spare 5 = .ok (.iconst 0, 1) := by decide +kernel
theorem dX12_spare_6 : decode cX12_spare 6 = .ok (.istore_n 1, 1) := by decide +kernel
theorem dX12_spare_7 : decode cX12_spare 7 = .ok (.iconst 0, 1) := by decide +kernel
theorem dX12_spare_8 : decode cX12_spare 8 = .ok (.istore_n 2, 1) := by decide +kernel
theorem dX12_spare_9 : decode cX12_spare 9 = .ok (.iload_n 2, 1) := by decide +kernel
theorem dX12_spare_10 : decode cX12_spare 10 = .ok (.aload_n 0, 1) := by decide +kernel
theorem dX12_spare_11 : decode cX12_spare 11 = .ok (.invokevirtual 99, 3) := by decide +kernel
theorem dX12_spare_14 : decode cX12_spare 14 = .ok (.if_icmp .ge 51, 3) := by decide +kernel
theorem dX12_spare_17 : decode cX12_spare 17 = .ok (.iconst 0, 1) := by decide +kernel
theorem dX12_spare_18 : decode cX12_spare 18 = .ok (.istore_n 3, 1) := by decide +kernel
theorem dX12_spare_19 : decode cX12_spare 19 = .ok (.iconst 0, 1) := by decide +kernel
theorem dX12_spare_20 : decode cX12_spare 20 = .ok (.istore 4, 2) := by decide +kernel
theorem dX12_spare_22 : decode cX12_spare 22 = .ok (.iload 4, 2) := by decide +kernel
theorem dX12_spare_24 : decode cX12_spare 24 = .ok (.bipush 7, 2) := by decide +kernel
theorem dX12_spare_26 : decode cX12_spare 26 = .ok (.if_icmp .ge 19, 3) := by decide +kernel
theorem dX12_spare_29 : decode cX12_spare 29 = .ok (.iload_n 3, 1) := by decide +kernel
theorem dX12_spare_30 : decode cX12_spare 30 = .ok (.aload_n 0, 1) := by decide +kernel
theorem dX12_spare_31 : decode cX12_spare 31 = .ok (.iload_n 2, 1) := by decide +kernel
theorem dX12_spare_32 : decode cX12_spare 32 = .ok (.iload 4, 2) := by decide +kernel
theorem dX12_spare_34 : decode cX12_spare 34 = .ok (.invokevirtual 410, 3) := by decide +kernel
theorem dX12_spare_37 : decode cX12_spare 37 = .ok (.ior, 1) := by decide +kernel
theorem dX12_spare_38 : decode cX12_spare 38 = .ok (.istore_n 3, 1) := by decide +kernel
theorem dX12_spare_39 : decode cX12_spare 39 = .ok (.iinc 4 1, 3) := by decide +kernel
theorem dX12_spare_42 : decode cX12_spare 42 = .ok (.goto (-20), 3) := by decide +kernel
theorem dX12_spare_45 : decode cX12_spare 45 = .ok (.iload_n 1, 1) := by decide +kernel
theorem dX12_spare_46 : decode cX12_spare 46 = .ok (.iload_n 3, 1) := by decide +kernel
theorem dX12_spare_47 : decode cX12_spare 47 = .ok (.ifCond .ne 9, 3) := by decide +kernel
theorem dX12_spare_50 : decode cX12_spare 50 = .ok (.iconst 1, 1) := by decide +kernel
theorem dX12_spare_51 : decode cX12_spare 51 = .ok (.iload_n 2, 1) := by decide +kernel
theorem dX12_spare_52 : decode cX12_spare 52 = .ok (.ishl, 1) := by decide +kernel
theorem dX12_spare_53 : decode cX12_spare 53 = .ok (.goto 4, 3) := by decide +kernel
theorem dX12_spare_56 : decode cX12_spare 56 = .ok (.iconst 0, 1) := by decide +kernel
theorem dX12_spare_57 : decode cX12_spare 57 = .ok (.ior, 1) := by decide +kernel
theorem dX12_spare_58 : decode cX12_spare 58 = .ok (.istore_n 1, 1) := by decide +kernel
theorem dX12_spare_59 : decode cX12_spare 59 = .ok (.iinc 2 1, 3) := by decide +kernel
theorem dX12_spare_62 : decode cX12_spare 62 = .ok (.goto (-53), 3) := by decide +kernel
theorem dX12_spare_65 : decode cX12_spare 65 = .ok (.iload_n 1, 1) := by decide +kernel
theorem dX12_spare_66 : decode cX12_spare 66 = .ok (.ireturn, 1) := by decide +kernel
set_option maxRecDepth 100000 in
set_option maxHeartbeats 200000 in
theorem T_X12_spare_57 {X : CX} (hX : Ok X cX12_spare 5 RX12 (some .int)) (hdx : dX X = 16) {r : Int32 × Hp} (x2 : Int32) (t0 : Int32) (t1 : Int32) (q_9 : Int32 → Int32 → Hp → Option (Int32 × Hp)) (hq_9 : ∀ (x1 : Int32) (x2 : Int32) (h : Hp), q_9 x1 x2 h = some r → J X ((.inl (some (.int r.1)), r.2)) 9 [(0, .ref 30), (1, .int x1), (2, .int x2)] [] h) (h : Hp) (hf : F_X12_spare_57 q_9 x2 t0 t1 h = some r) : J X ((.inl (some (.int r.1)), r.2)) 57 [(0, .ref 30), (2, .int x2)] [.int t0, .int t1] h := by
  unfold F_X12_spare_57 at hf
  refine J_ior hX dX12_spare_57 ?_
  obtain ⟨x1_1, e_2, hf⟩ := bndE hf
  refine J_nm e_2 ?_
  refine J_istore_n hX [(1, .int x1_1), (0, .ref 30), (2, .int x2)] dX12_spare_58 rfl rfl rfl ?_
  refine J_iinc hX (x2 + 1) 2 [(2, .int (x2 + 1)), (1, .int x1_1), (0, .ref 30)] dX12_spare_59 rfl rfl rfl rfl ?_
  refine J_goto hX 9 dX12_spare_62 rfl ?_
  refine J_sub [2, 1, 0] [(0, .ref 30), (1, .int x1_1), (2, .int (x2 + 1))] rfl ?_
  exact hq_9 x1_1 (x2 + 1) h hf
set_option maxRecDepth 100000 in
set_option maxHeartbeats 200000 in
theorem T_X12_spare_22_s {X : CX} (hX : Ok X cX12_spare 5 RX12 (some .int)) (hdx : dX X = 16) {r : Int32 × Hp} (x1 : Int32) (x2 : Int32) (q_9 : Int32 → Int32 → Hp → Option (Int32 × Hp)) (hq_9 : ∀ (x1 : Int32) (x2 : Int32) (h : Hp), q_9 x1 x2 h = some r → J X ((.inl (some (.int r.1)), r.2)) 9 [(0, .ref 30), (1, .int x1), (2, .int x2)] [] h) (q_22 : Int32 → Int32 → Hp → Option (Int32 × Hp)) (hq_22 : ∀ (x3 : Int32) (x4 : Int32) (h : Hp), q_22 x3 x4 h = some r → J X ((.inl (some (.int r.1)), r.2)) 22 [(0, .ref 30), (1, .int x1), (2, .int x2), (3, .int x3), (4, .int x4)] [] h) (x3 : Int32) (x4 : Int32) (h : Hp) (hf : S_X12_spare_22 q_9 x1 x2 q_22 x3 x4 h = some r) : J X ((.inl (some (.int r.1)), r.2)) 22 [(0, .ref 30), (1, .int x1), (2, .int x2), (3, .int x3), (4, .int x4)] [] h := by
  unfold S_X12_spare_22 at hf
  refine J_iload hX 4 dX12_spare_22 rfl ?_
  refine J_bipush hX 7 dX12_spare_24 rfl ?_
  rcases ifE hf with ⟨c_1, hf⟩ | ⟨c_1, hf⟩
  · refine J_icmp_geF hX 45 dX12_spare_26 rfl c_1 ?_
    refine J_iload_n hX 3 dX12_spare_29 rfl rfl ?_
    refine J_aload_n hX 0 dX12_spare_30 rfl rfl ?_
    refine J_iload_n hX 2 dX12_spare_31 rfl rfl ?_
    refine J_iload hX 4 dX12_spare_32 rfl ?_
    obtain ⟨r_2, e_3, hf⟩ := bdE hf
    refine V_1 hX [.int x2, .int x4] dX12_spare_34 cw_X12_410 ob_30 rfl (C_X12_needsOf (okG hX) e_3) (ltD hdx rfl) rfl rfl rfl rfl ?_
    refine J_ior hX dX12_spare_37 ?_
    obtain ⟨x3_4, e_5, hf⟩ := bndE hf
    refine J_nm e_5 ?_
    refine J_istore_n hX [(3, .int x3_4), (0, .ref 30), (1, .int x1), (2, .int x2), (4, .int x4)] dX12_spare_38 rfl rfl rfl ?_
    refine J_iinc hX (x4 + 1) 4 [(4, .int (x4 + 1)), (3, .int x3_4), (0, .ref 30), (1, .int x1), (2, .int x2)] dX12_spare_39 rfl rfl rfl rfl ?_
    refine J_goto hX 22 dX12_spare_42 rfl ?_
    refine J_sub [2, 3, 4, 1, 0] [(0, .ref 30), (1, .int x1), (2, .int x2), (3, .int x3_4), (4, .int (x4 + 1))] rfl ?_
    exact hq_22 x3_4 (x4 + 1) r_2.2 hf
  · refine J_icmp_geT hX 45 dX12_spare_26 rfl c_1 ?_
    refine J_iload_n hX 1 dX12_spare_45 rfl rfl ?_
    refine J_iload_n hX 3 dX12_spare_46 rfl rfl ?_
    rcases ifE hf with ⟨c_6, hf⟩ | ⟨c_6, hf⟩
    · refine J_if_neF hX 56 dX12_spare_47 rfl c_6 ?_
      refine J_iconst hX 1 dX12_spare_50 rfl ?_
      refine J_iload_n hX 2 dX12_spare_51 rfl rfl ?_
      refine J_ishl hX dX12_spare_52 ?_
      refine J_goto hX 57 dX12_spare_53 rfl ?_
      refine J_sub [0, 2] [(0, .ref 30), (2, .int x2)] rfl ?_
      exact T_X12_spare_57 hX hdx x2 (shl 1 x2) x1 q_9 hq_9 h hf
    · refine J_if_neT hX 56 dX12_spare_47 rfl c_6 ?_
      refine J_iconst hX 0 dX12_spare_56 rfl ?_
      refine J_sub [0, 2] [(0, .ref 30), (2, .int x2)] rfl ?_
      exact T_X12_spare_57 hX hdx x2 0 x1 q_9 hq_9 h hf
set_option maxRecDepth 100000 in
set_option maxHeartbeats 200000 in
theorem T_X12_spare_22 {X : CX} (hX : Ok X cX12_spare 5 RX12 (some .int)) (hdx : dX X = 16) {r : Int32 × Hp} (x1 : Int32) (x2 : Int32) (q_9 : Int32 → Int32 → Hp → Option (Int32 × Hp)) (hq_9 : ∀ (x1 : Int32) (x2 : Int32) (h : Hp), q_9 x1 x2 h = some r → J X ((.inl (some (.int r.1)), r.2)) 9 [(0, .ref 30), (1, .int x1), (2, .int x2)] [] h) : ∀ (n : Nat) (x3 : Int32) (x4 : Int32) (h : Hp), F_X12_spare_22 q_9 x1 x2 n x3 x4 h = some r → J X ((.inl (some (.int r.1)), r.2)) 22 [(0, .ref 30), (1, .int x1), (2, .int x2), (3, .int x3), (4, .int x4)] [] h := by
  intro n
  induction n with
  | zero => intro x3 x4 h hf; exact nomatch hf
  | succ n ih => intro x3 x4 h hf; exact T_X12_spare_22_s hX hdx x1 x2 q_9 hq_9 _ (fun x3 x4 h hf => ih x3 x4 h hf) x3 x4 h hf
set_option maxRecDepth 100000 in
set_option maxHeartbeats 200000 in
theorem T_X12_spare_9_s {X : CX} (hX : Ok X cX12_spare 5 RX12 (some .int)) (hdx : dX X = 16) {r : Int32 × Hp} (q_9 : Int32 → Int32 → Hp → Option (Int32 × Hp)) (hq_9 : ∀ (x1 : Int32) (x2 : Int32) (h : Hp), q_9 x1 x2 h = some r → J X ((.inl (some (.int r.1)), r.2)) 9 [(0, .ref 30), (1, .int x1), (2, .int x2)] [] h) (x1 : Int32) (x2 : Int32) (h : Hp) (hf : S_X12_spare_9 q_9 x1 x2 h = some r) : J X ((.inl (some (.int r.1)), r.2)) 9 [(0, .ref 30), (1, .int x1), (2, .int x2)] [] h := by
  unfold S_X12_spare_9 at hf
  refine J_iload_n hX 2 dX12_spare_9 rfl rfl ?_
  refine J_aload_n hX 0 dX12_spare_10 rfl rfl ?_
  refine V_1 hX [] dX12_spare_11 cw_X12_99 ob_30 rfl (C_X12_people (okG hX) rfl) (ltD hdx rfl) rfl rfl rfl rfl ?_
  rcases ifE hf with ⟨c_1, hf⟩ | ⟨c_1, hf⟩
  · refine J_icmp_geF hX 65 dX12_spare_14 rfl c_1 ?_
    refine J_iconst hX 0 dX12_spare_17 rfl ?_
    refine J_istore_n hX [(3, .int 0), (0, .ref 30), (1, .int x1), (2, .int x2)] dX12_spare_18 rfl rfl rfl ?_
    refine J_iconst hX 0 dX12_spare_19 rfl ?_
    refine J_istore hX [(4, .int 0), (3, .int 0), (0, .ref 30), (1, .int x1), (2, .int x2)] dX12_spare_20 rfl rfl ?_
    refine J_sub [2, 3, 4, 1, 0] [(0, .ref 30), (1, .int x1), (2, .int x2), (3, .int 0), (4, .int 0)] rfl ?_
    exact T_X12_spare_22 hX hdx x1 x2 q_9 hq_9 FU 0 0 h hf
  · refine J_icmp_geT hX 65 dX12_spare_14 rfl c_1 ?_
    refine J_iload_n hX 1 dX12_spare_65 rfl rfl ?_
    exact E_Ii hX dX12_spare_66 hf
set_option maxRecDepth 100000 in
set_option maxHeartbeats 200000 in
theorem T_X12_spare_9 {X : CX} (hX : Ok X cX12_spare 5 RX12 (some .int)) (hdx : dX X = 16) {r : Int32 × Hp} : ∀ (n : Nat) (x1 : Int32) (x2 : Int32) (h : Hp), F_X12_spare_9 n x1 x2 h = some r → J X ((.inl (some (.int r.1)), r.2)) 9 [(0, .ref 30), (1, .int x1), (2, .int x2)] [] h := by
  intro n
  induction n with
  | zero => intro x1 x2 h hf; exact nomatch hf
  | succ n ih => intro x1 x2 h hf; exact T_X12_spare_9_s hX hdx _ (fun x1 x2 h hf => ih x1 x2 h hf) x1 x2 h hf
set_option maxRecDepth 100000 in
set_option maxHeartbeats 200000 in
theorem T_X12_spare_0 {X : CX} (hX : Ok X cX12_spare 5 RX12 (some .int)) (hdx : dX X = 16) {r : Int32 × Hp} (h : Hp) (hf : f_X12_spare h = some r) : J X ((.inl (some (.int r.1)), r.2)) 0 [(0, .ref 30)] [] h := by
  unfold f_X12_spare at hf
  refine J_aload_n hX 0 dX12_spare_0 rfl rfl ?_
  refine J_iconst hX 0 dX12_spare_1 rfl ?_
  obtain ⟨h_1, e_2, hf⟩ := bndE hf
  refine J_putI hX dX12_spare_2 fl_X12_3 fw_10_0 ob_30 rfl rfl rfl ?_
  refine J_nmh e_2 ?_
  refine J_iconst hX 0 dX12_spare_5 rfl ?_
  refine J_istore_n hX [(1, .int 0), (0, .ref 30)] dX12_spare_6 rfl rfl rfl ?_
  refine J_iconst hX 0 dX12_spare_7 rfl ?_
  refine J_istore_n hX [(2, .int 0), (1, .int 0), (0, .ref 30)] dX12_spare_8 rfl rfl rfl ?_
  refine J_sub [2, 1, 0] [(0, .ref 30), (1, .int 0), (2, .int 0)] rfl ?_
  exact T_X12_spare_9 hX hdx FU 0 0 h_1 hf
set_option maxRecDepth 100000 in
set_option maxHeartbeats 200000 in
theorem C_X12_spare {G : GX} (hG : GOk G) {h : Hp} {r : Int32 × Hp} (hf : f_X12_spare h = some r) : Ctr G 16 yX12_spare cX12_spare 5 (some .int) [.ref 30] h ((.inl (some (.int r.1)), r.2)) :=
  Ctr_of hG RX12 rfl (by decide) rfl (fun X _ hdx hX => T_X12_spare_0 hX hdx h hf)
theorem dX12_weakest_0 : decode cX12_weakest 0 = .ok (.aload_n 0, 1) := by decide +kernel
theorem dX12_weakest_1 : decode cX12_weakest 1 = .ok (.iconst 0, 1) := by decide +kernel
theorem dX12_weakest_2 : decode cX12_weakest 2 = .ok (.putfield 3, 3) := by decide +kernel
theorem dX12_weakest_5 : decode cX12_weakest 5 = .ok (.iconst 0, 1) := by decide +kernel
theorem dX12_weakest_6 : decode cX12_weakest 6 = .ok (.istore_n 1, 1) := by decide +kernel
theorem dX12_weakest_7 : decode cX12_weakest 7 = .ok (.iconst (-1), 1) := by decide +kernel
theorem dX12_weakest_8 : decode cX12_weakest 8 = .ok (.istore_n 2, 1) := by decide +kernel
theorem dX12_weakest_9 : decode cX12_weakest 9 = .ok (.iconst 0, 1) := by decide +kernel
theorem dX12_weakest_10 : decode cX12_weakest 10 = .ok (.istore_n 3, 1) := by decide +kernel
theorem dX12_weakest_11 : decode cX12_weakest 11 = .ok (.iload_n 3, 1) := by decide +kernel
theorem dX12_weakest_12 : decode cX12_weakest 12 = .ok (.bipush 7, 2) := by decide +kernel
theorem dX12_weakest_14 : decode cX12_weakest 14 = .ok (.if_icmp .ge 38, 3) := by decide +kernel
theorem dX12_weakest_17 : decode cX12_weakest 17 = .ok (.aload_n 0, 1) := by decide +kernel
theorem dX12_weakest_18 : decode cX12_weakest 18 = .ok (.iload_n 3, 1) := by decide +kernel
theorem dX12_weakest_19 : decode cX12_weakest 19 = .ok (.invokevirtual 404, 3) := by decide +kernel
theorem dX12_weakest_22 : decode cX12_weakest 22 = .ok (.invokestatic 368, 3) := by decide +kernel
theorem dX12_weakest_25 : decode cX12_weakest 25 = .ok (.istore 4, 2) := by decide +kernel
theorem dX12_weakest_27 : decode cX12_weakest 27 = .ok (.iload 4, 2) := by decide +kernel
theorem dX12_weakest_29 : decode cX12_weakest 29 = .ok (.iload_n 2, 1) := by decide +kernel
theorem dX12_weakest_30 : decode cX12_weakest 30 = .ok (.if_icmp .le 7, 3) := by decide +kernel
theorem dX12_weakest_33 : decode cX12_weakest 33 = .ok (.iload_n 3, 1) := by decide +kernel
theorem dX12_weakest_34 : decode cX12_weakest 34 = .ok (.goto 4, 3) := by decide +kernel
theorem dX12_weakest_37 : decode cX12_weakest 37 = .ok (.iload_n 1, 1) := by decide +kernel
theorem dX12_weakest_38 : decode cX12_weakest 38 = .ok (.istore_n 1, 1) := by decide +kernel
theorem dX12_weakest_39 : decode cX12_weakest 39 = .ok (.iload_n 2, 1) := by decide +kernel
theorem dX12_weakest_40 : decode cX12_weakest 40 = .ok (.iload 4, 2) := by decide +kernel
theorem dX12_weakest_42 : decode cX12_weakest 42 = .ok (.invokestatic 314, 3) := by decide +kernel
theorem dX12_weakest_45 : decode cX12_weakest 45 = .ok (.istore_n 2, 1) := by decide +kernel
theorem dX12_weakest_46 : decode cX12_weakest 46 = .ok (.iinc 3 1, 3) := by decide +kernel
theorem dX12_weakest_49 : decode cX12_weakest 49 = .ok (.goto (-38), 3) := by decide +kernel
theorem dX12_weakest_52 : decode cX12_weakest 52 = .ok (.iload_n 1, 1) := by decide +kernel
theorem dX12_weakest_53 : decode cX12_weakest 53 = .ok (.ireturn, 1) := by decide +kernel
set_option maxRecDepth 100000 in
set_option maxHeartbeats 200000 in
theorem T_X12_weakest_38 {X : CX} (hX : Ok X cX12_weakest 5 RX12 (some .int)) (hdx : dX X = 15) {r : Int32 × Hp} (x2 : Int32) (x3 : Int32) (x4 : Int32) (t0 : Int32) (q_11 : Int32 → Int32 → Int32 → Hp → Option (Int32 × Hp)) (hq_11 : ∀ (x1 : Int32) (x2 : Int32) (x3 : Int32) (h : Hp), q_11 x1 x2 x3 h = some r → J X ((.inl (some (.int r.1)), r.2)) 11 [(0, .ref 30), (1, .int x1), (2, .int x2), (3, .int x3)] [] h) (h : Hp) (hf : F_X12_weakest_38 q_11 x2 x3 x4 t0 h = some r) : J X ((.inl (some (.int r.1)), r.2)) 38 [(0, .ref 30), (2, .int x2), (3, .int x3), (4, .int x4)] [.int t0] h := by
  unfold F_X12_weakest_38 at hf
  refine J_istore_n hX [(1, .int t0), (0, .ref 30), (2, .int x2), (3, .int x3), (4, .int x4)] dX12_weakest_38 rfl rfl rfl ?_
  refine J_iload_n hX 2 dX12_weakest_39 rfl rfl ?_
  refine J_iload hX 4 dX12_weakest_40 rfl ?_
  refine J_max hX dX12_weakest_42 mw_X12_314 (ltD hdx rfl) rfl ?_
  obtain ⟨x2_1, e_2, hf⟩ := bndE hf
  refine J_nm e_2 ?_
  refine J_istore_n hX [(2, .int x2_1), (1, .int t0), (0, .ref 30), (3, .int x3), (4, .int x4)] dX12_weakest_45 rfl rfl rfl ?_
  refine J_iinc hX (x3 + 1) 3 [(3, .int (x3 + 1)), (2, .int x2_1), (1, .int t0), (0, .ref 30), (4, .int x4)] dX12_weakest_46 rfl rfl rfl rfl ?_
  refine J_goto hX 11 dX12_weakest_49 rfl ?_
  refine J_sub [3, 2, 1, 0] [(0, .ref 30), (1, .int t0), (2, .int x2_1), (3, .int (x3 + 1))] rfl ?_
  exact hq_11 t0 x2_1 (x3 + 1) h hf
set_option maxRecDepth 100000 in
set_option maxHeartbeats 200000 in
theorem T_X12_weakest_11_s {X : CX} (hX : Ok X cX12_weakest 5 RX12 (some .int)) (hdx : dX X = 15) {r : Int32 × Hp} (q_11 : Int32 → Int32 → Int32 → Hp → Option (Int32 × Hp)) (hq_11 : ∀ (x1 : Int32) (x2 : Int32) (x3 : Int32) (h : Hp), q_11 x1 x2 x3 h = some r → J X ((.inl (some (.int r.1)), r.2)) 11 [(0, .ref 30), (1, .int x1), (2, .int x2), (3, .int x3)] [] h) (x1 : Int32) (x2 : Int32) (x3 : Int32) (h : Hp) (hf : S_X12_weakest_11 q_11 x1 x2 x3 h = some r) : J X ((.inl (some (.int r.1)), r.2)) 11 [(0, .ref 30), (1, .int x1), (2, .int x2), (3, .int x3)] [] h := by
  unfold S_X12_weakest_11 at hf
  refine J_iload_n hX 3 dX12_weakest_11 rfl rfl ?_
  refine J_bipush hX 7 dX12_weakest_12 rfl ?_
  rcases ifE hf with ⟨c_1, hf⟩ | ⟨c_1, hf⟩
  · refine J_icmp_geF hX 52 dX12_weakest_14 rfl c_1 ?_
    refine J_aload_n hX 0 dX12_weakest_17 rfl rfl ?_
    refine J_iload_n hX 3 dX12_weakest_18 rfl rfl ?_
    obtain ⟨r_2, e_3, hf⟩ := bdE hf
    refine V_1 hX [.int x3] dX12_weakest_19 cw_X12_404 ob_30 rfl (C_X12_fallsIn (okG hX) e_3) (ltD hdx rfl) rfl rfl rfl rfl ?_
    refine S_1 hX [.int r_2.1] dX12_weakest_22 cw_X12_368 (C_J6_bitCount_0f7a4 (okG hX) rfl) (ltD hdx rfl) rfl rfl rfl rfl ?_
    obtain ⟨x4_4, e_5, hf⟩ := bndE hf
    refine J_nm e_5 ?_
    refine J_istore hX [(4, .int x4_4), (0, .ref 30), (1, .int x1), (2, .int x2), (3, .int x3)] dX12_weakest_25 rfl rfl ?_
    refine J_iload hX 0 dX12_weakest_27 rfl ?_
    refine J_iload_n hX 3 dX12_weakest_29 rfl rfl ?_
    rcases ifE hf with ⟨c_6, hf⟩ | ⟨c_6, hf⟩
    · refine J_icmp_leF hX 37 dX12_weakest_30 rfl c_6 ?_
      refine J_iload_n hX 4 dX12_weakest_33 rfl rfl ?_
      refine J_goto hX 38 dX12_weakest_34 rfl ?_
      refine J_sub [1, 3, 4, 0] [(0, .ref 30), (2, .int x2), (3, .int x3), (4, .int x4_4)] rfl ?_
      exact T_X12_weakest_38 hX hdx x2 x3 x4_4 x3 q_11 hq_11 r_2.2 hf
    · refine J_icmp_leT hX 37 dX12_weakest_30 rfl c_6 ?_
      refine J_iload_n hX 2 dX12_weakest_37 rfl rfl ?_
      refine J_sub [1, 3, 4, 0] [(0, .ref 30), (2, .int x2), (3, .int x3), (4, .int x4_4)] rfl ?_
      exact T_X12_weakest_38 hX hdx x2 x3 x4_4 x1 q_11 hq_11 r_2.2 hf
  · refine J_icmp_geT hX 52 dX12_weakest_14 rfl c_1 ?_
    refine J_iload_n hX 1 dX12_weakest_52 rfl rfl ?_
    exact E_Ii hX dX12_weakest_53 hf
set_option maxRecDepth 100000 in
set_option maxHeartbeats 200000 in
theorem T_X12_weakest_11 {X : CX} (hX : Ok X cX12_weakest 5 RX12 (some .int)) (hdx : dX X = 15) {r : Int32 × Hp} : ∀ (n : Nat) (x1 : Int32) (x2 : Int32) (x3 : Int32) (h : Hp), F_X12_weakest_11 n x1 x2 x3 h = some r → J X ((.inl (some (.int r.1)), r.2)) 11 [(0, .ref 30), (1, .int x1), (2, .int x2), (3, .int x3)] [] h := by
  intro n
  induction n with
  | zero => intro x1 x2 x3 h hf; exact nomatch hf
  | succ n ih => intro x1 x2 x3 h hf; exact T_X12_weakest_11_s hX hdx _ (fun x1 x2 x3 h hf => ih x1 x2 x3 h hf) x1 x2 x3 h hf
set_option maxRecDepth 100000 in
set_option maxHeartbeats 200000 in
theorem T_X12_weakest_0 {X : CX} (hX : Ok X cX12_weakest 5 RX12 (some .int)) (hdx : dX X = 15) {r : Int32 × Hp} (h : Hp) (hf : f_X12_weakest h = some r) : J X ((.inl (some (.int r.1)), r.2)) 0 [(0, .ref 30)] [] h := by
  unfold f_X12_weakest at hf
  refine J_aload_n hX 0 dX12_weakest_0 rfl rfl ?_
  refine J_iconst hX 0 dX12_weakest_1 rfl ?_
  obtain ⟨h_1, e_2, hf⟩ := bndE hf
  refine J_putI hX dX12_weakest_2 fl_X12_3 fw_10_0 ob_30 rfl rfl rfl ?_
  refine J_nmh e_2 ?_
  refine J_iconst hX 0 dX12_weakest_5 rfl ?_
  refine J_istore_n hX [(1, .int 0), (0, .ref 30)] dX12_weakest_6 rfl rfl rfl ?_
  refine J_iconst hX (-1) dX12_weakest_7 rfl ?_
  refine J_istore_n hX [(2, .int (-1)), (1, .int 0), (0, .ref 30)] dX12_weakest_8 rfl rfl rfl ?_
  refine J_iconst hX 0 dX12_weakest_9 rfl ?_
  refine J_istore_n hX [(3, .int 0), (2, .int (-1)), (1, .int 0), (0, .ref 30)] dX12_weakest_10 rfl rfl rfl ?_
  refine J_sub [3, 2, 1, 0] [(0, .ref 30), (1, .int 0), (2, .int (-1)), (3, .int 0)] rfl ?_
  exact T_X12_weakest_11 hX hdx FU 0 (-1) 0 h_1 hf
set_option maxRecDepth 100000 in
set_option maxHeartbeats 200000 in
theorem C_X12_weakest {G : GX} (hG : GOk G) {h : Hp} {r : Int32 × Hp} (hf : f_X12_weakest h = some r) : Ctr G 15 yX12_weakest cX12_weakest 5 (some .int) [.ref 30] h ((.inl (some (.int r.1)), r.2)) :=
  Ctr_of hG RX12 rfl (by decide) rfl (fun X _ hdx hX => T_X12_weakest_0 hX hdx h hf)
theorem dX12_standsPropped_0 : decode cX12_standsPropped 0 = .ok (.aload_n 0, 1) := by decide +kernel
theorem dX12_standsPropped_1 : decode cX12_standsPropped 1 = .ok (.iload_n 1, 1) := by decide +kernel
theorem dX12_standsPropped_2 : decode cX12_standsPropped 2 = .ok (.putfield 319, 3) := by decide +kernel
theorem dX12_standsPropped_5 : decode cX12_standsPropped 5 = .ok (.aload_n 0, 1) := by decide +kernel
theorem dX12_standsPropped_6 : decode cX12_standsPropped 6 = .ok (.iload_n 2, 1) := by decide +kernel
theorem dX12_standsPropped_7 : decode cX12_standsPropped 7 = .ok (.invokevirtual 404, 3) := by decide +kernel
theorem dX12_standsPropped_10 : decode cX12_standsPropped 10 = .ok (.ifCond .ne 7, 3) := by decide +kernel
theorem dX12_standsPropped_13 : decode cX12_standsPropped 13 = .ok (.iconst 1, 1) := by decide +kernel
theorem dX12_standsPropped_14 : decode cX12_standsPropped 14 = .ok (.goto 4, 3) := by decide +kernel
theorem dX12_standsPropped_17 : decode cX12_standsPropped 17 = .ok (.iconst 0, 1) := by decide +kernel
theorem dX12_standsPropped_18 : decode cX12_standsPropped 18 = .ok (.istore_n 3, 1) := by decide +kernel
theorem dX12_standsPropped_19 : decode cX12_standsPropped 19 = .ok (.aload_n 0, 1) := by decide +kernel
theorem dX12_standsPropped_20 : decode cX12_standsPropped 20 = .ok (.iconst 0, 1) := by decide +kernel
theorem dX12_standsPropped_21 : decode cX12_standsPropped 21 = .ok (.putfield 319, 3) := by decide +kernel
theorem dX12_standsPropped_24 : decode cX12_standsPropped 24 = .ok (.iload_n 3, 1) := by decide +kernel
theorem dX12_standsPropped_25 : decode cX12_standsPropped 25 = .ok (.ireturn, 1) := by decide +kernel
set_option maxRecDepth 100000 in
set_option maxHeartbeats 200000 in
theorem T_X12_standsPropped_18 {X : CX} (hX : Ok X cX12_standsPropped 4 RX12 (some .boolean)) (hdx : dX X = 15) {r : Bool × Hp} (t0 : Int32) (h : Hp) (hf : F_X12_standsPropped_18 t0 h = some r) : J X ((.inl (some (.int (b2i r.1))), r.2)) 18 [(0, .ref 30)] [.int t0] h := by
  unfold F_X12_standsPropped_18 at hf
  refine J_istore_n hX [(3, .int t0), (0, .ref 30)] dX12_standsPropped_18 rfl rfl rfl ?_
  refine J_aload_n hX 1 dX12_standsPropped_19 rfl rfl ?_
  refine J_iconst hX 0 dX12_standsPropped_20 rfl ?_
  obtain ⟨h_1, e_2, hf⟩ := bndE hf
  refine J_putI hX dX12_standsPropped_21 fl_X12_319 fw_10_21 ob_30 rfl rfl rfl ?_
  refine J_nmh e_2 ?_
  refine J_iload_n hX 0 dX12_standsPropped_24 rfl rfl ?_
  obtain ⟨b_3, e_4, hf⟩ := bdE hf
  exact E_Zi hX dX12_standsPropped_25 (toBE e_4) hf
set_option maxRecDepth 100000 in
set_option maxHeartbeats 200000 in
theorem T_X12_standsPropped_0 {X : CX} (hX : Ok X cX12_standsPropped 4 RX12 (some .boolean)) (hdx : dX X = 15) {r : Bool × Hp} (x1 : Int32) (x2 : Int32) (h : Hp) (hf : f_X12_standsPropped x1 x2 h = some r) : J X ((.inl (some (.int (b2i r.1))), r.2)) 0 [(0, .ref 30), (1, .int x1), (2, .int x2)] [] h := by
  unfold f_X12_standsPropped at hf
  refine J_aload_n hX 0 dX12_standsPropped_0 rfl rfl ?_
  refine J_iload_n hX 1 dX12_standsPropped_1 rfl rfl ?_
  obtain ⟨h_1, e_2, hf⟩ := bndE hf
  refine J_putI hX dX12_standsPropped_2 fl_X12_319 fw_10_21 ob_30 rfl rfl rfl ?_
  refine J_nmh e_2 ?_
  refine J_aload_n hX 0 dX12_standsPropped_5 rfl rfl ?_
  refine J_iload_n hX 2 dX12_standsPropped_6 rfl rfl ?_
  obtain ⟨r_3, e_4, hf⟩ := bdE hf
  refine V_1 hX [.int x2] dX12_standsPropped_7 cw_X12_404 ob_30 rfl (C_X12_fallsIn (okG hX) e_4) (ltD hdx rfl) rfl rfl rfl rfl ?_
  rcases ifE hf with ⟨c_5, hf⟩ | ⟨c_5, hf⟩
  · refine J_if_neF hX 17 dX12_standsPropped_10 rfl c_5 ?_
    refine J_iconst hX 1 dX12_standsPropped_13 rfl ?_
    refine J_goto hX 18 dX12_standsPropped_14 rfl ?_
    refine J_sub [0] [(0, .ref 30)] rfl ?_
    exact T_X12_standsPropped_18 hX hdx 1 r_3.2 hf
  · refine J_if_neT hX 17 dX12_standsPropped_10 rfl c_5 ?_
    refine J_iconst hX 0 dX12_standsPropped_17 rfl ?_
    refine J_sub [0] [(0, .ref 30)] rfl ?_
    exact T_X12_standsPropped_18 hX hdx 0 r_3.2 hf
set_option maxRecDepth 100000 in
set_option maxHeartbeats 200000 in
theorem C_X12_standsPropped {G : GX} (hG : GOk G) {x1 : Int32} {x2 : Int32} {h : Hp} {r : Bool × Hp} (hf : f_X12_standsPropped x1 x2 h = some r) : Ctr G 15 yX12_standsPropped cX12_standsPropped 4 (some .boolean) [.ref 30, .int x1, .int x2] h ((.inl (some (.int (b2i r.1))), r.2)) :=
  Ctr_of hG RX12 rfl (by decide) rfl (fun X _ hdx hX => T_X12_standsPropped_0 hX hdx x1 x2 h hf)
theorem dX12_props_0 : decode cX12_props 0 = .ok (.aload_n 0, 1) := by decide +kernel
theorem dX12_props_1 : decode cX12_props 1 = .ok (.iconst 0, 1) := by decide +kernel
theorem dX12_props_2 : decode cX12_props 2 = .ok (.putfield 3, 3) := by decide +kernel
theorem dX12_props_5 : decode cX12_props 5 = .ok (.aload_n 0, 1) := by decide +kernel
theorem dX12_props_6 : decode cX12_props 6 = .ok (.iload_n 1, 1) := by decide +kernel
theorem dX12_props_7 : decode cX12_props 7 = .ok (.invokestatic 420, 3) := by decide +kernel
theorem dX12_props_10 : decode cX12_props 10 = .ok (.iconst 1, 1) := by decide +kernel
theorem dX12_props_11 : decode cX12_props 11 = .ok (.invokevirtual 280, 3) := by decide +kernel
theorem dX12_props_14 : decode cX12_props 14 = .ok (.ifCond .eq 5, 3) := by decide +kernel
theorem dX12_props_17 : decode cX12_props 17 = .ok (.iconst 0, 1) := by decide +kernel
theorem dX12_props_18 : decode cX12_props 18 = .ok (.ireturn, 1) := by decide +kernel
theorem dX12_props_19 : decode cX12_props 19 = .ok (.aload_n 0, 1) := by decide +kernel
theorem dX12_props_20 : decode cX12_props 20 = .ok (.invokevirtual 362, 3) := by decide +kernel
theorem dX12_props_23 : decode cX12_props 23 = .ok (.istore_n 2, 1) := by decide +kernel
theorem dX12_props_24 : decode cX12_props 24 = .ok (.iconst (-1), 1) := by decide +kernel
theorem dX12_props_25 : decode cX12_props 25 = .ok (.istore_n 3, 1) := by decide +kernel
theorem dX12_props_26 : decode cX12_props 26 = .ok (.iconst 0, 1) := by decide +kernel
theorem dX12_props_27 : decode cX12_props 27 = .ok (.istore 4, 2) := by decide +kernel
theorem dX12_props_29 : decode cX12_props 29 = .ok (.iload 4, 2) := by decide +kernel
theorem dX12_props_31 : decode cX12_props 31 = .ok (.iload_n 2, 1) := by decide +kernel
theorem dX12_props_32 : decode cX12_props 32 = .ok (.if_icmp .gt 55, 3) := by decide +kernel
theorem dX12_props_35 : decode cX12_props 35 = .ok (.iload 4, 2) := by decide +kernel
theorem dX12_props_37 : decode cX12_props 37 = .ok (.iload_n 2, 1) := by decide +kernel
theorem dX12_props_38 : decode cX12_props 38 = .ok (.iconst (-1), 1) := by decide +kernel
theorem dX12_props_39 : decode cX12_props 39 = .ok (.ixor, 1) := by decide +kernel
theorem dX12_props_40 : decode cX12_props 40 = .ok (.iand, 1) := by decide +kernel
theorem dX12_props_41 : decode cX12_props 41 = .ok (.ifCond .ne 40, 3) := by decide +kernel
theorem dX12_props_44 : decode cX12_props 44 = .ok (.iload_n 3, 1) := by decide +kernel
theorem dX12_props_45 : decode cX12_props 45 = .ok (.iconst (-1), 1) := by decide +kernel
theorem dX12_props_46 : decode cX12_props 46 = .ok (.if_icmp .eq 18, 3) := by decide +kernel
theorem dX12_props_49 : decode cX12_props 49 = .ok (.iload 4, 2) := by decide +kernel
theorem dX12_props_51 : decode cX12_props 51 = .ok (.invokestatic 368, 3) := by decide +kernel
theorem dX12_props_54 : decode cX12_props 54 = .ok (.iload_n 3, 1) := by decide +kernel
theorem dX12_props_55 : decode cX12_props 55 = .ok (.invokestatic 368, 3) := by decide +kernel
theorem dX12_props_58 : decode cX12_props 58 = .ok (.if_icmp .lt 6, 3) := by decide +kernel
theorem dX12_props_61 : decode cX12_props 61 = .ok (.goto 20, 3) := by decide +kernel
theorem dX12_props_64 : decode cX12_props 64 = .ok (.aload_n 0, 1) := by decide +kernel
theorem dX12_props_65 : decode cX12_props 65 = .ok (.iload 4, 2) := by decide +kernel
theorem dX12_props_67 : decode cX12_props 67 = .ok (.iload_n 1, 1) := by decide +kernel
theorem dX12_props_68 : decode cX12_props 68 = .ok (.invokevirtual 426, 3) := by decide +kernel
theorem dX12_props_71 : decode cX12_props 71 = .ok (.ifCond .eq 8, 3) := by decide +kernel
theorem dX12_props_74 : decode cX12_props 74 = .ok (.iload 4, 2) := by decide +kernel
theorem dX12_props_76 : decode cX12_props 76 = .ok (.goto 4, 3) := by decide +kernel
theorem dX12_props_79 : decode cX12_props 79 = .ok (.iload_n 3, 1) := by decide +kernel
theorem dX12_props_80 : decode cX12_props 80 = .ok (.istore_n 3, 1) := by decide +kernel
theorem dX12_props_81 : decode cX12_props 81 = .ok (.iinc 4 1, 3) := by decide +kernel
theorem dX12_props_84 : decode cX12_props 84 = .ok (.goto (-55), 3) := by decide +kernel
theorem dX12_props_87 : decode cX12_props 87 = .ok (.iload_n 3, 1) := by decide +kernel
theorem dX12_props_88 : decode cX12_props 88 = .ok (.ireturn, 1) := by decide +kernel
set_option maxRecDepth 100000 in
set_option maxHeartbeats 200000 in
theorem T_X12_props_64 {X : CX} (hX : Ok X cX12_props 5 RX12 (some .int)) (hdx : dX X = 16) {r : Int32 × Hp} (x1 : Int32) (x2 : Int32) (x3 : Int32) (x4 : Int32) (q_29 : Int32 → Int32 → Hp → Option (Int32 × Hp)) (hq_29 : ∀ (x3 : Int32) (x4 : Int32) (h : Hp), q_29 x3 x4 h = some r → J X ((.inl (some (.int r.1)), r.2)) 29 [(0, .ref 30), (1, .int x1), (2, .int x2), (3, .int x3), (4, .int x4)] [] h) (h : Hp) (hf : F_X12_props_64 q_29 x1 x2 x3 x4 h = some r) : J X ((.inl (some (.int r.1)), r.2)) 64 [(0, .ref 30), (1, .int x1), (2, .int x2), (3, .int x3), (4, .int x4)] [] h := by
  unfold F_X12_props_64 at hf
  refine J_aload_n hX 0 dX12_props_64 rfl rfl ?_
  refine J_iload hX 4 dX12_props_65 rfl ?_
  refine J_iload_n hX 1 dX12_props_67 rfl rfl ?_
  obtain ⟨r_1, e_2, hf⟩ := bdE hf
  refine V_1 hX [.int x4, .int x1] dX12_props_68 cw_X12_426 ob_30 rfl (C_X12_standsPropped (okG hX) e_2) (ltD hdx rfl) rfl rfl rfl rfl ?_
  rcases ifE hf with ⟨c_3, hf⟩ | ⟨c_3, hf⟩
  · refine J_if_eqF hX 79 dX12_props_71 rfl (b2iT c_3) ?_
    refine J_iload hX 4 dX12_props_74 rfl ?_
    refine J_goto hX 80 dX12_props_76 rfl ?_
    refine J_istore_n hX [(3, .int x4), (0, .ref 30), (1, .int x1), (2, .int x2), (4, .int x4)] dX12_props_80 rfl rfl rfl ?_
    refine J_iinc hX (x4 + 1) 4 [(4, .int (x4 + 1)), (3, .int x4), (0, .ref 30), (1, .int x1), (2, .int x2)] dX12_props_81 rfl rfl rfl rfl ?_
    refine J_goto hX 29 dX12_props_84 rfl ?_
    refine J_sub [2, 3, 4, 1, 0] [(0, .ref 30), (1, .int x1), (2, .int x2), (3, .int x4), (4, .int (x4 + 1))] rfl ?_
    exact hq_29 x4 (x4 + 1) r_1.2 hf
  · refine J_if_eqT hX 79 dX12_props_71 rfl (b2iF c_3) ?_
    refine J_iload_n hX 3 dX12_props_79 rfl rfl ?_
    refine J_istore_n hX [(3, .int x3), (0, .ref 30), (1, .int x1), (2, .int x2), (4, .int x4)] dX12_props_80 rfl rfl rfl ?_
    refine J_iinc hX (x4 + 1) 4 [(4, .int (x4 + 1)), (3, .int x3), (0, .ref 30), (1, .int x1), (2, .int x2)] dX12_props_81 rfl rfl rfl rfl ?_
    refine J_goto hX 29 dX12_props_84 rfl ?_
    refine J_sub [2, 3, 4, 1, 0] [(0, .ref 30), (1, .int x1), (2, .int x2), (3, .int x3), (4, .int (x4 + 1))] rfl ?_
    exact hq_29 x3 (x4 + 1) r_1.2 hf
set_option maxRecDepth 100000 in
set_option maxHeartbeats 200000 in
theorem T_X12_props_29_s {X : CX} (hX : Ok X cX12_props 5 RX12 (some .int)) (hdx : dX X = 16) {r : Int32 × Hp} (x1 : Int32) (x2 : Int32) (q_29 : Int32 → Int32 → Hp → Option (Int32 × Hp)) (hq_29 : ∀ (x3 : Int32) (x4 : Int32) (h : Hp), q_29 x3 x4 h = some r → J X ((.inl (some (.int r.1)), r.2)) 29 [(0, .ref 30), (1, .int x1), (2, .int x2), (3, .int x3), (4, .int x4)] [] h) (x3 : Int32) (x4 : Int32) (h : Hp) (hf : S_X12_props_29 x1 x2 q_29 x3 x4 h = some r) : J X ((.inl (some (.int r.1)), r.2)) 29 [(0, .ref 30), (1, .int x1), (2, .int x2), (3, .int x3), (4, .int x4)] [] h := by
  unfold S_X12_props_29 at hf
  refine J_iload hX 4 dX12_props_29 rfl ?_
  refine J_iload_n hX 2 dX12_props_31 rfl rfl ?_
  rcases ifE hf with ⟨c_1, hf⟩ | ⟨c_1, hf⟩
  · refine J_icmp_gtT hX 87 dX12_props_32 rfl c_1 ?_
    refine J_iload_n hX 3 dX12_props_87 rfl rfl ?_
    exact E_Ii hX dX12_props_88 hf
  · refine J_icmp_gtF hX 87 dX12_props_32 rfl c_1 ?_
    refine J_iload hX 4 dX12_props_35 rfl ?_
    refine J_iload_n hX 2 dX12_props_37 rfl rfl ?_
    refine J_iconst hX (-1) dX12_props_38 rfl ?_
    refine J_ixor hX dX12_props_39 ?_
    refine J_iand hX dX12_props_40 ?_
    rcases ifE hf with ⟨c_2, hf⟩ | ⟨c_2, hf⟩
    · refine J_if_neF hX 81 dX12_props_41 rfl c_2 ?_
      refine J_iload_n hX 3 dX12_props_44 rfl rfl ?_
      refine J_iconst hX (-1) dX12_props_45 rfl ?_
      rcases ifE hf with ⟨c_3, hf⟩ | ⟨c_3, hf⟩
      · refine J_icmp_eqT hX 64 dX12_props_46 rfl c_3 ?_
        exact T_X12_props_64 hX hdx x1 x2 x3 x4 q_29 hq_29 h hf
      · refine J_icmp_eqF hX 64 dX12_props_46 rfl c_3 ?_
        refine J_iload hX 4 dX12_props_49 rfl ?_
        refine S_1 hX [.int x4] dX12_props_51 cw_X12_368 (C_J6_bitCount_0f7a4 (okG hX) rfl) (ltD hdx rfl) rfl rfl rfl rfl ?_
        refine J_iload_n hX 3 dX12_props_54 rfl rfl ?_
        refine S_1 hX [.int x3] dX12_props_55 cw_X12_368 (C_J6_bitCount_0f7a4 (okG hX) rfl) (ltD hdx rfl) rfl rfl rfl rfl ?_
        rcases ifE hf with ⟨c_4, hf⟩ | ⟨c_4, hf⟩
        · refine J_icmp_ltT hX 64 dX12_props_58 rfl c_4 ?_
          exact T_X12_props_64 hX hdx x1 x2 x3 x4 q_29 hq_29 h hf
        · refine J_icmp_ltF hX 64 dX12_props_58 rfl c_4 ?_
          refine J_goto hX 81 dX12_props_61 rfl ?_
          refine J_iinc hX (x4 + 1) 4 [(4, .int (x4 + 1)), (0, .ref 30), (1, .int x1), (2, .int x2), (3, .int x3)] dX12_props_81 rfl rfl rfl rfl ?_
          refine J_goto hX 29 dX12_props_84 rfl ?_
          refine J_sub [1, 2, 3, 4, 0] [(0, .ref 30), (1, .int x1), (2, .int x2), (3, .int x3), (4, .int (x4 + 1))] rfl ?_
          exact hq_29 x3 (x4 + 1) h hf
    · refine J_if_neT hX 81 dX12_props_41 rfl c_2 ?_
      refine J_iinc hX (x4 + 1) 4 [(4, .int (x4 + 1)), (0, .ref 30), (1, .int x1), (2, .int x2), (3, .int x3)] dX12_props_81 rfl rfl rfl rfl ?_
      refine J_goto hX 29 dX12_props_84 rfl ?_
      refine J_sub [1, 2, 3, 4, 0] [(0, .ref 30), (1, .int x1), (2, .int x2), (3, .int x3), (4, .int (x4 + 1))] rfl ?_
      exact hq_29 x3 (x4 + 1) h hf
set_option maxRecDepth 100000 in
set_option maxHeartbeats 200000 in
theorem T_X12_props_29 {X : CX} (hX : Ok X cX12_props 5 RX12 (some .int)) (hdx : dX X = 16) {r : Int32 × Hp} (x1 : Int32) (x2 : Int32) : ∀ (n : Nat) (x3 : Int32) (x4 : Int32) (h : Hp), F_X12_props_29 x1 x2 n x3 x4 h = some r → J X ((.inl (some (.int r.1)), r.2)) 29 [(0, .ref 30), (1, .int x1), (2, .int x2), (3, .int x3), (4, .int x4)] [] h := by
  intro n
  induction n with
  | zero => intro x3 x4 h hf; exact nomatch hf
  | succ n ih => intro x3 x4 h hf; exact T_X12_props_29_s hX hdx x1 x2 _ (fun x3 x4 h hf => ih x3 x4 h hf) x3 x4 h hf
set_option maxRecDepth 100000 in
set_option maxHeartbeats 200000 in
theorem T_X12_props_0 {X : CX} (hX : Ok X cX12_props 5 RX12 (some .int)) (hdx : dX X = 16) {r : Int32 × Hp} (x1 : Int32) (h : Hp) (hf : f_X12_props x1 h = some r) : J X ((.inl (some (.int r.1)), r.2)) 0 [(0, .ref 30), (1, .int x1)] [] h := by
  unfold f_X12_props at hf
  refine J_aload_n hX 0 dX12_props_0 rfl rfl ?_
  refine J_iconst hX 0 dX12_props_1 rfl ?_
  obtain ⟨h_1, e_2, hf⟩ := bndE hf
  refine J_putI hX dX12_props_2 fl_X12_3 fw_10_0 ob_30 rfl rfl rfl ?_
  refine J_nmh e_2 ?_
  refine J_aload_n hX 0 dX12_props_5 rfl rfl ?_
  refine J_iload_n hX 1 dX12_props_6 rfl rfl ?_
  refine S_1 hX [.int x1] dX12_props_7 cw_X12_420 (C_X12_noEvening (okG hX) rfl) (ltD hdx rfl) rfl rfl rfl rfl ?_
  refine J_iconst hX 1 dX12_props_10 rfl ?_
  obtain ⟨r_3, e_4, hf⟩ := bdE hf
  refine V_1 hX [.int (b2i (f_X12_noEvening x1 h_1)), .int 1] dX12_props_11 cw_X12_280 ob_30 rfl (C_X12_throwsIf (okG hX) e_4) (ltD hdx rfl) rfl rfl rfl rfl ?_
  rcases ifE hf with ⟨c_5, hf⟩ | ⟨c_5, hf⟩
  · refine J_if_eqF hX 19 dX12_props_14 rfl (b2iT c_5) ?_
    refine J_iconst hX 0 dX12_props_17 rfl ?_
    exact E_Ii hX dX12_props_18 hf
  · refine J_if_eqT hX 19 dX12_props_14 rfl (b2iF c_5) ?_
    refine J_aload_n hX 0 dX12_props_19 rfl rfl ?_
    obtain ⟨r_6, e_7, hf⟩ := bdE hf
    refine V_1 hX [] dX12_props_20 cw_X12_362 ob_30 rfl (C_X12_standing (okG hX) e_7) (ltD hdx rfl) rfl rfl rfl rfl ?_
    refine J_istore_n hX [(2, .int r_6), (0, .ref 30), (1, .int x1)] dX12_props_23 rfl rfl rfl ?_
    refine J_iconst hX (-1) dX12_props_24 rfl ?_
    refine J_istore_n hX [(3, .int (-1)), (2, .int r_6), (0, .ref 30), (1, .int x1)] dX12_props_25 rfl rfl rfl ?_
    refine J_iconst hX 0 dX12_props_26 rfl ?_
    refine J_istore hX [(4, .int 0), (3, .int (-1)), (2, .int r_6), (0, .ref 30), (1, .int x1)] dX12_props_27 rfl rfl ?_
    refine J_sub [3, 4, 2, 1, 0] [(0, .ref 30), (1, .int x1), (2, .int r_6), (3, .int (-1)), (4, .int 0)] rfl ?_
    exact T_X12_props_29 hX hdx x1 r_6 FU (-1) 0 r_3.2 hf
set_option maxRecDepth 100000 in
set_option maxHeartbeats 200000 in
theorem C_X12_props {G : GX} (hG : GOk G) {x1 : Int32} {h : Hp} {r : Int32 × Hp} (hf : f_X12_props x1 h = some r) : Ctr G 16 yX12_props cX12_props 5 (some .int) [.ref 30, .int x1] h ((.inl (some (.int r.1)), r.2)) :=
  Ctr_of hG RX12 rfl (by decide) rfl (fun X _ hdx hX => T_X12_props_0 hX hdx x1 h hf)
theorem dX12_isOrder_0 : decode cX12_isOrder 0 = .ok (.aload_n 0, 1) := by decide +kernel
theorem dX12_isOrder_1 : decode cX12_isOrder 1 = .ok (.getfield 120, 3) := by decide +kernel
theorem dX12_isOrder_4 : decode cX12_isOrder 4 = .ok (.iconst 5, 1) := by decide +kernel
theorem dX12_isOrder_5 : decode cX12_isOrder 5 = .ok (.if_icmp .gt 7, 3) := by decide +kernel
theorem dX12_isOrder_8 : decode cX12_isOrder 8 = .ok (.iconst 1, 1) := by decide +kernel
theorem dX12_isOrder_9 : decode cX12_isOrder 9 = .ok (.goto 4, 3) := by decide +kernel
theorem dX12_isOrder_12 : decode cX12_isOrder 12 = .ok (.iconst 0, 1) := by decide +kernel
theorem dX12_isOrder_13 : decode cX12_isOrder 13 = .ok (.istore_n 1, 1) := by decide +kernel
theorem dX12_isOrder_14 : decode cX12_isOrder 14 = .ok (.iconst 0, 1) := by decide +kernel
theorem dX12_isOrder_15 : decode cX12_isOrder 15 = .ok (.istore_n 2, 1) := by decide +kernel
theorem dX12_isOrder_16 : decode cX12_isOrder 16 = .ok (.iconst 0, 1) := by decide +kernel
theorem dX12_isOrder_17 : decode cX12_isOrder 17 = .ok (.istore_n 3, 1) := by decide +kernel
theorem dX12_isOrder_18 : decode cX12_isOrder 18 = .ok (.iload_n 3, 1) := by decide +kernel
theorem dX12_isOrder_19 : decode cX12_isOrder 19 = .ok (.aload_n 0, 1) := by decide +kernel
theorem dX12_isOrder_20 : decode cX12_isOrder 20 = .ok (.getfield 120, 3) := by decide +kernel
theorem dX12_isOrder_23 : decode cX12_isOrder 23 = .ok (.if_icmp .ge 77, 3) := by decide +kernel
theorem dX12_isOrder_26 : decode cX12_isOrder 26 = .ok (.iload_n 1, 1) := by decide +kernel
theorem dX12_isOrder_27 : decode cX12_isOrder 27 = .ok (.ifCond .eq 73, 3) := by decide +kernel
theorem dX12_isOrder_30 : decode cX12_isOrder 30 = .ok (.aload_n 0, 1) := by decide +kernel
theorem dX12_isOrder_31 : decode cX12_isOrder 31 = .ok (.aload_n 0, 1) := by decide +kernel
theorem dX12_isOrder_32 : decode cX12_isOrder 32 = .ok (.getfield 35, 3) := by decide +kernel
theorem dX12_isOrder_35 : decode cX12_isOrder 35 = .ok (.iload_n 3, 1) := by decide +kernel
theorem dX12_isOrder_36 : decode cX12_isOrder 36 = .ok (.baload, 1) := by decide +kernel
theorem dX12_isOrder_37 : decode cX12_isOrder 37 = .ok (.invokevirtual 392, 3) := by decide +kernel
theorem dX12_isOrder_40 : decode cX12_isOrder 40 = .ok (.ifCond .ne 33, 3) := by decide +kernel
theorem dX12_isOrder_43 : decode cX12_isOrder 43 = .ok (.aload_n 0, 1) := by decide +kernel
theorem dX12_isOrder_44 : decode cX12_isOrder 44 = .ok (.aload_n 0, 1) := by decide +kernel
theorem dX12_isOrder_45 : decode cX12_isOrder 45 = .ok (.getfield 35, 3) := by decide +kernel
theorem dX12_isOrder_48 : decode cX12_isOrder 48 = .ok (.iload_n 3, 1) := by decide +kernel
theorem dX12_isOrder_49 : decode cX12_isOrder 49 = .ok (.baload, 1) := by decide +kernel
theorem dX12_isOrder_50 : decode cX12_isOrder 50 = .ok (.invokevirtual 91, 3) := by decide +kernel
theorem dX12_isOrder_53 : decode cX12_isOrder 53 = .ok (.ifCond .ne 20, 3) := by decide +kernel
theorem dX12_isOrder_56 : decode cX12_isOrder 56 = .ok (.iload_n 2, 1) := by decide +kernel
theorem dX12_isOrder_57 : decode cX12_isOrder 57 = .ok (.aload_n 0, 1) := by decide +kernel
theorem dX12_isOrder_58 : decode cX12_isOrder 58 = .ok (.getfield 35, 3) := by decide +kernel
theorem dX12_isOrder_61 : decode cX12_isOrder 61 = .ok (.iload_n 3, 1) := by decide +kernel
theorem dX12_isOrder_62 : decode cX12_isOrder 62 = .ok (.baload, 1) := by decide +kernel
theorem dX12_isOrder_63 : decode cX12_isOrder 63 = .ok (.invokestatic 289, 3) := by decide +kernel
theorem dX12_isOrder_66 : decode cX12_isOrder 66 = .ok (.ifCond .ne 7, 3) := by decide +kernel
theorem dX12_isOrder_69 : decode cX12_isOrder 69 = .ok (.iconst 1, 1) := by decide +kernel
theorem dX12_isOrder_70 : decode cX12_isOrder 70 = .ok (.goto 4, 3) := by decide +kernel
theorem dX12_isOrder_73 : decode cX12_isOrder 73 = .ok (.iconst 0, 1) := by decide +kernel
theorem dX12_isOrder_74 : decode cX12_isOrder 74 = .ok (.istore_n 1, 1) := by decide +kernel
theorem dX12_isOrder_75 : decode cX12_isOrder 75 = .ok (.iload_n 2, 1) := by decide +kernel
theorem dX12_isOrder_76 : decode cX12_isOrder 76 = .ok (.iload_n 1, 1) := by decide +kernel
theorem dX12_isOrder_77 : decode cX12_isOrder 77 = .ok (.ifCond .eq 14, 3) := by decide +kernel
theorem dX12_isOrder_80 : decode cX12_isOrder 80 = .ok (.iconst 1, 1) := by decide +kernel
theorem dX12_isOrder_81 : decode cX12_isOrder 81 = .ok (.aload_n 0, 1) := by decide +kernel
theorem dX12_isOrder_82 : decode cX12_isOrder 82 = .ok (.getfield 35, 3) := by decide +kernel
theorem dX12_isOrder_85 : decode cX12_isOrder 85 = .ok (.iload_n 3, 1) := by decide +kernel
theorem dX12_isOrder_86 : decode cX12_isOrder 86 = .ok (.baload, 1) := by decide +kernel
theorem dX12_isOrder_87 : decode cX12_isOrder 87 = .ok (.ishl, 1) := by decide +kernel
theorem dX12_isOrder_88 : decode cX12_isOrder 88 = .ok (.goto 4, 3) := by decide +kernel
theorem dX12_isOrder_91 : decode cX12_isOrder 91 = .ok (.iconst 0, 1) := by decide +kernel
theorem dX12_isOrder_92 : decode cX12_isOrder 92 = .ok (.ior, 1) := by decide +kernel
theorem dX12_isOrder_93 : decode cX12_isOrder 93 = .ok (.istore_n 2, 1) := by decide +kernel
theorem dX12_isOrder_94 : decode cX12_isOrder 94 = .ok (.iinc 3 1, 3) := by decide +kernel
theorem dX12_isOrder_97 : decode cX12_isOrder 97 = .ok (.goto (-79), 3) := by decide +kernel
theorem dX12_isOrder_100 : decode cX12_isOrder 100 = .ok (.iload_n 1, 1) := by decide +kernel
theorem dX12_isOrder_101 : decode cX12_isOrder 101 = .ok (.ireturn, 1) := by decide +kernel
set_option maxRecDepth 100000 in
set_option maxHeartbeats 200000 in
theorem T_X12_isOrder_92 {X : CX} (hX : Ok X cX12_isOrder 4 RX12 (some .boolean)) (hdx : dX X = 5) {r : Bool} (h : Hp) (x1 : Int32) (x3 : Int32) (t0 : Int32) (t1 : Int32) (q_18 : Int32 → Int32 → Int32 → Option Bool) (hq_18 : ∀ (x1 : Int32) (x2 : Int32) (x3 : Int32), q_18 x1 x2 x3 = some r → J X ((.inl (some (.int (b2i r))), h)) 18 [(0, .ref 30), (1, .int x1), (2, .int x2), (3, .int x3)] [] h) (hf : F_X12_isOrder_92 q_18 h x1 x3 t0 t1 = some r) : J X ((.inl (some (.int (b2i r))), h)) 92 [(0, .ref 30), (1, .int x1), (3, .int x3)] [.int t0, .int t1] h := by
  unfold F_X12_isOrder_92 at hf
  refine J_ior hX dX12_isOrder_92 ?_
  obtain ⟨x2_1, e_2, hf⟩ := bndE hf
  refine J_nm e_2 ?_
  refine J_istore_n hX [(2, .int x2_1), (0, .ref 30), (1, .int x1), (3, .int x3)] dX12_isOrder_93 rfl rfl rfl ?_
  refine J_iinc hX (x3 + 1) 3 [(3, .int (x3 + 1)), (2, .int x2_1), (0, .ref 30), (1, .int x1)] dX12_isOrder_94 rfl rfl rfl rfl ?_
  refine J_goto hX 18 dX12_isOrder_97 rfl ?_
  refine J_sub [2, 3, 1, 0] [(0, .ref 30), (1, .int x1), (2, .int x2_1), (3, .int (x3 + 1))] rfl ?_
  exact hq_18 x1 x2_1 (x3 + 1) hf
set_option maxRecDepth 100000 in
set_option maxHeartbeats 200000 in
theorem T_X12_isOrder_74 {X : CX} (hX : Ok X cX12_isOrder 4 RX12 (some .boolean)) (hdx : dX X = 5) {r : Bool} (h : Hp) (x2 : Int32) (x3 : Int32) (t0 : Int32) (q_18 : Int32 → Int32 → Int32 → Option Bool) (hq_18 : ∀ (x1 : Int32) (x2 : Int32) (x3 : Int32), q_18 x1 x2 x3 = some r → J X ((.inl (some (.int (b2i r))), h)) 18 [(0, .ref 30), (1, .int x1), (2, .int x2), (3, .int x3)] [] h) (hf : F_X12_isOrder_74 q_18 h x2 x3 t0 = some r) : J X ((.inl (some (.int (b2i r))), h)) 74 [(0, .ref 30), (2, .int x2), (3, .int x3)] [.int t0] h := by
  unfold F_X12_isOrder_74 at hf
  refine J_istore_n hX [(1, .int t0), (0, .ref 30), (2, .int x2), (3, .int x3)] dX12_isOrder_74 rfl rfl rfl ?_
  refine J_iload_n hX 2 dX12_isOrder_75 rfl rfl ?_
  refine J_iload_n hX 0 dX12_isOrder_76 rfl rfl ?_
  rcases ifE hf with ⟨c_1, hf⟩ | ⟨c_1, hf⟩
  · refine J_if_eqT hX 91 dX12_isOrder_77 rfl c_1 ?_
    refine J_iconst hX 0 dX12_isOrder_91 rfl ?_
    refine J_sub [1, 0, 3] [(0, .ref 30), (1, .int t0), (3, .int x3)] rfl ?_
    exact T_X12_isOrder_92 hX hdx h t0 x3 0 x2 q_18 hq_18 hf
  · refine J_if_eqF hX 91 dX12_isOrder_77 rfl c_1 ?_
    refine J_iconst hX 1 dX12_isOrder_80 rfl ?_
    refine J_aload_n hX 1 dX12_isOrder_81 rfl rfl ?_
    refine J_getR hX 38 dX12_isOrder_82 fl_X12_35 ob_30 rfl rfl ?_
    refine J_iload_n hX 3 dX12_isOrder_85 rfl rfl ?_
    obtain ⟨g_2, hf⟩ := gdE hf
    refine J_ald hX x3.toNatClampNeg dX12_isOrder_86 ar_38 (Or.inr (Or.inl ⟨rfl, rfl⟩)) g_2 rfl ?_
    refine J_ishl hX dX12_isOrder_87 ?_
    refine J_goto hX 92 dX12_isOrder_88 rfl ?_
    refine J_sub [1, 0, 3] [(0, .ref 30), (1, .int t0), (3, .int x3)] rfl ?_
    exact T_X12_isOrder_92 hX hdx h t0 x3 (shl 1 (h 38 x3.toNatClampNeg)) x2 q_18 hq_18 hf
set_option maxRecDepth 100000 in
set_option maxHeartbeats 200000 in
theorem T_X12_isOrder_18_s {X : CX} (hX : Ok X cX12_isOrder 4 RX12 (some .boolean)) (hdx : dX X = 5) {r : Bool} (h : Hp) (q_18 : Int32 → Int32 → Int32 → Option Bool) (hq_18 : ∀ (x1 : Int32) (x2 : Int32) (x3 : Int32), q_18 x1 x2 x3 = some r → J X ((.inl (some (.int (b2i r))), h)) 18 [(0, .ref 30), (1, .int x1), (2, .int x2), (3, .int x3)] [] h) (x1 : Int32) (x2 : Int32) (x3 : Int32) (hf : S_X12_isOrder_18 h q_18 x1 x2 x3 = some r) : J X ((.inl (some (.int (b2i r))), h)) 18 [(0, .ref 30), (1, .int x1), (2, .int x2), (3, .int x3)] [] h := by
  unfold S_X12_isOrder_18 at hf
  refine J_iload_n hX 3 dX12_isOrder_18 rfl rfl ?_
  refine J_aload_n hX 0 dX12_isOrder_19 rfl rfl ?_
  refine J_getI hX dX12_isOrder_20 fl_X12_120 ob_30 rfl ?_
  rcases ifE hf with ⟨c_1, hf⟩ | ⟨c_1, hf⟩
  · refine J_icmp_geF hX 100 dX12_isOrder_23 rfl c_1 ?_
    refine J_iload_n hX 1 dX12_isOrder_26 rfl rfl ?_
    rcases ifE hf with ⟨c_2, hf⟩ | ⟨c_2, hf⟩
    · refine J_if_eqT hX 100 dX12_isOrder_27 rfl c_2 ?_
      refine J_iload_n hX 1 dX12_isOrder_100 rfl rfl ?_
      obtain ⟨b_3, e_4, hf⟩ := bdE hf
      exact E_Zp hX dX12_isOrder_101 (toBE e_4) hf
    · refine J_if_eqF hX 100 dX12_isOrder_27 rfl c_2 ?_
      refine J_aload_n hX 0 dX12_isOrder_30 rfl rfl ?_
      refine J_aload_n hX 0 dX12_isOrder_31 rfl rfl ?_
      refine J_getR hX 38 dX12_isOrder_32 fl_X12_35 ob_30 rfl rfl ?_
      refine J_iload_n hX 3 dX12_isOrder_35 rfl rfl ?_
      obtain ⟨g_5, hf⟩ := gdE hf
      refine J_ald hX x3.toNatClampNeg dX12_isOrder_36 ar_38 (Or.inr (Or.inl ⟨rfl, rfl⟩)) g_5 rfl ?_
      refine V_1 hX [.int (h 38 x3.toNatClampNeg)] dX12_isOrder_37 cw_X12_392 ob_30 rfl (C_X12_noHouse (okG hX) rfl) (ltD hdx rfl) rfl rfl rfl rfl ?_
      rcases ifE hf with ⟨c_6, hf⟩ | ⟨c_6, hf⟩
      · refine J_if_neT hX 73 dX12_isOrder_40 rfl (b2iT c_6) ?_
        refine J_iconst hX 0 dX12_isOrder_73 rfl ?_
        refine J_sub [0, 2, 3] [(0, .ref 30), (2, .int x2), (3, .int x3)] rfl ?_
        exact T_X12_isOrder_74 hX hdx h x2 x3 0 q_18 hq_18 hf
      · refine J_if_neF hX 73 dX12_isOrder_40 rfl (b2iF c_6) ?_
        refine J_aload_n hX 0 dX12_isOrder_43 rfl rfl ?_
        refine J_aload_n hX 0 dX12_isOrder_44 rfl rfl ?_
        refine J_getR hX 38 dX12_isOrder_45 fl_X12_35 ob_30 rfl rfl ?_
        refine J_iload_n hX 3 dX12_isOrder_48 rfl rfl ?_
        obtain ⟨g_7, hf⟩ := gdE hf
        refine J_ald hX x3.toNatClampNeg dX12_isOrder_49 ar_38 (Or.inr (Or.inl ⟨rfl, rfl⟩)) g_7 rfl ?_
        obtain ⟨r_8, e_9, hf⟩ := bdE hf
        refine V_1 hX [.int (h 38 x3.toNatClampNeg)] dX12_isOrder_50 cw_X12_91 ob_30 rfl (C_X12_isFallen (okG hX) e_9) (ltD hdx rfl) rfl rfl rfl rfl ?_
        rcases ifE hf with ⟨c_10, hf⟩ | ⟨c_10, hf⟩
        · refine J_if_neT hX 73 dX12_isOrder_53 rfl (b2iT c_10) ?_
          refine J_iconst hX 0 dX12_isOrder_73 rfl ?_
          refine J_sub [0, 2, 3] [(0, .ref 30), (2, .int x2), (3, .int x3)] rfl ?_
          exact T_X12_isOrder_74 hX hdx h x2 x3 0 q_18 hq_18 hf
        · refine J_if_neF hX 73 dX12_isOrder_53 rfl (b2iF c_10) ?_
          refine J_iload_n hX 2 dX12_isOrder_56 rfl rfl ?_
          refine J_aload_n hX 0 dX12_isOrder_57 rfl rfl ?_
          refine J_getR hX 38 dX12_isOrder_58 fl_X12_35 ob_30 rfl rfl ?_
          refine J_iload_n hX 3 dX12_isOrder_61 rfl rfl ?_
          obtain ⟨g_11, hf⟩ := gdE hf
          refine J_ald hX x3.toNatClampNeg dX12_isOrder_62 ar_38 (Or.inr (Or.inl ⟨rfl, rfl⟩)) g_11 rfl ?_
          refine S_1 hX [.int x2, .int (h 38 x3.toNatClampNeg)] dX12_isOrder_63 cw_X12_289 (C_X12_has (okG hX) rfl) (ltD hdx rfl) rfl rfl rfl rfl ?_
          rcases ifE hf with ⟨c_12, hf⟩ | ⟨c_12, hf⟩
          · refine J_if_neT hX 73 dX12_isOrder_66 rfl (b2iT c_12) ?_
            refine J_iconst hX 0 dX12_isOrder_73 rfl ?_
            refine J_sub [0, 2, 3] [(0, .ref 30), (2, .int x2), (3, .int x3)] rfl ?_
            exact T_X12_isOrder_74 hX hdx h x2 x3 0 q_18 hq_18 hf
          · refine J_if_neF hX 73 dX12_isOrder_66 rfl (b2iF c_12) ?_
            refine J_iconst hX 1 dX12_isOrder_69 rfl ?_
            refine J_goto hX 74 dX12_isOrder_70 rfl ?_
            refine J_sub [0, 2, 3] [(0, .ref 30), (2, .int x2), (3, .int x3)] rfl ?_
            exact T_X12_isOrder_74 hX hdx h x2 x3 1 q_18 hq_18 hf
  · refine J_icmp_geT hX 100 dX12_isOrder_23 rfl c_1 ?_
    refine J_iload_n hX 1 dX12_isOrder_100 rfl rfl ?_
    obtain ⟨b_13, e_14, hf⟩ := bdE hf
    exact E_Zp hX dX12_isOrder_101 (toBE e_14) hf
set_option maxRecDepth 100000 in
set_option maxHeartbeats 200000 in
theorem T_X12_isOrder_18 {X : CX} (hX : Ok X cX12_isOrder 4 RX12 (some .boolean)) (hdx : dX X = 5) {r : Bool} (h : Hp) : ∀ (n : Nat) (x1 : Int32) (x2 : Int32) (x3 : Int32), F_X12_isOrder_18 h n x1 x2 x3 = some r → J X ((.inl (some (.int (b2i r))), h)) 18 [(0, .ref 30), (1, .int x1), (2, .int x2), (3, .int x3)] [] h := by
  intro n
  induction n with
  | zero => intro x1 x2 x3 hf; exact nomatch hf
  | succ n ih => intro x1 x2 x3 hf; exact T_X12_isOrder_18_s hX hdx h _ (fun x1 x2 x3 hf => ih x1 x2 x3 hf) x1 x2 x3 hf
set_option maxRecDepth 100000 in
set_option maxHeartbeats 200000 in
theorem T_X12_isOrder_13 {X : CX} (hX : Ok X cX12_isOrder 4 RX12 (some .boolean)) (hdx : dX X = 5) {r : Bool} (h : Hp) (t0 : Int32) (hf : F_X12_isOrder_13 h t0 = some r) : J X ((.inl (some (.int (b2i r))), h)) 13 [(0, .ref 30)] [.int t0] h := by
  unfold F_X12_isOrder_13 at hf
  refine J_istore_n hX [(1, .int t0), (0, .ref 30)] dX12_isOrder_13 rfl rfl rfl ?_
  refine J_iconst hX 0 dX12_isOrder_14 rfl ?_
  refine J_istore_n hX [(2, .int 0), (1, .int t0), (0, .ref 30)] dX12_isOrder_15 rfl rfl rfl ?_
  refine J_iconst hX 0 dX12_isOrder_16 rfl ?_
  refine J_istore_n hX [(3, .int 0), (2, .int 0), (1, .int t0), (0, .ref 30)] dX12_isOrder_17 rfl rfl rfl ?_
  refine J_sub [3, 2, 1, 0] [(0, .ref 30), (1, .int t0), (2, .int 0), (3, .int 0)] rfl ?_
  exact T_X12_isOrder_18 hX hdx h FU t0 0 0 hf
set_option maxRecDepth 100000 in
set_option maxHeartbeats 200000 in
theorem T_X12_isOrder_0 {X : CX} (hX : Ok X cX12_isOrder 4 RX12 (some .boolean)) (hdx : dX X = 5) {r : Bool} (h : Hp) (hf : f_X12_isOrder h = some r) : J X ((.inl (some (.int (b2i r))), h)) 0 [(0, .ref 30)] [] h := by
  unfold f_X12_isOrder at hf
  refine J_aload_n hX 0 dX12_isOrder_0 rfl rfl ?_
  refine J_getI hX dX12_isOrder_1 fl_X12_120 ob_30 rfl ?_
  refine J_iconst hX 5 dX12_isOrder_4 rfl ?_
  rcases ifE hf with ⟨c_1, hf⟩ | ⟨c_1, hf⟩
  · refine J_icmp_gtT hX 12 dX12_isOrder_5 rfl c_1 ?_
    refine J_iconst hX 0 dX12_isOrder_12 rfl ?_
    exact T_X12_isOrder_13 hX hdx h 0 hf
  · refine J_icmp_gtF hX 12 dX12_isOrder_5 rfl c_1 ?_
    refine J_iconst hX 1 dX12_isOrder_8 rfl ?_
    refine J_goto hX 13 dX12_isOrder_9 rfl ?_
    exact T_X12_isOrder_13 hX hdx h 1 hf
set_option maxRecDepth 100000 in
set_option maxHeartbeats 200000 in
theorem C_X12_isOrder {G : GX} (hG : GOk G) {h : Hp} {r : Bool} (hf : f_X12_isOrder h = some r) : Ctr G 5 yX12_isOrder cX12_isOrder 4 (some .boolean) [.ref 30] h ((.inl (some (.int (b2i r))), h)) :=
  Ctr_of hG RX12 rfl (by decide) rfl (fun X _ hdx hX => T_X12_isOrder_0 hX hdx h hf)
theorem dX12_stepsOfRow_0 : decode cX12_stepsOfRow 0 = .ok (.aload_n 0, 1) := by decide +kernel
theorem dX12_stepsOfRow_1 : decode cX12_stepsOfRow 1 = .ok (.invokevirtual 356, 3) := by decide +kernel
theorem dX12_stepsOfRow_4 : decode cX12_stepsOfRow 4 = .ok (.iconst 0, 1) := by decide +kernel
theorem dX12_stepsOfRow_5 : decode cX12_stepsOfRow 5 = .ok (.istore_n 1, 1) := by decide +kernel
theorem dX12_stepsOfRow_6 : decode cX12_stepsOfRow 6 = .ok (.iconst 0, 1) := by decide +kernel
theorem dX12_stepsOfRow_7 : decode cX12_stepsOfRow 7 = .ok (.istore_n 2, 1) := by decide +kernel
theorem dX12_stepsOfRow_8 : decode cX12_stepsOfRow 8 = .ok (.iload_n 2, 1) := by decide +kernel
theorem dX12_stepsOfRow_9 : decode cX12_stepsOfRow 9 = .ok (.aload_n 0, 1) := by decide +kernel
theorem dX12_stepsOfRow_10 : decode cX12_stepsOfRow 10 = .ok (.getfield 120, 3) := by decide +kernel
theorem dX12_stepsOfRow_13 : decode cX12_stepsOfRow 13 = .ok (.if_icmp .ge 55, 3) := by decide +kernel
theorem dX12_stepsOfRow_16 : decode cX12_stepsOfRow 16 = .ok (.aload_n 0, 1) := by decide +kernel
theorem dX12_stepsOfRow_17 : decode cX12_stepsOfRow 17 = .ok (.aload_n 0, 1) := by decide +kernel
theorem dX12_stepsOfRow_18 : decode cX12_stepsOfRow 18 = .ok (.getfield 48, 3) := by decide +kernel
theorem dX12_stepsOfRow_21 : decode cX12_stepsOfRow 21 = .ok (.iload_n 2, 1) := by decide +kernel
theorem dX12_stepsOfRow_22 : decode cX12_stepsOfRow 22 = .ok (.iaload, 1) := by decide +kernel
theorem dX12_stepsOfRow_23 : decode cX12_stepsOfRow 23 = .ok (.invokevirtual 91, 3) := by decide +kernel
theorem dX12_stepsOfRow_26 : decode cX12_stepsOfRow 26 = .ok (.ifCond .eq 6, 3) := by decide +kernel
theorem dX12_stepsOfRow_29 : decode cX12_stepsOfRow 29 = .ok (.goto 33, 3) := by decide +kernel
theorem dX12_stepsOfRow_32 : decode cX12_stepsOfRow 32 = .ok (.aload_n 0, 1) := by decide +kernel
theorem dX12_stepsOfRow_33 : decode cX12_stepsOfRow 33 = .ok (.aload_n 0, 1) := by decide +kernel
theorem dX12_stepsOfRow_34 : decode cX12_stepsOfRow 34 = .ok (.getfield 48, 3) := by decide +kernel
theorem dX12_stepsOfRow_37 : decode cX12_stepsOfRow 37 = .ok (.iload_n 2, 1) := by decide +kernel
theorem dX12_stepsOfRow_38 : decode cX12_stepsOfRow 38 = .ok (.iaload, 1) := by decide +kernel
theorem dX12_stepsOfRow_39 : decode cX12_stepsOfRow 39 = .ok (.invokevirtual 344, 3) := by decide +kernel
theorem dX12_stepsOfRow_42 : decode cX12_stepsOfRow 42 = .ok (.iload_n 1, 1) := by decide +kernel
theorem dX12_stepsOfRow_43 : decode cX12_stepsOfRow 43 = .ok (.iload_n 2, 1) := by decide +kernel
theorem dX12_stepsOfRow_44 : decode cX12_stepsOfRow 44 = .ok (.iconst 1, 1) := by decide +kernel
theorem dX12_stepsOfRow_45 : decode cX12_stepsOfRow 45 = .ok (.aload_n 0, 1) := by decide +kernel
theorem dX12_stepsOfRow_46 : decode cX12_stepsOfRow 46 = .ok (.aload_n 0, 1) := by decide +kernel
theorem dX12_stepsOfRow_47 : decode cX12_stepsOfRow 47 = .ok (.getfield 13, 3) := by decide +kernel
theorem dX12_stepsOfRow_50 : decode cX12_stepsOfRow 50 = .ok (.iconst 4, 1) := by decide +kernel
theorem dX12_stepsOfRow_51 : decode cX12_stepsOfRow 51 = .ok (.iaload, 1) := by decide +kernel
theorem dX12_stepsOfRow_52 : decode cX12_stepsOfRow 52 = .ok (.invokevirtual 350, 3) := by decide +kernel
theorem dX12_stepsOfRow_55 : decode cX12_stepsOfRow 55 = .ok (.invokestatic 368, 3) := by decide +kernel
theorem dX12_stepsOfRow_58 : decode cX12_stepsOfRow 58 = .ok (.iadd, 1) := by decide +kernel
theorem dX12_stepsOfRow_59 : decode cX12_stepsOfRow 59 = .ok (.imul, 1) := by decide +kernel
theorem dX12_stepsOfRow_60 : decode cX12_stepsOfRow 60 = .ok (.iadd, 1) := by decide +kernel
theorem dX12_stepsOfRow_61 : decode cX12_stepsOfRow 61 = .ok (.istore_n 1, 1) := by decide +kernel
theorem dX12_stepsOfRow_62 : decode cX12_stepsOfRow 62 = .ok (.iinc 2 1, 3) := by decide +kernel
theorem dX12_stepsOfRow_65 : decode cX12_stepsOfRow 65 = .ok (.goto (-57), 3) := by decide +kernel
theorem dX12_stepsOfRow_68 : decode cX12_stepsOfRow 68 = .ok (.aload_n 0, 1) := by decide +kernel
theorem dX12_stepsOfRow_69 : decode cX12_stepsOfRow 69 = .ok (.invokevirtual 353, 3) := by decide +kernel
theorem dX12_stepsOfRow_72 : decode cX12_stepsOfRow 72 = .ok (.iload_n 1, 1) := by decide +kernel
theorem dX12_stepsOfRow_73 : decode cX12_stepsOfRow 73 = .ok (.ireturn, 1) := by decide +kernel
set_option maxRecDepth 100000 in
set_option maxHeartbeats 200000 in
theorem T_X12_stepsOfRow_8_s {X : CX} (hX : Ok X cX12_stepsOfRow 3 RX12 (some .int)) (hdx : dX X = 13) {r : Int32 × Hp} (q_8 : Int32 → Int32 → Hp → Option (Int32 × Hp)) (hq_8 : ∀ (x1 : Int32) (x2 : Int32) (h : Hp), q_8 x1 x2 h = some r → J X ((.inl (some (.int r.1)), r.2)) 8 [(0, .ref 30), (1, .int x1), (2, .int x2)] [] h) (x1 : Int32) (x2 : Int32) (h : Hp) (hf : S_X12_stepsOfRow_8 q_8 x1 x2 h = some r) : J X ((.inl (some (.int r.1)), r.2)) 8 [(0, .ref 30), (1, .int x1), (2, .int x2)] [] h := by
  unfold S_X12_stepsOfRow_8 at hf
  refine J_iload_n hX 2 dX12_stepsOfRow_8 rfl rfl ?_
  refine J_aload_n hX 0 dX12_stepsOfRow_9 rfl rfl ?_
  refine J_getI hX dX12_stepsOfRow_10 fl_X12_120 ob_30 rfl ?_
  rcases ifE hf with ⟨c_1, hf⟩ | ⟨c_1, hf⟩
  · refine J_icmp_geF hX 68 dX12_stepsOfRow_13 rfl c_1 ?_
    refine J_aload_n hX 0 dX12_stepsOfRow_16 rfl rfl ?_
    refine J_aload_n hX 0 dX12_stepsOfRow_17 rfl rfl ?_
    refine J_getR hX 41 dX12_stepsOfRow_18 fl_X12_48 ob_30 rfl rfl ?_
    refine J_iload_n hX 2 dX12_stepsOfRow_21 rfl rfl ?_
    obtain ⟨g_2, hf⟩ := gdE hf
    refine J_ald hX x2.toNatClampNeg dX12_stepsOfRow_22 ar_41 (Or.inl ⟨rfl, rfl⟩) g_2 rfl ?_
    obtain ⟨r_3, e_4, hf⟩ := bdE hf
    refine V_1 hX [.int (h 41 x2.toNatClampNeg)] dX12_stepsOfRow_23 cw_X12_91 ob_30 rfl (C_X12_isFallen (okG hX) e_4) (ltD hdx rfl) rfl rfl rfl rfl ?_
    rcases ifE hf with ⟨c_5, hf⟩ | ⟨c_5, hf⟩
    · refine J_if_eqF hX 32 dX12_stepsOfRow_26 rfl (b2iT c_5) ?_
      refine J_goto hX 62 dX12_stepsOfRow_29 rfl ?_
      refine J_iinc hX (x2 + 1) 2 [(2, .int (x2 + 1)), (0, .ref 30), (1, .int x1)] dX12_stepsOfRow_62 rfl rfl rfl rfl ?_
      refine J_goto hX 8 dX12_stepsOfRow_65 rfl ?_
      refine J_sub [1, 2, 0] [(0, .ref 30), (1, .int x1), (2, .int (x2 + 1))] rfl ?_
      exact hq_8 x1 (x2 + 1) h hf
    · refine J_if_eqT hX 32 dX12_stepsOfRow_26 rfl (b2iF c_5) ?_
      refine J_aload_n hX 0 dX12_stepsOfRow_32 rfl rfl ?_
      refine J_aload_n hX 0 dX12_stepsOfRow_33 rfl rfl ?_
      refine J_getR hX 41 dX12_stepsOfRow_34 fl_X12_48 ob_30 rfl rfl ?_
      refine J_iload_n hX 2 dX12_stepsOfRow_37 rfl rfl ?_
      obtain ⟨g_6, hf⟩ := gdE hf
      refine J_ald hX x2.toNatClampNeg dX12_stepsOfRow_38 ar_41 (Or.inl ⟨rfl, rfl⟩) g_6 rfl ?_
      obtain ⟨r_7, e_8, hf⟩ := bdE hf
      refine V_0 hX [.int (h 41 x2.toNatClampNeg)] dX12_stepsOfRow_39 cw_X12_344 ob_30 rfl (C_X12_isGone (okG hX) e_8) (ltD hdx rfl) rfl rfl rfl rfl ?_
      refine J_iload_n hX 1 dX12_stepsOfRow_42 rfl rfl ?_
      refine J_iload_n hX 2 dX12_stepsOfRow_43 rfl rfl ?_
      refine J_iconst hX 1 dX12_stepsOfRow_44 rfl ?_
      refine J_aload_n hX 0 dX12_stepsOfRow_45 rfl rfl ?_
      refine J_aload_n hX 0 dX12_stepsOfRow_46 rfl rfl ?_
      refine J_getR hX 31 dX12_stepsOfRow_47 fl_X12_13 ob_30 rfl rfl ?_
      refine J_iconst hX 4 dX12_stepsOfRow_50 rfl ?_
      refine J_ald hX 4 dX12_stepsOfRow_51 ar_31 (Or.inl ⟨rfl, rfl⟩) (by decide) (by decide) ?_
      obtain ⟨r_9, e_10, hf⟩ := bdE hf
      refine V_1 hX [.int (r_7 31 4)] dX12_stepsOfRow_52 cw_X12_350 ob_30 rfl (C_X12_allFall (okG hX) e_10) (ltD hdx rfl) rfl rfl rfl rfl ?_
      refine S_1 hX [.int r_9.1] dX12_stepsOfRow_55 cw_X12_368 (C_J6_bitCount_0f7a4 (okG hX) rfl) (ltD hdx rfl) rfl rfl rfl rfl ?_
      refine J_iadd hX dX12_stepsOfRow_58 ?_
      refine J_imul hX dX12_stepsOfRow_59 ?_
      refine J_iadd hX dX12_stepsOfRow_60 ?_
      obtain ⟨x1_11, e_12, hf⟩ := bndE hf
      refine J_nm e_12 ?_
      refine J_istore_n hX [(1, .int x1_11), (0, .ref 30), (2, .int x2)] dX12_stepsOfRow_61 rfl rfl rfl ?_
      refine J_iinc hX (x2 + 1) 2 [(2, .int (x2 + 1)), (1, .int x1_11), (0, .ref 30)] dX12_stepsOfRow_62 rfl rfl rfl rfl ?_
      refine J_goto hX 8 dX12_stepsOfRow_65 rfl ?_
      refine J_sub [2, 1, 0] [(0, .ref 30), (1, .int x1_11), (2, .int (x2 + 1))] rfl ?_
      exact hq_8 x1_11 (x2 + 1) r_9.2 hf
  · refine J_icmp_geT hX 68 dX12_stepsOfRow_13 rfl c_1 ?_
    refine J_aload_n hX 0 dX12_stepsOfRow_68 rfl rfl ?_
    obtain ⟨r_13, e_14, hf⟩ := bdE hf
    refine V_0 hX [] dX12_stepsOfRow_69 cw_X12_353 ob_30 rfl (C_X12_bringsBack (okG hX) e_14) (ltD hdx rfl) rfl rfl rfl rfl ?_
    refine J_iload_n hX 1 dX12_stepsOfRow_72 rfl rfl ?_
    exact E_Ii hX dX12_stepsOfRow_73 hf
set_option maxRecDepth 100000 in
set_option maxHeartbeats 200000 in
theorem T_X12_stepsOfRow_8 {X : CX} (hX : Ok X cX12_stepsOfRow 3 RX12 (some .int)) (hdx : dX X = 13) {r : Int32 × Hp} : ∀ (n : Nat) (x1 : Int32) (x2 : Int32) (h : Hp), F_X12_stepsOfRow_8 n x1 x2 h = some r → J X ((.inl (some (.int r.1)), r.2)) 8 [(0, .ref 30), (1, .int x1), (2, .int x2)] [] h := by
  intro n
  induction n with
  | zero => intro x1 x2 h hf; exact nomatch hf
  | succ n ih => intro x1 x2 h hf; exact T_X12_stepsOfRow_8_s hX hdx _ (fun x1 x2 h hf => ih x1 x2 h hf) x1 x2 h hf
set_option maxRecDepth 100000 in
set_option maxHeartbeats 200000 in
theorem T_X12_stepsOfRow_0 {X : CX} (hX : Ok X cX12_stepsOfRow 3 RX12 (some .int)) (hdx : dX X = 13) {r : Int32 × Hp} (h : Hp) (hf : f_X12_stepsOfRow h = some r) : J X ((.inl (some (.int r.1)), r.2)) 0 [(0, .ref 30)] [] h := by
  unfold f_X12_stepsOfRow at hf
  refine J_aload_n hX 0 dX12_stepsOfRow_0 rfl rfl ?_
  obtain ⟨r_1, e_2, hf⟩ := bdE hf
  refine V_0 hX [] dX12_stepsOfRow_1 cw_X12_356 ob_30 rfl (C_X12_keepsAll (okG hX) e_2) (ltD hdx rfl) rfl rfl rfl rfl ?_
  refine J_iconst hX 0 dX12_stepsOfRow_4 rfl ?_
  refine J_istore_n hX [(1, .int 0), (0, .ref 30)] dX12_stepsOfRow_5 rfl rfl rfl ?_
  refine J_iconst hX 0 dX12_stepsOfRow_6 rfl ?_
  refine J_istore_n hX [(2, .int 0), (1, .int 0), (0, .ref 30)] dX12_stepsOfRow_7 rfl rfl rfl ?_
  refine J_sub [2, 1, 0] [(0, .ref 30), (1, .int 0), (2, .int 0)] rfl ?_
  exact T_X12_stepsOfRow_8 hX hdx FU 0 0 r_1 hf
set_option maxRecDepth 100000 in
set_option maxHeartbeats 200000 in
theorem C_X12_stepsOfRow {G : GX} (hG : GOk G) {h : Hp} {r : Int32 × Hp} (hf : f_X12_stepsOfRow h = some r) : Ctr G 13 yX12_stepsOfRow cX12_stepsOfRow 3 (some .int) [.ref 30] h ((.inl (some (.int r.1)), r.2)) :=
  Ctr_of hG RX12 rfl (by decide) rfl (fun X _ hdx hX => T_X12_stepsOfRow_0 hX hdx h hf)
theorem dX12_laysRow_0 : decode cX12_laysRow 0 = .ok (.iload_n 1, 1) := by decide +kernel
theorem dX12_laysRow_1 : decode cX12_laysRow 1 = .ok (.istore_n 2, 1) := by decide +kernel
theorem dX12_laysRow_2 : decode cX12_laysRow 2 = .ok (.iconst 0, 1) := by decide +kernel
theorem dX12_laysRow_3 : decode cX12_laysRow 3 = .ok (.istore_n 3, 1) := by decide +kernel
theorem dX12_laysRow_4 : decode cX12_laysRow 4 = .ok (.aload_n 0, 1) := by decide +kernel
theorem dX12_laysRow_5 : decode cX12_laysRow 5 = .ok (.getfield 120, 3) := by decide +kernel
theorem dX12_laysRow_8 : decode cX12_laysRow 8 = .ok (.iconst 1, 1) := by decide +kernel
theorem dX12_laysRow_9 : decode cX12_laysRow 9 = .ok (.isub, 1) := by decide +kernel
theorem dX12_laysRow_10 : decode cX12_laysRow 10 = .ok (.istore 4, 2) := by decide +kernel
theorem dX12_laysRow_12 : decode cX12_laysRow 12 = .ok (.iload 4, 2) := by decide +kernel
theorem dX12_laysRow_14 : decode cX12_laysRow 14 = .ok (.ifCond .lt 36, 3) := by decide +kernel
theorem dX12_laysRow_17 : decode cX12_laysRow 17 = .ok (.iload_n 2, 1) := by decide +kernel
theorem dX12_laysRow_18 : decode cX12_laysRow 18 = .ok (.bipush 8, 2) := by decide +kernel
theorem dX12_laysRow_20 : decode cX12_laysRow 20 = .ok (.irem, 1) := by decide +kernel
theorem dX12_laysRow_21 : decode cX12_laysRow 21 = .ok (.istore 5, 2) := by decide +kernel
theorem dX12_laysRow_23 : decode cX12_laysRow 23 = .ok (.iload_n 2, 1) := by decide +kernel
theorem dX12_laysRow_24 : decode cX12_laysRow 24 = .ok (.bipush 8, 2) := by decide +kernel
theorem dX12_laysRow_26 : decode cX12_laysRow 26 = .ok (.idiv, 1) := by decide +kernel
theorem dX12_laysRow_27 : decode cX12_laysRow 27 = .ok (.istore_n 2, 1) := by decide +kernel
theorem dX12_laysRow_28 : decode cX12_laysRow 28 = .ok (.aload_n 0, 1) := by decide +kernel
theorem dX12_laysRow_29 : decode cX12_laysRow 29 = .ok (.getfield 48, 3) := by decide +kernel
theorem dX12_laysRow_32 : decode cX12_laysRow 32 = .ok (.iload 4, 2) := by decide +kernel
theorem dX12_laysRow_34 : decode cX12_laysRow 34 = .ok (.iload 5, 2) := by decide +kernel
theorem dX12_laysRow_36 : decode cX12_laysRow 36 = .ok (.iastore, 1) := by decide +kernel
theorem dX12_laysRow_37 : decode cX12_laysRow 37 = .ok (.iload_n 3, 1) := by decide +kernel
theorem dX12_laysRow_38 : decode cX12_laysRow 38 = .ok (.iconst 1, 1) := by decide +kernel
theorem dX12_laysRow_39 : decode cX12_laysRow 39 = .ok (.iload 5, 2) := by decide +kernel
theorem dX12_laysRow_41 : decode cX12_laysRow 41 = .ok (.ishl, 1) := by decide +kernel
theorem dX12_laysRow_42 : decode cX12_laysRow 42 = .ok (.ior, 1) := by decide +kernel
theorem dX12_laysRow_43 : decode cX12_laysRow 43 = .ok (.istore_n 3, 1) := by decide +kernel
theorem dX12_laysRow_44 : decode cX12_laysRow 44 = .ok (.iinc 4 (-1), 3) := by decide +kernel
theorem dX12_laysRow_47 : decode cX12_laysRow 47 = .ok (.goto (-35), 3) := by decide +kernel
theorem dX12_laysRow_50 : decode cX12_laysRow 50 = .ok (.iconst 0, 1) := by decide +kernel
theorem dX12_laysRow_51 : decode cX12_laysRow 51 = .ok (.istore 4, 2) := by decide +kernel
theorem dX12_laysRow_53 : decode cX12_laysRow 53 = .ok (.iconst 0, 1) := by decide +kernel
theorem dX12_laysRow_54 : decode cX12_laysRow 54 = .ok (.istore 5, 2) := by decide +kernel
theorem dX12_laysRow_56 : decode cX12_laysRow 56 = .ok (.iload 5, 2) := by decide +kernel
theorem dX12_laysRow_58 : decode cX12_laysRow 58 = .ok (.aload_n 0, 1) := by decide +kernel
theorem dX12_laysRow_59 : decode cX12_laysRow 59 = .ok (.getfield 120, 3) := by decide +kernel
theorem dX12_laysRow_62 : decode cX12_laysRow 62 = .ok (.if_icmp .ge 23, 3) := by decide +kernel
theorem dX12_laysRow_65 : decode cX12_laysRow 65 = .ok (.iload 4, 2) := by decide +kernel
theorem dX12_laysRow_67 : decode cX12_laysRow 67 = .ok (.iconst 1, 1) := by decide +kernel
theorem dX12_laysRow_68 : decode cX12_laysRow 68 = .ok (.aload_n 0, 1) := by decide +kernel
theorem dX12_laysRow_69 : decode cX12_laysRow 69 = .ok (.getfield 35, 3) := by decide +kernel
theorem dX12_laysRow_72 : decode cX12_laysRow 72 = .ok (.iload 5, 2) := by decide +kernel
theorem dX12_laysRow_74 : decode cX12_laysRow 74 = .ok (.baload, 1) := by decide +kernel
theorem dX12_laysRow_75 : decode cX12_laysRow 75 = .ok (.ishl, 1) := by decide +kernel
theorem dX12_laysRow_76 : decode cX12_laysRow 76 = .ok (.ior, 1) := by decide +kernel
theorem dX12_laysRow_77 : decode cX12_laysRow 77 = .ok (.istore 4, 2) := by decide +kernel
theorem dX12_laysRow_79 : decode cX12_laysRow 79 = .ok (.iinc 5 1, 3) := by decide +kernel
theorem dX12_laysRow_82 : decode cX12_laysRow 82 = .ok (.goto (-26), 3) := by decide +kernel
theorem dX12_laysRow_85 : decode cX12_laysRow 85 = .ok (.iload_n 3, 1) := by decide +kernel
theorem dX12_laysRow_86 : decode cX12_laysRow 86 = .ok (.iload 4, 2) := by decide +kernel
theorem dX12_laysRow_88 : decode cX12_laysRow 88 = .ok (.if_icmp .ne 7, 3) := by decide +kernel
theorem dX12_laysRow_91 : decode cX12_laysRow 91 = .ok (.iconst 1, 1) := by decide +kernel
theorem dX12_laysRow_92 : decode cX12_laysRow 92 = .ok (.goto 4, 3) := by decide +kernel
theorem dX12_laysRow_95 : decode cX12_laysRow 95 = .ok (.iconst 0, 1) := by decide +kernel
theorem dX12_laysRow_96 : decode cX12_laysRow 96 = .ok (.ireturn, 1) := by decide +kernel
set_option maxRecDepth 100000 in
set_option maxHeartbeats 200000 in
theorem T_X12_laysRow_56_s {X : CX} (hX : Ok X cX12_laysRow 6 RX12 (some .boolean)) (hdx : dX X = 2) {r : Bool × Hp} (x3 : Int32) (q_56 : Int32 → Int32 → Hp → Option (Bool × Hp)) (hq_56 : ∀ (x4 : Int32) (x5 : Int32) (h : Hp), q_56 x4 x5 h = some r → J X ((.inl (some (.int (b2i r.1))), r.2)) 56 [(0, .ref 30), (3, .int x3), (4, .int x4), (5, .int x5)] [] h) (x4 : Int32) (x5 : Int32) (h : Hp) (hf : S_X12_laysRow_56 x3 q_56 x4 x5 h = some r) : J X ((.inl (some (.int (b2i r.1))), r.2)) 56 [(0, .ref 30), (3, .int x3), (4, .int x4), (5, .int x5)] [] h := by
  unfold S_X12_laysRow_56 at hf
  refine J_iload hX 3 dX12_laysRow_56 rfl ?_
  refine J_aload_n hX 0 dX12_laysRow_58 rfl rfl ?_
  refine J_getI hX dX12_laysRow_59 fl_X12_120 ob_30 rfl ?_
  rcases ifE hf with ⟨c_1, hf⟩ | ⟨c_1, hf⟩
  · refine J_icmp_geF hX 85 dX12_laysRow_62 rfl c_1 ?_
    refine J_iload hX 2 dX12_laysRow_65 rfl ?_
    refine J_iconst hX 1 dX12_laysRow_67 rfl ?_
    refine J_aload_n hX 0 dX12_laysRow_68 rfl rfl ?_
    refine J_getR hX 38 dX12_laysRow_69 fl_X12_35 ob_30 rfl rfl ?_
    refine J_iload hX 3 dX12_laysRow_72 rfl ?_
    obtain ⟨g_2, hf⟩ := gdE hf
    refine J_ald hX x5.toNatClampNeg dX12_laysRow_74 ar_38 (Or.inr (Or.inl ⟨rfl, rfl⟩)) g_2 rfl ?_
    refine J_ishl hX dX12_laysRow_75 ?_
    refine J_ior hX dX12_laysRow_76 ?_
    obtain ⟨x4_3, e_4, hf⟩ := bndE hf
    refine J_nm e_4 ?_
    refine J_istore hX [(4, .int x4_3), (0, .ref 30), (3, .int x3), (5, .int x5)] dX12_laysRow_77 rfl rfl ?_
    refine J_iinc hX (x5 + 1) 3 [(5, .int (x5 + 1)), (4, .int x4_3), (0, .ref 30), (3, .int x3)] dX12_laysRow_79 rfl rfl rfl rfl ?_
    refine J_goto hX 56 dX12_laysRow_82 rfl ?_
    refine J_sub [2, 3, 1, 0] [(0, .ref 30), (3, .int x3), (4, .int x4_3), (5, .int (x5 + 1))] rfl ?_
    exact hq_56 x4_3 (x5 + 1) h hf
  · refine J_icmp_geT hX 85 dX12_laysRow_62 rfl c_1 ?_
    refine J_iload_n hX 1 dX12_laysRow_85 rfl rfl ?_
    refine J_iload hX 2 dX12_laysRow_86 rfl ?_
    rcases ifE hf with ⟨c_5, hf⟩ | ⟨c_5, hf⟩
    · refine J_icmp_neF hX 95 dX12_laysRow_88 rfl c_5 ?_
      refine J_iconst hX 1 dX12_laysRow_91 rfl ?_
      refine J_goto hX 96 dX12_laysRow_92 rfl ?_
      exact E_Zi hX dX12_laysRow_96 rfl hf
    · refine J_icmp_neT hX 95 dX12_laysRow_88 rfl c_5 ?_
      refine J_iconst hX 0 dX12_laysRow_95 rfl ?_
      exact E_Zi hX dX12_laysRow_96 rfl hf
set_option maxRecDepth 100000 in
set_option maxHeartbeats 200000 in
theorem T_X12_laysRow_56 {X : CX} (hX : Ok X cX12_laysRow 6 RX12 (some .boolean)) (hdx : dX X = 2) {r : Bool × Hp} (x3 : Int32) : ∀ (n : Nat) (x4 : Int32) (x5 : Int32) (h : Hp), F_X12_laysRow_56 x3 n x4 x5 h = some r → J X ((.inl (some (.int (b2i r.1))), r.2)) 56 [(0, .ref 30), (3, .int x3), (4, .int x4), (5, .int x5)] [] h := by
  intro n
  induction n with
  | zero => intro x4 x5 h hf; exact nomatch hf
  | succ n ih => intro x4 x5 h hf; exact T_X12_laysRow_56_s hX hdx x3 _ (fun x4 x5 h hf => ih x4 x5 h hf) x4 x5 h hf
set_option maxRecDepth 100000 in
set_option maxHeartbeats 200000 in
theorem T_X12_laysRow_12_s {X : CX} (hX : Ok X cX12_laysRow 6 RX12 (some .boolean)) (hdx : dX X = 2) {r : Bool × Hp} (q_12 : Int32 → Int32 → Int32 → Hp → Option (Bool × Hp)) (hq_12 : ∀ (x2 : Int32) (x3 : Int32) (x4 : Int32) (h : Hp), q_12 x2 x3 x4 h = some r → J X ((.inl (some (.int (b2i r.1))), r.2)) 12 [(0, .ref 30), (2, .int x2), (3, .int x3), (4, .int x4)] [] h) (x2 : Int32) (x3 : Int32) (x4 : Int32) (h : Hp) (hf : S_X12_laysRow_12 q_12 x2 x3 x4 h = some r) : J X ((.inl (some (.int (b2i r.1))), r.2)) 12 [(0, .ref 30), (2, .int x2), (3, .int x3), (4, .int x4)] [] h := by
  unfold S_X12_laysRow_12 at hf
  refine J_iload hX 3 dX12_laysRow_12 rfl ?_
  rcases ifE hf with ⟨c_1, hf⟩ | ⟨c_1, hf⟩
  · refine J_if_ltT hX 50 dX12_laysRow_14 rfl c_1 ?_
    refine J_iconst hX 0 dX12_laysRow_50 rfl ?_
    refine J_istore hX [(4, .int 0), (0, .ref 30), (2, .int x2), (3, .int x3)] dX12_laysRow_51 rfl rfl ?_
    refine J_iconst hX 0 dX12_laysRow_53 rfl ?_
    refine J_istore hX [(5, .int 0), (4, .int 0), (0, .ref 30), (2, .int x2), (3, .int x3)] dX12_laysRow_54 rfl rfl ?_
    refine J_sub [2, 4, 1, 0] [(0, .ref 30), (3, .int x3), (4, .int 0), (5, .int 0)] rfl ?_
    exact T_X12_laysRow_56 hX hdx x3 FU 0 0 h hf
  · refine J_if_ltF hX 50 dX12_laysRow_14 rfl c_1 ?_
    refine J_iload_n hX 1 dX12_laysRow_17 rfl rfl ?_
    refine J_bipush hX 8 dX12_laysRow_18 rfl ?_
    refine J_irem hX (by decide) dX12_laysRow_20 ?_
    refine J_istore hX [(5, .int (rem x2 8)), (0, .ref 30), (2, .int x2), (3, .int x3), (4, .int x4)] dX12_laysRow_21 rfl rfl ?_
    refine J_iload_n hX 2 dX12_laysRow_23 rfl rfl ?_
    refine J_bipush hX 8 dX12_laysRow_24 rfl ?_
    refine J_idiv hX (by decide) dX12_laysRow_26 ?_
    refine J_istore_n hX [(2, .int (x2 / 8)), (5, .int (rem x2 8)), (0, .ref 30), (3, .int x3), (4, .int x4)] dX12_laysRow_27 rfl rfl rfl ?_
    refine J_aload_n hX 2 dX12_laysRow_28 rfl rfl ?_
    refine J_getR hX 41 dX12_laysRow_29 fl_X12_48 ob_30 rfl rfl ?_
    refine J_iload hX 4 dX12_laysRow_32 rfl ?_
    refine J_iload hX 1 dX12_laysRow_34 rfl ?_
    obtain ⟨g_2, hf⟩ := gdE hf
    obtain ⟨h_3, e_4, hf⟩ := bndE hf
    refine J_ast hX x4.toNatClampNeg (rem x2 8) dX12_laysRow_36 ar_41 (Or.inl ⟨rfl, rfl, rfl⟩) g_2 rfl ?_
    refine J_nmh e_4 ?_
    refine J_iload_n hX 3 dX12_laysRow_37 rfl rfl ?_
    refine J_iconst hX 1 dX12_laysRow_38 rfl ?_
    refine J_iload hX 1 dX12_laysRow_39 rfl ?_
    refine J_ishl hX dX12_laysRow_41 ?_
    refine J_ior hX dX12_laysRow_42 ?_
    obtain ⟨x3_5, e_6, hf⟩ := bndE hf
    refine J_nm e_6 ?_
    refine J_istore_n hX [(3, .int x3_5), (2, .int (x2 / 8)), (5, .int (rem x2 8)), (0, .ref 30), (4, .int x4)] dX12_laysRow_43 rfl rfl rfl ?_
    refine J_iinc hX (x4 + (-1)) 4 [(4, .int (x4 + (-1))), (3, .int x3_5), (2, .int (x2 / 8)), (5, .int (rem x2 8)), (0, .ref 30)] dX12_laysRow_44 rfl rfl rfl rfl ?_
    refine J_goto hX 12 dX12_laysRow_47 rfl ?_
    refine J_sub [4, 2, 1, 0] [(0, .ref 30), (2, .int (x2 / 8)), (3, .int x3_5), (4, .int (x4 + (-1)))] rfl ?_
    exact hq_12 (x2 / 8) x3_5 (x4 + (-1)) h_3 hf
set_option maxRecDepth 100000 in
set_option maxHeartbeats 200000 in
theorem T_X12_laysRow_12 {X : CX} (hX : Ok X cX12_laysRow 6 RX12 (some .boolean)) (hdx : dX X = 2) {r : Bool × Hp} : ∀ (n : Nat) (x2 : Int32) (x3 : Int32) (x4 : Int32) (h : Hp), F_X12_laysRow_12 n x2 x3 x4 h = some r → J X ((.inl (some (.int (b2i r.1))), r.2)) 12 [(0, .ref 30), (2, .int x2), (3, .int x3), (4, .int x4)] [] h := by
  intro n
  induction n with
  | zero => intro x2 x3 x4 h hf; exact nomatch hf
  | succ n ih => intro x2 x3 x4 h hf; exact T_X12_laysRow_12_s hX hdx _ (fun x2 x3 x4 h hf => ih x2 x3 x4 h hf) x2 x3 x4 h hf
set_option maxRecDepth 100000 in
set_option maxHeartbeats 200000 in
theorem T_X12_laysRow_0 {X : CX} (hX : Ok X cX12_laysRow 6 RX12 (some .boolean)) (hdx : dX X = 2) {r : Bool × Hp} (x1 : Int32) (h : Hp) (hf : f_X12_laysRow x1 h = some r) : J X ((.inl (some (.int (b2i r.1))), r.2)) 0 [(0, .ref 30), (1, .int x1)] [] h := by
  unfold f_X12_laysRow at hf
  refine J_iload_n hX 1 dX12_laysRow_0 rfl rfl ?_
  refine J_istore_n hX [(2, .int x1), (0, .ref 30), (1, .int x1)] dX12_laysRow_1 rfl rfl rfl ?_
  refine J_iconst hX 0 dX12_laysRow_2 rfl ?_
  refine J_istore_n hX [(3, .int 0), (2, .int x1), (0, .ref 30), (1, .int x1)] dX12_laysRow_3 rfl rfl rfl ?_
  refine J_aload_n hX 2 dX12_laysRow_4 rfl rfl ?_
  refine J_getI hX dX12_laysRow_5 fl_X12_120 ob_30 rfl ?_
  refine J_iconst hX 1 dX12_laysRow_8 rfl ?_
  refine J_isub hX dX12_laysRow_9 ?_
  obtain ⟨x4_1, e_2, hf⟩ := bndE hf
  refine J_nm e_2 ?_
  refine J_istore hX [(4, .int x4_1), (3, .int 0), (2, .int x1), (0, .ref 30), (1, .int x1)] dX12_laysRow_10 rfl rfl ?_
  refine J_sub [3, 2, 1, 0] [(0, .ref 30), (2, .int x1), (3, .int 0), (4, .int x4_1)] rfl ?_
  exact T_X12_laysRow_12 hX hdx FU x1 0 x4_1 h hf
set_option maxRecDepth 100000 in
set_option maxHeartbeats 200000 in
theorem C_X12_laysRow {G : GX} (hG : GOk G) {x1 : Int32} {h : Hp} {r : Bool × Hp} (hf : f_X12_laysRow x1 h = some r) : Ctr G 2 yX12_laysRow cX12_laysRow 6 (some .boolean) [.ref 30, .int x1] h ((.inl (some (.int (b2i r.1))), r.2)) :=
  Ctr_of hG RX12 rfl (by decide) rfl (fun X _ hdx hX => T_X12_laysRow_0 hX hdx x1 h hf)
theorem dX12_bestOrder_0 : decode cX12_bestOrder 0 = .ok (.iconst 1, 1) := by decide +kernel
theorem dX12_bestOrder_1 : decode cX12_bestOrder 1 = .ok (.istore_n 1, 1) := by decide +kernel
theorem dX12_bestOrder_2 : decode cX12_bestOrder 2 = .ok (.iconst (-1), 1) := by decide +kernel
theorem dX12_bestOrder_3 : decode cX12_bestOrder 3 = .ok (.istore_n 2, 1) := by decide +kernel
theorem dX12_bestOrder_4 : decode cX12_bestOrder 4 = .ok (.iconst 0, 1) := by decide +kernel
theorem dX12_bestOrder_5 : decode cX12_bestOrder 5 = .ok (.istore_n 3, 1) := by decide +kernel
theorem dX12_bestOrder_6 : decode cX12_bestOrder 6 = .ok (.iload_n 3, 1) := by decide +kernel
theorem dX12_bestOrder_7 : decode cX12_bestOrder 7 = .ok (.aload_n 0, 1) := by decide +kernel
theorem dX12_bestOrder_8 : decode cX12_bestOrder 8 = .ok (.getfield 120, 3) := by decide +kernel
theorem dX12_bestOrder_11 : decode cX12_bestOrder 11 = .ok (.if_icmp .ge 14, 3) := by decide +kernel
theorem dX12_bestOrder_14 : decode cX12_bestOrder 14 = .ok (.iload_n 1, 1) := by decide +kernel
theorem dX12_bestOrder_15 : decode cX12_bestOrder 15 = .ok (.bipush 8, 2) := by decide +kernel
theorem dX12_bestOrder_17 : decode cX12_bestOrder 17 = .ok (.imul, 1) := by decide +kernel
theorem dX12_bestOrder_18 : decode cX12_bestOrder 18 = .ok (.istore_n 1, 1) := by decide +kernel
theorem dX12_bestOrder_19 : decode cX12_bestOrder 19 = .ok (.iinc 3 1, 3) := by decide +kernel
theorem dX12_bestOrder_22 : decode cX12_bestOrder 22 = .ok (.goto (-16), 3) := by decide +kernel
theorem dX12_bestOrder_25 : decode cX12_bestOrder 25 = .ok (.iconst 0, 1) := by decide +kernel
theorem dX12_bestOrder_26 : decode cX12_bestOrder 26 = .ok (.istore_n 3, 1) := by decide +kernel
theorem dX12_bestOrder_27 : decode cX12_bestOrder 27 = .ok (.iload_n 3, 1) := by decide +kernel
theorem dX12_bestOrder_28 : decode cX12_bestOrder 28 = .ok (.iload_n 1, 1) := by decide +kernel
theorem dX12_bestOrder_29 : decode cX12_bestOrder 29 = .ok (.if_icmp .ge 71, 3) := by decide +kernel
theorem dX12_bestOrder_32 : decode cX12_bestOrder 32 = .ok (.aload_n 0, 1) := by decide +kernel
theorem dX12_bestOrder_33 : decode cX12_bestOrder 33 = .ok (.iload_n 3, 1) := by decide +kernel
theorem dX12_bestOrder_34 : decode cX12_bestOrder 34 = .ok (.invokevirtual 429, 3) := by decide +kernel
theorem dX12_bestOrder_37 : decode cX12_bestOrder 37 = .ok (.ifCond .ne 6, 3) := by decide +kernel
theorem dX12_bestOrder_40 : decode cX12_bestOrder 40 = .ok (.goto 54, 3) := by decide +kernel
theorem dX12_bestOrder_43 : decode cX12_bestOrder 43 = .ok (.aload_n 0, 1) := by decide +kernel
theorem dX12_bestOrder_44 : decode cX12_bestOrder 44 = .ok (.invokevirtual 432, 3) := by decide +kernel
theorem dX12_bestOrder_47 : decode cX12_bestOrder 47 = .ok (.istore 4, 2) := by decide +kernel
theorem dX12_bestOrder_49 : decode cX12_bestOrder 49 = .ok (.iconst 0, 1) := by decide +kernel
theorem dX12_bestOrder_50 : decode cX12_bestOrder 50 = .ok (.istore 5, 2) := by decide +kernel
theorem dX12_bestOrder_52 : decode cX12_bestOrder 52 = .ok (.iload 5, 2) := by decide +kernel
theorem dX12_bestOrder_54 : decode cX12_bestOrder 54 = .ok (.aload_n 0, 1) := by decide +kernel
theorem dX12_bestOrder_55 : decode cX12_bestOrder 55 = .ok (.getfield 120, 3) := by decide +kernel
theorem dX12_bestOrder_58 : decode cX12_bestOrder 58 = .ok (.if_icmp .ge 29, 3) := by decide +kernel
theorem dX12_bestOrder_61 : decode cX12_bestOrder 61 = .ok (.iload 4, 2) := by decide +kernel
theorem dX12_bestOrder_63 : decode cX12_bestOrder 63 = .ok (.iload_n 2, 1) := by decide +kernel
theorem dX12_bestOrder_64 : decode cX12_bestOrder 64 = .ok (.if_icmp .le 23, 3) := by decide +kernel
theorem dX12_bestOrder_67 : decode cX12_bestOrder 67 = .ok (.aload_n 0, 1) := by decide +kernel
theorem dX12_bestOrder_68 : decode cX12_bestOrder 68 = .ok (.getfield 51, 3) := by decide +kernel
theorem dX12_bestOrder_71 : decode cX12_bestOrder 71 = .ok (.iload 5, 2) := by decide +kernel
theorem dX12_bestOrder_73 : decode cX12_bestOrder 73 = .ok (.aload_n 0, 1) := by decide +kernel
theorem dX12_bestOrder_74 : decode cX12_bestOrder 74 = .ok (.getfield 48, 3) := by decide +kernel
theorem dX12_bestOrder_77 : decode cX12_bestOrder 77 = .ok (.iload 5, 2) := by decide +kernel
theorem dX12_bestOrder_79 : decode cX12_bestOrder 79 = .ok (.iaload, 1) := by decide +kernel
theorem dX12_bestOrder_80 : decode cX12_bestOrder 80 = .ok (.iastore, 1) := by decide +kernel
theorem dX12_bestOrder_81 : decode cX12_bestOrder 81 = .ok (.iinc 5 1, 3) := by decide +kernel
theorem dX12_bestOrder_84 : decode cX12_bestOrder 84 = .ok (.goto (-32), 3) := by decide +kernel
theorem dX12_bestOrder_87 : decode cX12_bestOrder 87 = .ok (.iload_n 2, 1) := by decide +kernel
theorem dX12_bestOrder_88 : decode cX12_bestOrder 88 = .ok (.iload 4, 2) := by decide +kernel
theorem dX12_bestOrder_90 : decode cX12_bestOrder 90 = .ok (.invokestatic 314, 3) := by decide +kernel
theorem dX12_bestOrder_93 : decode cX12_bestOrder 93 = .ok (.istore_n 2, 1) := by decide +kernel
theorem dX12_bestOrder_94 : decode cX12_bestOrder 94 = .ok (.iinc 3 1, 3) := by decide +kernel
theorem dX12_bestOrder_97 : decode cX12_bestOrder 97 = .ok (.goto (-70), 3) := by decide +kernel
theorem dX12_bestOrder_100 : decode cX12_bestOrder 100 = .ok (.iload_n 2, 1) := by decide +kernel
theorem dX12_bestOrder_101 : decode cX12_bestOrder 101 = .ok (.ireturn, 1) := by decide +kernel
set_option maxRecDepth 100000 in
set_option maxHeartbeats 200000 in
theorem T_X12_bestOrder_87 {X : CX} (hX : Ok X cX12_bestOrder 6 RX12 (some .int)) (hdx : dX X = 14) {r : Int32 × Hp} (x1 : Int32) (x2 : Int32) (x3 : Int32) (x4 : Int32) (q_27 : Int32 → Int32 → Hp → Option (Int32 × Hp)) (hq_27 : ∀ (x2 : Int32) (x3 : Int32) (h : Hp), q_27 x2 x3 h = some r → J X ((.inl (some (.int r.1)), r.2)) 27 [(0, .ref 30), (1, .int x1), (2, .int x2), (3, .int x3)] [] h) (h : Hp) (hf : F_X12_bestOrder_87 q_27 x1 x2 x3 x4 h = some r) : J X ((.inl (some (.int r.1)), r.2)) 87 [(0, .ref 30), (1, .int x1), (2, .int x2), (3, .int x3), (4, .int x4)] [] h := by
  unfold F_X12_bestOrder_87 at hf
  refine J_iload_n hX 2 dX12_bestOrder_87 rfl rfl ?_
  refine J_iload hX 4 dX12_bestOrder_88 rfl ?_
  refine J_max hX dX12_bestOrder_90 mw_X12_314 (ltD hdx rfl) rfl ?_
  obtain ⟨x2_1, e_2, hf⟩ := bndE hf
  refine J_nm e_2 ?_
  refine J_istore_n hX [(2, .int x2_1), (0, .ref 30), (1, .int x1), (3, .int x3), (4, .int x4)] dX12_bestOrder_93 rfl rfl rfl ?_
  refine J_iinc hX (x3 + 1) 3 [(3, .int (x3 + 1)), (2, .int x2_1), (0, .ref 30), (1, .int x1), (4, .int x4)] dX12_bestOrder_94 rfl rfl rfl rfl ?_
  refine J_goto hX 27 dX12_bestOrder_97 rfl ?_
  refine J_sub [2, 3, 1, 0] [(0, .ref 30), (1, .int x1), (2, .int x2_1), (3, .int (x3 + 1))] rfl ?_
  exact hq_27 x2_1 (x3 + 1) h hf
set_option maxRecDepth 100000 in
set_option maxHeartbeats 200000 in
theorem T_X12_bestOrder_52_s {X : CX} (hX : Ok X cX12_bestOrder 6 RX12 (some .int)) (hdx : dX X = 14) {r : Int32 × Hp} (x1 : Int32) (x2 : Int32) (x3 : Int32) (x4 : Int32) (q_27 : Int32 → Int32 → Hp → Option (Int32 × Hp)) (hq_27 : ∀ (x2 : Int32) (x3 : Int32) (h : Hp), q_27 x2 x3 h = some r → J X ((.inl (some (.int r.1)), r.2)) 27 [(0, .ref 30), (1, .int x1), (2, .int x2), (3, .int x3)] [] h) (q_52 : Int32 → Hp → Option (Int32 × Hp)) (hq_52 : ∀ (x5 : Int32) (h : Hp), q_52 x5 h = some r → J X ((.inl (some (.int r.1)), r.2)) 52 [(0, .ref 30), (1, .int x1), (2, .int x2), (3, .int x3), (4, .int x4), (5, .int x5)] [] h) (x5 : Int32) (h : Hp) (hf : S_X12_bestOrder_52 q_27 x1 x2 x3 x4 q_52 x5 h = some r) : J X ((.inl (some (.int r.1)), r.2)) 52 [(0, .ref 30), (1, .int x1), (2, .int x2), (3, .int x3), (4, .int x4), (5, .int x5)] [] h := by
  unfold S_X12_bestOrder_52 at hf
  refine J_iload hX 5 dX12_bestOrder_52 rfl ?_
  refine J_aload_n hX 0 dX12_bestOrder_54 rfl rfl ?_
  refine J_getI hX dX12_bestOrder_55 fl_X12_120 ob_30 rfl ?_
  rcases ifE hf with ⟨c_1, hf⟩ | ⟨c_1, hf⟩
  · refine J_icmp_geF hX 87 dX12_bestOrder_58 rfl c_1 ?_
    refine J_iload hX 4 dX12_bestOrder_61 rfl ?_
    refine J_iload_n hX 2 dX12_bestOrder_63 rfl rfl ?_
    rcases ifE hf with ⟨c_2, hf⟩ | ⟨c_2, hf⟩
    · refine J_icmp_leF hX 87 dX12_bestOrder_64 rfl c_2 ?_
      refine J_aload_n hX 0 dX12_bestOrder_67 rfl rfl ?_
      refine J_getR hX 42 dX12_bestOrder_68 fl_X12_51 ob_30 rfl rfl ?_
      refine J_iload hX 5 dX12_bestOrder_71 rfl ?_
      refine J_aload_n hX 0 dX12_bestOrder_73 rfl rfl ?_
      refine J_getR hX 41 dX12_bestOrder_74 fl_X12_48 ob_30 rfl rfl ?_
      refine J_iload hX 5 dX12_bestOrder_77 rfl ?_
      obtain ⟨g_3, hf⟩ := gdE hf
      refine J_ald hX x5.toNatClampNeg dX12_bestOrder_79 ar_41 (Or.inl ⟨rfl, rfl⟩) g_3 rfl ?_
      obtain ⟨g_4, hf⟩ := gdE hf
      obtain ⟨h_5, e_6, hf⟩ := bndE hf
      refine J_ast hX x5.toNatClampNeg (h 41 x5.toNatClampNeg) dX12_bestOrder_80 ar_42 (Or.inl ⟨rfl, rfl, rfl⟩) g_4 rfl ?_
      refine J_nmh e_6 ?_
      refine J_iinc hX (x5 + 1) 5 [(5, .int (x5 + 1)), (0, .ref 30), (1, .int x1), (2, .int x2), (3, .int x3), (4, .int x4)] dX12_bestOrder_81 rfl rfl rfl rfl ?_
      refine J_goto hX 52 dX12_bestOrder_84 rfl ?_
      refine J_sub [1, 2, 3, 4, 5, 0] [(0, .ref 30), (1, .int x1), (2, .int x2), (3, .int x3), (4, .int x4), (5, .int (x5 + 1))] rfl ?_
      exact hq_52 (x5 + 1) h_5 hf
    · refine J_icmp_leT hX 87 dX12_bestOrder_64 rfl c_2 ?_
      refine J_sub [0, 1, 2, 3, 4] [(0, .ref 30), (1, .int x1), (2, .int x2), (3, .int x3), (4, .int x4)] rfl ?_
      exact T_X12_bestOrder_87 hX hdx x1 x2 x3 x4 q_27 hq_27 h hf
  · refine J_icmp_geT hX 87 dX12_bestOrder_58 rfl c_1 ?_
    refine J_sub [0, 1, 2, 3, 4] [(0, .ref 30), (1, .int x1), (2, .int x2), (3, .int x3), (4, .int x4)] rfl ?_
    exact T_X12_bestOrder_87 hX hdx x1 x2 x3 x4 q_27 hq_27 h hf
set_option maxRecDepth 100000 in
set_option maxHeartbeats 200000 in
theorem T_X12_bestOrder_52 {X : CX} (hX : Ok X cX12_bestOrder 6 RX12 (some .int)) (hdx : dX X = 14) {r : Int32 × Hp} (x1 : Int32) (x2 : Int32) (x3 : Int32) (x4 : Int32) (q_27 : Int32 → Int32 → Hp → Option (Int32 × Hp)) (hq_27 : ∀ (x2 : Int32) (x3 : Int32) (h : Hp), q_27 x2 x3 h = some r → J X ((.inl (some (.int r.1)), r.2)) 27 [(0, .ref 30), (1, .int x1), (2, .int x2), (3, .int x3)] [] h) : ∀ (n : Nat) (x5 : Int32) (h : Hp), F_X12_bestOrder_52 q_27 x1 x2 x3 x4 n x5 h = some r → J X ((.inl (some (.int r.1)), r.2)) 52 [(0, .ref 30), (1, .int x1), (2, .int x2), (3, .int x3), (4, .int x4), (5, .int x5)] [] h := by
  intro n
  induction n with
  | zero => intro x5 h hf; exact nomatch hf
  | succ n ih => intro x5 h hf; exact T_X12_bestOrder_52_s hX hdx x1 x2 x3 x4 q_27 hq_27 _ (fun x5 h hf => ih x5 h hf) x5 h hf
set_option maxRecDepth 100000 in
set_option maxHeartbeats 200000 in
theorem T_X12_bestOrder_27_s {X : CX} (hX : Ok X cX12_bestOrder 6 RX12 (some .int)) (hdx : dX X = 14) {r : Int32 × Hp} (x1 : Int32) (q_27 : Int32 → Int32 → Hp → Option (Int32 × Hp)) (hq_27 : ∀ (x2 : Int32) (x3 : Int32) (h : Hp), q_27 x2 x3 h = some r → J X ((.inl (some (.int r.1)), r.2)) 27 [(0, .ref 30), (1, .int x1), (2, .int x2), (3, .int x3)] [] h) (x2 : Int32) (x3 : Int32) (h : Hp) (hf : S_X12_bestOrder_27 x1 q_27 x2 x3 h = some r) : J X ((.inl (some (.int r.1)), r.2)) 27 [(0, .ref 30), (1, .int x1), (2, .int x2), (3, .int x3)] [] h := by
  unfold S_X12_bestOrder_27 at hf
  refine J_iload_n hX 3 dX12_bestOrder_27 rfl rfl ?_
  refine J_iload_n hX 1 dX12_bestOrder_28 rfl rfl ?_
  rcases ifE hf with ⟨c_1, hf⟩ | ⟨c_1, hf⟩
  · refine J_icmp_geF hX 100 dX12_bestOrder_29 rfl c_1 ?_
    refine J_aload_n hX 0 dX12_bestOrder_32 rfl rfl ?_
    refine J_iload_n hX 3 dX12_bestOrder_33 rfl rfl ?_
    obtain ⟨r_2, e_3, hf⟩ := bdE hf
    refine V_1 hX [.int x3] dX12_bestOrder_34 cw_X12_429 ob_30 rfl (C_X12_laysRow (okG hX) e_3) (ltD hdx rfl) rfl rfl rfl rfl ?_
    rcases ifE hf with ⟨c_4, hf⟩ | ⟨c_4, hf⟩
    · refine J_if_neT hX 43 dX12_bestOrder_37 rfl (b2iT c_4) ?_
      refine J_aload_n hX 0 dX12_bestOrder_43 rfl rfl ?_
      obtain ⟨r_5, e_6, hf⟩ := bdE hf
      refine V_1 hX [] dX12_bestOrder_44 cw_X12_432 ob_30 rfl (C_X12_stepsOfRow (okG hX) e_6) (ltD hdx rfl) rfl rfl rfl rfl ?_
      refine J_istore hX [(4, .int r_5.1), (0, .ref 30), (1, .int x1), (2, .int x2), (3, .int x3)] dX12_bestOrder_47 rfl rfl ?_
      refine J_iconst hX 0 dX12_bestOrder_49 rfl ?_
      refine J_istore hX [(5, .int 0), (4, .int r_5.1), (0, .ref 30), (1, .int x1), (2, .int x2), (3, .int x3)] dX12_bestOrder_50 rfl rfl ?_
      refine J_sub [2, 3, 4, 5, 1, 0] [(0, .ref 30), (1, .int x1), (2, .int x2), (3, .int x3), (4, .int r_5.1), (5, .int 0)] rfl ?_
      exact T_X12_bestOrder_52 hX hdx x1 x2 x3 r_5.1 q_27 hq_27 FU 0 r_5.2 hf
    · refine J_if_neF hX 43 dX12_bestOrder_37 rfl (b2iF c_4) ?_
      refine J_goto hX 94 dX12_bestOrder_40 rfl ?_
      refine J_iinc hX (x3 + 1) 3 [(3, .int (x3 + 1)), (0, .ref 30), (1, .int x1), (2, .int x2)] dX12_bestOrder_94 rfl rfl rfl rfl ?_
      refine J_goto hX 27 dX12_bestOrder_97 rfl ?_
      refine J_sub [1, 2, 3, 0] [(0, .ref 30), (1, .int x1), (2, .int x2), (3, .int (x3 + 1))] rfl ?_
      exact hq_27 x2 (x3 + 1) r_2.2 hf
  · refine J_icmp_geT hX 100 dX12_bestOrder_29 rfl c_1 ?_
    refine J_iload_n hX 2 dX12_bestOrder_100 rfl rfl ?_
    exact E_Ii hX dX12_bestOrder_101 hf
set_option maxRecDepth 100000 in
set_option maxHeartbeats 200000 in
theorem T_X12_bestOrder_27 {X : CX} (hX : Ok X cX12_bestOrder 6 RX12 (some .int)) (hdx : dX X = 14) {r : Int32 × Hp} (x1 : Int32) : ∀ (n : Nat) (x2 : Int32) (x3 : Int32) (h : Hp), F_X12_bestOrder_27 x1 n x2 x3 h = some r → J X ((.inl (some (.int r.1)), r.2)) 27 [(0, .ref 30), (1, .int x1), (2, .int x2), (3, .int x3)] [] h := by
  intro n
  induction n with
  | zero => intro x2 x3 h hf; exact nomatch hf
  | succ n ih => intro x2 x3 h hf; exact T_X12_bestOrder_27_s hX hdx x1 _ (fun x2 x3 h hf => ih x2 x3 h hf) x2 x3 h hf
set_option maxRecDepth 100000 in
set_option maxHeartbeats 200000 in
theorem T_X12_bestOrder_6_s {X : CX} (hX : Ok X cX12_bestOrder 6 RX12 (some .int)) (hdx : dX X = 14) {r : Int32 × Hp} (x2 : Int32) (q_6 : Int32 → Int32 → Hp → Option (Int32 × Hp)) (hq_6 : ∀ (x1 : Int32) (x3 : Int32) (h : Hp), q_6 x1 x3 h = some r → J X ((.inl (some (.int r.1)), r.2)) 6 [(0, .ref 30), (1, .int x1), (2, .int x2), (3, .int x3)] [] h) (x1 : Int32) (x3 : Int32) (h : Hp) (hf : S_X12_bestOrder_6 x2 q_6 x1 x3 h = some r) : J X ((.inl (some (.int r.1)), r.2)) 6 [(0, .ref 30), (1, .int x1), (2, .int x2), (3, .int x3)] [] h := by
  unfold S_X12_bestOrder_6 at hf
  refine J_iload_n hX 3 dX12_bestOrder_6 rfl rfl ?_
  refine J_aload_n hX 0 dX12_bestOrder_7 rfl rfl ?_
  refine J_getI hX dX12_bestOrder_8 fl_X12_120 ob_30 rfl ?_
  rcases ifE hf with ⟨c_1, hf⟩ | ⟨c_1, hf⟩
  · refine J_icmp_geF hX 25 dX12_bestOrder_11 rfl c_1 ?_
    refine J_iload_n hX 1 dX12_bestOrder_14 rfl rfl ?_
    refine J_bipush hX 8 dX12_bestOrder_15 rfl ?_
    refine J_imul hX dX12_bestOrder_17 ?_
    refine J_istore_n hX [(1, .int (x1 * 8)), (0, .ref 30), (2, .int x2), (3, .int x3)] dX12_bestOrder_18 rfl rfl rfl ?_
    refine J_iinc hX (x3 + 1) 3 [(3, .int (x3 + 1)), (1, .int (x1 * 8)), (0, .ref 30), (2, .int x2)] dX12_bestOrder_19 rfl rfl rfl rfl ?_
    refine J_goto hX 6 dX12_bestOrder_22 rfl ?_
    refine J_sub [2, 1, 3, 0] [(0, .ref 30), (1, .int (x1 * 8)), (2, .int x2), (3, .int (x3 + 1))] rfl ?_
    exact hq_6 (x1 * 8) (x3 + 1) h hf
  · refine J_icmp_geT hX 25 dX12_bestOrder_11 rfl c_1 ?_
    refine J_iconst hX 0 dX12_bestOrder_25 rfl ?_
    refine J_istore_n hX [(3, .int 0), (0, .ref 30), (1, .int x1), (2, .int x2)] dX12_bestOrder_26 rfl rfl rfl ?_
    refine J_sub [1, 2, 3, 0] [(0, .ref 30), (1, .int x1), (2, .int x2), (3, .int 0)] rfl ?_
    exact T_X12_bestOrder_27 hX hdx x1 FU x2 0 h hf
set_option maxRecDepth 100000 in
set_option maxHeartbeats 200000 in
theorem T_X12_bestOrder_6 {X : CX} (hX : Ok X cX12_bestOrder 6 RX12 (some .int)) (hdx : dX X = 14) {r : Int32 × Hp} (x2 : Int32) : ∀ (n : Nat) (x1 : Int32) (x3 : Int32) (h : Hp), F_X12_bestOrder_6 x2 n x1 x3 h = some r → J X ((.inl (some (.int r.1)), r.2)) 6 [(0, .ref 30), (1, .int x1), (2, .int x2), (3, .int x3)] [] h := by
  intro n
  induction n with
  | zero => intro x1 x3 h hf; exact nomatch hf
  | succ n ih => intro x1 x3 h hf; exact T_X12_bestOrder_6_s hX hdx x2 _ (fun x1 x3 h hf => ih x1 x3 h hf) x1 x3 h hf
set_option maxRecDepth 100000 in
set_option maxHeartbeats 200000 in
theorem T_X12_bestOrder_0 {X : CX} (hX : Ok X cX12_bestOrder 6 RX12 (some .int)) (hdx : dX X = 14) {r : Int32 × Hp} (h : Hp) (hf : f_X12_bestOrder h = some r) : J X ((.inl (some (.int r.1)), r.2)) 0 [(0, .ref 30)] [] h := by
  unfold f_X12_bestOrder at hf
  refine J_iconst hX 1 dX12_bestOrder_0 rfl ?_
  refine J_istore_n hX [(1, .int 1), (0, .ref 30)] dX12_bestOrder_1 rfl rfl rfl ?_
  refine J_iconst hX (-1) dX12_bestOrder_2 rfl ?_
  refine J_istore_n hX [(2, .int (-1)), (1, .int 1), (0, .ref 30)] dX12_bestOrder_3 rfl rfl rfl ?_
  refine J_iconst hX 0 dX12_bestOrder_4 rfl ?_
  refine J_istore_n hX [(3, .int 0), (2, .int (-1)), (1, .int 1), (0, .ref 30)] dX12_bestOrder_5 rfl rfl rfl ?_
  refine J_sub [3, 2, 1, 0] [(0, .ref 30), (1, .int 1), (2, .int (-1)), (3, .int 0)] rfl ?_
  exact T_X12_bestOrder_6 hX hdx (-1) FU 1 0 h hf
set_option maxRecDepth 100000 in
set_option maxHeartbeats 200000 in
theorem C_X12_bestOrder {G : GX} (hG : GOk G) {h : Hp} {r : Int32 × Hp} (hf : f_X12_bestOrder h = some r) : Ctr G 14 yX12_bestOrder cX12_bestOrder 6 (some .int) [.ref 30] h ((.inl (some (.int r.1)), r.2)) :=
  Ctr_of hG RX12 rfl (by decide) rfl (fun X _ hdx hX => T_X12_bestOrder_0 hX hdx h hf)
theorem dX12_order_0 : decode cX12_order 0 = .ok (.aload_n 0, 1) := by decide +kernel
theorem dX12_order_1 : decode cX12_order 1 = .ok (.invokevirtual 269, 3) := by decide +kernel
theorem dX12_order_4 : decode cX12_order 4 = .ok (.aload_n 0, 1) := by decide +kernel
theorem dX12_order_5 : decode cX12_order 5 = .ok (.aload_n 0, 1) := by decide +kernel
theorem dX12_order_6 : decode cX12_order 6 = .ok (.invokevirtual 435, 3) := by decide +kernel
theorem dX12_order_9 : decode cX12_order 9 = .ok (.ifCond .ne 7, 3) := by decide +kernel
theorem dX12_order_12 : decode cX12_order 12 = .ok (.iconst 1, 1) := by decide +kernel
theorem dX12_order_13 : decode cX12_order 13 = .ok (.goto 4, 3) := by decide +kernel
theorem dX12_order_16 : decode cX12_order 16 = .ok (.iconst 0, 1) := by decide +kernel
theorem dX12_order_17 : decode cX12_order 17 = .ok (.iconst 1, 1) := by decide +kernel
theorem dX12_order_18 : decode cX12_order 18 = .ok (.invokevirtual 280, 3) := by decide +kernel
theorem dX12_order_21 : decode cX12_order 21 = .ok (.ifCond .eq 5, 3) := by decide +kernel
theorem dX12_order_24 : decode cX12_order 24 = .ok (.iconst 0, 1) := by decide +kernel
theorem dX12_order_25 : decode cX12_order 25 = .ok (.ireturn, 1) := by decide +kernel
theorem dX12_order_26 : decode cX12_order 26 = .ok (.aload_n 0, 1) := by decide +kernel
theorem dX12_order_27 : decode cX12_order 27 = .ok (.invokevirtual 438, 3) := by decide +kernel
theorem dX12_order_30 : decode cX12_order 30 = .ok (.pop, 1) := by decide +kernel
theorem dX12_order_31 : decode cX12_order 31 = .ok (.iload_n 1, 1) := by decide +kernel
theorem dX12_order_32 : decode cX12_order 32 = .ok (.iconst 0, 1) := by decide +kernel
theorem dX12_order_33 : decode cX12_order 33 = .ok (.aload_n 0, 1) := by decide +kernel
theorem dX12_order_34 : decode cX12_order 34 = .ok (.getfield 120, 3) := by decide +kernel
theorem dX12_order_37 : decode cX12_order 37 = .ok (.iconst 1, 1) := by decide +kernel
theorem dX12_order_38 : decode cX12_order 38 = .ok (.isub, 1) := by decide +kernel
theorem dX12_order_39 : decode cX12_order 39 = .ok (.invokestatic 95, 3) := by decide +kernel
theorem dX12_order_42 : decode cX12_order 42 = .ok (.ifCond .eq 12, 3) := by decide +kernel
theorem dX12_order_45 : decode cX12_order 45 = .ok (.aload_n 0, 1) := by decide +kernel
theorem dX12_order_46 : decode cX12_order 46 = .ok (.getfield 51, 3) := by decide +kernel
theorem dX12_order_49 : decode cX12_order 49 = .ok (.iload_n 1, 1) := by decide +kernel
theorem dX12_order_50 : decode cX12_order 50 = .ok (.iaload, 1) := by decide +kernel
theorem dX12_order_51 : decode cX12_order 51 = .ok (.goto 4, 3) := by decide +kernel
theorem dX12_order_54 : decode cX12_order 54 = .ok (.iconst (-1), 1) := by decide +kernel
theorem dX12_order_55 : decode cX12_order 55 = .ok (.ireturn, 1) := by decide +kernel
set_option maxRecDepth 100000 in
set_option maxHeartbeats 200000 in
theorem T_X12_order_17 {X : CX} (hX : Ok X cX12_order 2 RX12 (some .int)) (hdx : dX X = 15) {r : Int32 × Hp} (x1 : Int32) (t0 : Int32) (h : Hp) (hf : F_X12_order_17 x1 t0 h = some r) : J X ((.inl (some (.int r.1)), r.2)) 17 [(0, .ref 30), (1, .int x1)] [.int t0, .ref 30] h := by
  unfold F_X12_order_17 at hf
  refine J_iconst hX 1 dX12_order_17 rfl ?_
  obtain ⟨r_1, e_2, hf⟩ := bdE hf
  refine V_1 hX [.int t0, .int 1] dX12_order_18 cw_X12_280 ob_30 rfl (C_X12_throwsIf (okG hX) e_2) (ltD hdx rfl) rfl rfl rfl rfl ?_
  rcases ifE hf with ⟨c_3, hf⟩ | ⟨c_3, hf⟩
  · refine J_if_eqF hX 26 dX12_order_21 rfl (b2iT c_3) ?_
    refine J_iconst hX 0 dX12_order_24 rfl ?_
    exact E_Ii hX dX12_order_25 hf
  · refine J_if_eqT hX 26 dX12_order_21 rfl (b2iF c_3) ?_
    refine J_aload_n hX 0 dX12_order_26 rfl rfl ?_
    obtain ⟨r_4, e_5, hf⟩ := bdE hf
    refine V_1 hX [] dX12_order_27 cw_X12_438 ob_30 rfl (C_X12_bestOrder (okG hX) e_5) (ltD hdx rfl) rfl rfl rfl rfl ?_
    refine J_pop hX dX12_order_30 rfl ?_
    refine J_iload_n hX 1 dX12_order_31 rfl rfl ?_
    refine J_iconst hX 0 dX12_order_32 rfl ?_
    refine J_aload_n hX 0 dX12_order_33 rfl rfl ?_
    refine J_getI hX dX12_order_34 fl_X12_120 ob_30 rfl ?_
    refine J_iconst hX 1 dX12_order_37 rfl ?_
    refine J_isub hX dX12_order_38 ?_
    refine S_1 hX [.int x1, .int 0, .int ((r_4.2 30 13) - 1)] dX12_order_39 cw_X12_95 (C_X12_in (okG hX) rfl) (ltD hdx rfl) rfl rfl rfl rfl ?_
    rcases ifE hf with ⟨c_6, hf⟩ | ⟨c_6, hf⟩
    · refine J_if_eqF hX 54 dX12_order_42 rfl (b2iT c_6) ?_
      refine J_aload_n hX 0 dX12_order_45 rfl rfl ?_
      refine J_getR hX 42 dX12_order_46 fl_X12_51 ob_30 rfl rfl ?_
      refine J_iload_n hX 1 dX12_order_49 rfl rfl ?_
      obtain ⟨g_7, hf⟩ := gdE hf
      refine J_ald hX x1.toNatClampNeg dX12_order_50 ar_42 (Or.inl ⟨rfl, rfl⟩) g_7 rfl ?_
      refine J_goto hX 55 dX12_order_51 rfl ?_
      exact E_Ii hX dX12_order_55 hf
    · refine J_if_eqT hX 54 dX12_order_42 rfl (b2iF c_6) ?_
      refine J_iconst hX (-1) dX12_order_54 rfl ?_
      exact E_Ii hX dX12_order_55 hf
set_option maxRecDepth 100000 in
set_option maxHeartbeats 200000 in
theorem T_X12_order_0 {X : CX} (hX : Ok X cX12_order 2 RX12 (some .int)) (hdx : dX X = 15) {r : Int32 × Hp} (x1 : Int32) (h : Hp) (hf : f_X12_order x1 h = some r) : J X ((.inl (some (.int r.1)), r.2)) 0 [(0, .ref 30), (1, .int x1)] [] h := by
  unfold f_X12_order at hf
  refine J_aload_n hX 0 dX12_order_0 rfl rfl ?_
  obtain ⟨r_1, e_2, hf⟩ := bdE hf
  refine V_0 hX [] dX12_order_1 cw_X12_269 ob_30 rfl (C_X12_uses (okG hX) e_2) (ltD hdx rfl) rfl rfl rfl rfl ?_
  refine J_aload_n hX 0 dX12_order_4 rfl rfl ?_
  refine J_aload_n hX 0 dX12_order_5 rfl rfl ?_
  obtain ⟨r_3, e_4, hf⟩ := bdE hf
  refine V_1 hX [] dX12_order_6 cw_X12_435 ob_30 rfl (C_X12_isOrder (okG hX) e_4) (ltD hdx rfl) rfl rfl rfl rfl ?_
  rcases ifE hf with ⟨c_5, hf⟩ | ⟨c_5, hf⟩
  · refine J_if_neT hX 16 dX12_order_9 rfl (b2iT c_5) ?_
    refine J_iconst hX 0 dX12_order_16 rfl ?_
    exact T_X12_order_17 hX hdx x1 0 r_1 hf
  · refine J_if_neF hX 16 dX12_order_9 rfl (b2iF c_5) ?_
    refine J_iconst hX 1 dX12_order_12 rfl ?_
    refine J_goto hX 17 dX12_order_13 rfl ?_
    exact T_X12_order_17 hX hdx x1 1 r_1 hf
set_option maxRecDepth 100000 in
set_option maxHeartbeats 200000 in
theorem C_X12_order {G : GX} (hG : GOk G) {x1 : Int32} {h : Hp} {r : Int32 × Hp} (hf : f_X12_order x1 h = some r) : Ctr G 15 yX12_order cX12_order 2 (some .int) [.ref 30, .int x1] h ((.inl (some (.int r.1)), r.2)) :=
  Ctr_of hG RX12 rfl (by decide) rfl (fun X _ hdx hX => T_X12_order_0 hX hdx x1 h hf)
theorem dX12_means_0 : decode cX12_means 0 = .ok (.aload_n 0, 1) := by decide +kernel
theorem dX12_means_1 : decode cX12_means 1 = .ok (.invokevirtual 269, 3) := by decide +kernel
theorem dX12_means_4 : decode cX12_means 4 = .ok (.aload_n 0, 1) := by decide +kernel
theorem dX12_means_5 : decode cX12_means 5 = .ok (.aload_n 0, 1) := by decide +kernel
theorem dX12_means_6 : decode cX12_means 6 = .ok (.invokevirtual 435, 3) := by decide +kernel
theorem dX12_means_9 : decode cX12_means 9 = .ok (.ifCond .ne 7, 3) := by decide +kernel
theorem dX12_means_12 : decode cX12_means 12 = .ok (.iconst 1, 1) := by decide +kernel
theorem dX12_means_13 : decode cX12_means 13 = .ok (.goto 4, 3) := by decide +kernel
theorem dX12_means_16 : decode cX12_means 16 = .ok (.iconst 0, 1) := by decide +kernel
theorem dX12_means_17 : decode cX12_means 17 = .ok (.iconst 1, 1) := by decide +kernel
theorem dX12_means_18 : decode cX12_means 18 = .ok (.invokevirtual 280, 3) := by decide +kernel
theorem dX12_means_21 : decode cX12_means 21 = .ok (.ifCond .eq 7, 3) := by decide +kernel
theorem dX12_means_24 : decode cX12_means 24 = .ok (.iconst 0, 1) := by decide +kernel
theorem dX12_means_25 : decode cX12_means 25 = .ok (.goto 7, 3) := by decide +kernel
theorem dX12_means_28 : decode cX12_means 28 = .ok (.aload_n 0, 1) := by decide +kernel
theorem dX12_means_29 : decode cX12_means 29 = .ok (.invokevirtual 438, 3) := by decide +kernel
theorem dX12_means_32 : decode cX12_means 32 = .ok (.ireturn, 1) := by decide +kernel
set_option maxRecDepth 100000 in
set_option maxHeartbeats 200000 in
theorem T_X12_means_17 {X : CX} (hX : Ok X cX12_means 1 RX12 (some .int)) (hdx : dX X = 15) {r : Int32 × Hp} (t0 : Int32) (h : Hp) (hf : F_X12_means_17 t0 h = some r) : J X ((.inl (some (.int r.1)), r.2)) 17 [(0, .ref 30)] [.int t0, .ref 30] h := by
  unfold F_X12_means_17 at hf
  refine J_iconst hX 1 dX12_means_17 rfl ?_
  obtain ⟨r_1, e_2, hf⟩ := bdE hf
  refine V_1 hX [.int t0, .int 1] dX12_means_18 cw_X12_280 ob_30 rfl (C_X12_throwsIf (okG hX) e_2) (ltD hdx rfl) rfl rfl rfl rfl ?_
  rcases ifE hf with ⟨c_3, hf⟩ | ⟨c_3, hf⟩
  · refine J_if_eqF hX 28 dX12_means_21 rfl (b2iT c_3) ?_
    refine J_iconst hX 0 dX12_means_24 rfl ?_
    refine J_goto hX 32 dX12_means_25 rfl ?_
    exact E_Ii hX dX12_means_32 hf
  · refine J_if_eqT hX 28 dX12_means_21 rfl (b2iF c_3) ?_
    refine J_aload_n hX 0 dX12_means_28 rfl rfl ?_
    obtain ⟨r_4, e_5, hf⟩ := bdE hf
    refine V_1 hX [] dX12_means_29 cw_X12_438 ob_30 rfl (C_X12_bestOrder (okG hX) e_5) (ltD hdx rfl) rfl rfl rfl rfl ?_
    exact E_Ii hX dX12_means_32 hf
set_option maxRecDepth 100000 in
set_option maxHeartbeats 200000 in
theorem T_X12_means_0 {X : CX} (hX : Ok X cX12_means 1 RX12 (some .int)) (hdx : dX X = 15) {r : Int32 × Hp} (h : Hp) (hf : f_X12_means h = some r) : J X ((.inl (some (.int r.1)), r.2)) 0 [(0, .ref 30)] [] h := by
  unfold f_X12_means at hf
  refine J_aload_n hX 0 dX12_means_0 rfl rfl ?_
  obtain ⟨r_1, e_2, hf⟩ := bdE hf
  refine V_0 hX [] dX12_means_1 cw_X12_269 ob_30 rfl (C_X12_uses (okG hX) e_2) (ltD hdx rfl) rfl rfl rfl rfl ?_
  refine J_aload_n hX 0 dX12_means_4 rfl rfl ?_
  refine J_aload_n hX 0 dX12_means_5 rfl rfl ?_
  obtain ⟨r_3, e_4, hf⟩ := bdE hf
  refine V_1 hX [] dX12_means_6 cw_X12_435 ob_30 rfl (C_X12_isOrder (okG hX) e_4) (ltD hdx rfl) rfl rfl rfl rfl ?_
  rcases ifE hf with ⟨c_5, hf⟩ | ⟨c_5, hf⟩
  · refine J_if_neT hX 16 dX12_means_9 rfl (b2iT c_5) ?_
    refine J_iconst hX 0 dX12_means_16 rfl ?_
    exact T_X12_means_17 hX hdx 0 r_1 hf
  · refine J_if_neF hX 16 dX12_means_9 rfl (b2iF c_5) ?_
    refine J_iconst hX 1 dX12_means_12 rfl ?_
    refine J_goto hX 17 dX12_means_13 rfl ?_
    exact T_X12_means_17 hX hdx 1 r_1 hf
set_option maxRecDepth 100000 in
set_option maxHeartbeats 200000 in
theorem C_X12_means {G : GX} (hG : GOk G) {h : Hp} {r : Int32 × Hp} (hf : f_X12_means h = some r) : Ctr G 15 yX12_means cX12_means 1 (some .int) [.ref 30] h ((.inl (some (.int r.1)), r.2)) :=
  Ctr_of hG RX12 rfl (by decide) rfl (fun X _ hdx hX => T_X12_means_0 hX hdx h hf)
theorem dX12_isFelt_0 : decode cX12_isFelt 0 = .ok (.aload_n 0, 1) := by decide +kernel
theorem dX12_isFelt_1 : decode cX12_isFelt 1 = .ok (.getfield 120, 3) := by decide +kernel
theorem dX12_isFelt_4 : decode cX12_isFelt 4 = .ok (.iconst 2, 1) := by decide +kernel
theorem dX12_isFelt_5 : decode cX12_isFelt 5 = .ok (.irem, 1) := by decide +kernel
theorem dX12_isFelt_6 : decode cX12_isFelt 6 = .ok (.ifCond .ne 16, 3) := by decide +kernel
theorem dX12_isFelt_9 : decode cX12_isFelt 9 = .ok (.aload_n 0, 1) := by decide +kernel
theorem dX12_isFelt_10 : decode cX12_isFelt 10 = .ok (.getfield 120, 3) := by decide +kernel
theorem dX12_isFelt_13 : decode cX12_isFelt 13 = .ok (.bipush 40, 2) := by decide +kernel
theorem dX12_isFelt_15 : decode cX12_isFelt 15 = .ok (.if_icmp .gt 7, 3) := by decide +kernel
theorem dX12_isFelt_18 : decode cX12_isFelt 18 = .ok (.iconst 1, 1) := by decide +kernel
theorem dX12_isFelt_19 : decode cX12_isFelt 19 = .ok (.goto 4, 3) := by decide +kernel
theorem dX12_isFelt_22 : decode cX12_isFelt 22 = .ok (.iconst 0, 1) := by decide +kernel
theorem dX12_isFelt_23 : decode cX12_isFelt 23 = .ok (.istore_n 1, 1) := by decide +kernel
theorem dX12_isFelt_24 : decode cX12_isFelt 24 = .ok (.iconst 0, 1) := by decide +kernel
theorem dX12_isFelt_25 : decode cX12_isFelt 25 = .ok (.istore_n 2, 1) := by decide +kernel
theorem dX12_isFelt_26 : decode cX12_isFelt 26 = .ok (.iload_n 2, 1) := by decide +kernel
theorem dX12_isFelt_27 : decode cX12_isFelt 27 = .ok (.aload_n 0, 1) := by decide +kernel
theorem dX12_isFelt_28 : decode cX12_isFelt 28 = .ok (.getfield 120, 3) := by decide +kernel
theorem dX12_isFelt_31 : decode cX12_isFelt 31 = .ok (.if_icmp .ge 32, 3) := by decide +kernel
theorem dX12_isFelt_34 : decode cX12_isFelt 34 = .ok (.iload_n 1, 1) := by decide +kernel
theorem dX12_isFelt_35 : decode cX12_isFelt 35 = .ok (.ifCond .eq 28, 3) := by decide +kernel
theorem dX12_isFelt_38 : decode cX12_isFelt 38 = .ok (.aload_n 0, 1) := by decide +kernel
theorem dX12_isFelt_39 : decode cX12_isFelt 39 = .ok (.aload_n 0, 1) := by decide +kernel
theorem dX12_isFelt_40 : decode cX12_isFelt 40 = .ok (.getfield 35, 3) := by decide +kernel
theorem dX12_isFelt_43 : decode cX12_isFelt 43 = .ok (.iload_n 2, 1) := by decide +kernel
theorem dX12_isFelt_44 : decode cX12_isFelt 44 = .ok (.baload, 1) := by decide +kernel
theorem dX12_isFelt_45 : decode cX12_isFelt 45 = .ok (.invokevirtual 392, 3) := by decide +kernel
theorem dX12_isFelt_48 : decode cX12_isFelt 48 = .ok (.ifCond .ne 7, 3) := by decide +kernel
theorem dX12_isFelt_51 : decode cX12_isFelt 51 = .ok (.iconst 1, 1) := by decide +kernel
theorem dX12_isFelt_52 : decode cX12_isFelt 52 = .ok (.goto 4, 3) := by decide +kernel
theorem dX12_isFelt_55 : decode cX12_isFelt 55 = .ok (.iconst 0, 1) := by decide +kernel
theorem dX12_isFelt_56 : decode cX12_isFelt 56 = .ok (.istore_n 1, 1) := by decide +kernel
theorem dX12_isFelt_57 : decode cX12_isFelt 57 = .ok (.iinc 2 2, 3) := by decide +kernel
theorem dX12_isFelt_60 : decode cX12_isFelt 60 = .ok (.goto (-34), 3) := by decide +kernel
theorem dX12_isFelt_63 : decode cX12_isFelt 63 = .ok (.iload_n 1, 1) := by decide +kernel
theorem dX12_isFelt_64 : decode cX12_isFelt 64 = .ok (.ireturn, 1) := by decide +kernel
set_option maxRecDepth 100000 in
set_option maxHeartbeats 200000 in
theorem T_X12_isFelt_26_s {X : CX} (hX : Ok X cX12_isFelt 3 RX12 (some .boolean)) (hdx : dX X = 4) {r : Bool} (h : Hp) (q_26 : Int32 → Int32 → Option Bool) (hq_26 : ∀ (x1 : Int32) (x2 : Int32), q_26 x1 x2 = some r → J X ((.inl (some (.int (b2i r))), h)) 26 [(0, .ref 30), (1, .int x1), (2, .int x2)] [] h) (x1 : Int32) (x2 : Int32) (hf : S_X12_isFelt_26 h q_26 x1 x2 = some r) : J X ((.inl (some (.int (b2i r))), h)) 26 [(0, .ref 30), (1, .int x1), (2, .int x2)] [] h := by
  unfold S_X12_isFelt_26 at hf
  refine J_iload_n hX 2 dX12_isFelt_26 rfl rfl ?_
  refine J_aload_n hX 0 dX12_isFelt_27 rfl rfl ?_
  refine J_getI hX dX12_isFelt_28 fl_X12_120 ob_30 rfl ?_
  rcases ifE hf with ⟨c_1, hf⟩ | ⟨c_1, hf⟩
  · refine J_icmp_geF hX 63 dX12_isFelt_31 rfl c_1 ?_
    refine J_iload_n hX 1 dX12_isFelt_34 rfl rfl ?_
    rcases ifE hf with ⟨c_2, hf⟩ | ⟨c_2, hf⟩
    · refine J_if_eqT hX 63 dX12_isFelt_35 rfl c_2 ?_
      refine J_iload_n hX 1 dX12_isFelt_63 rfl rfl ?_
      obtain ⟨b_3, e_4, hf⟩ := bdE hf
      exact E_Zp hX dX12_isFelt_64 (toBE e_4) hf
    · refine J_if_eqF hX 63 dX12_isFelt_35 rfl c_2 ?_
      refine J_aload_n hX 0 dX12_isFelt_38 rfl rfl ?_
      refine J_aload_n hX 0 dX12_isFelt_39 rfl rfl ?_
      refine J_getR hX 38 dX12_isFelt_40 fl_X12_35 ob_30 rfl rfl ?_
      refine J_iload_n hX 2 dX12_isFelt_43 rfl rfl ?_
      obtain ⟨g_5, hf⟩ := gdE hf
      refine J_ald hX x2.toNatClampNeg dX12_isFelt_44 ar_38 (Or.inr (Or.inl ⟨rfl, rfl⟩)) g_5 rfl ?_
      refine V_1 hX [.int (h 38 x2.toNatClampNeg)] dX12_isFelt_45 cw_X12_392 ob_30 rfl (C_X12_noHouse (okG hX) rfl) (ltD hdx rfl) rfl rfl rfl rfl ?_
      rcases ifE hf with ⟨c_6, hf⟩ | ⟨c_6, hf⟩
      · refine J_if_neT hX 55 dX12_isFelt_48 rfl (b2iT c_6) ?_
        refine J_iconst hX 0 dX12_isFelt_55 rfl ?_
        refine J_istore_n hX [(1, .int 0), (0, .ref 30), (2, .int x2)] dX12_isFelt_56 rfl rfl rfl ?_
        refine J_iinc hX (x2 + 2) 2 [(2, .int (x2 + 2)), (1, .int 0), (0, .ref 30)] dX12_isFelt_57 rfl rfl rfl rfl ?_
        refine J_goto hX 26 dX12_isFelt_60 rfl ?_
        refine J_sub [2, 1, 0] [(0, .ref 30), (1, .int 0), (2, .int (x2 + 2))] rfl ?_
        exact hq_26 0 (x2 + 2) hf
      · refine J_if_neF hX 55 dX12_isFelt_48 rfl (b2iF c_6) ?_
        refine J_iconst hX 1 dX12_isFelt_51 rfl ?_
        refine J_goto hX 56 dX12_isFelt_52 rfl ?_
        refine J_istore_n hX [(1, .int 1), (0, .ref 30), (2, .int x2)] dX12_isFelt_56 rfl rfl rfl ?_
        refine J_iinc hX (x2 + 2) 2 [(2, .int (x2 + 2)), (1, .int 1), (0, .ref 30)] dX12_isFelt_57 rfl rfl rfl rfl ?_
        refine J_goto hX 26 dX12_isFelt_60 rfl ?_
        refine J_sub [2, 1, 0] [(0, .ref 30), (1, .int 1), (2, .int (x2 + 2))] rfl ?_
        exact hq_26 1 (x2 + 2) hf
  · refine J_icmp_geT hX 63 dX12_isFelt_31 rfl c_1 ?_
    refine J_iload_n hX 1 dX12_isFelt_63 rfl rfl ?_
    obtain ⟨b_7, e_8, hf⟩ := bdE hf
    exact E_Zp hX dX12_isFelt_64 (toBE e_8) hf
set_option maxRecDepth 100000 in
set_option maxHeartbeats 200000 in
theorem T_X12_isFelt_26 {X : CX} (hX : Ok X cX12_isFelt 3 RX12 (some .boolean)) (hdx : dX X = 4) {r : Bool} (h : Hp) : ∀ (n : Nat) (x1 : Int32) (x2 : Int32), F_X12_isFelt_26 h n x1 x2 = some r → J X ((.inl (some (.int (b2i r))), h)) 26 [(0, .ref 30), (1, .int x1), (2, .int x2)] [] h := by
  intro n
  induction n with
  | zero => intro x1 x2 hf; exact nomatch hf
  | succ n ih => intro x1 x2 hf; exact T_X12_isFelt_26_s hX hdx h _ (fun x1 x2 hf => ih x1 x2 hf) x1 x2 hf
set_option maxRecDepth 100000 in
set_option maxHeartbeats 200000 in
theorem T_X12_isFelt_0 {X : CX} (hX : Ok X cX12_isFelt 3 RX12 (some .boolean)) (hdx : dX X = 4) {r : Bool} (h : Hp) (hf : f_X12_isFelt h = some r) : J X ((.inl (some (.int (b2i r))), h)) 0 [(0, .ref 30)] [] h := by
  unfold f_X12_isFelt at hf
  refine J_aload_n hX 0 dX12_isFelt_0 rfl rfl ?_
  refine J_getI hX dX12_isFelt_1 fl_X12_120 ob_30 rfl ?_
  refine J_iconst hX 2 dX12_isFelt_4 rfl ?_
  refine J_irem hX (by decide) dX12_isFelt_5 ?_
  rcases ifE hf with ⟨c_1, hf⟩ | ⟨c_1, hf⟩
  · refine J_if_neF hX 22 dX12_isFelt_6 rfl c_1 ?_
    refine J_aload_n hX 0 dX12_isFelt_9 rfl rfl ?_
    refine J_getI hX dX12_isFelt_10 fl_X12_120 ob_30 rfl ?_
    refine J_bipush hX 40 dX12_isFelt_13 rfl ?_
    rcases ifE hf with ⟨c_2, hf⟩ | ⟨c_2, hf⟩
    · refine J_icmp_gtT hX 22 dX12_isFelt_15 rfl c_2 ?_
      refine J_iconst hX 0 dX12_isFelt_22 rfl ?_
      refine J_istore_n hX [(1, .int 0), (0, .ref 30)] dX12_isFelt_23 rfl rfl rfl ?_
      refine J_iconst hX 0 dX12_isFelt_24 rfl ?_
      refine J_istore_n hX [(2, .int 0), (1, .int 0), (0, .ref 30)] dX12_isFelt_25 rfl rfl rfl ?_
      refine J_sub [2, 1, 0] [(0, .ref 30), (1, .int 0), (2, .int 0)] rfl ?_
      exact T_X12_isFelt_26 hX hdx h FU 0 0 hf
    · refine J_icmp_gtF hX 22 dX12_isFelt_15 rfl c_2 ?_
      refine J_iconst hX 1 dX12_isFelt_18 rfl ?_
      refine J_goto hX 23 dX12_isFelt_19 rfl ?_
      refine J_istore_n hX [(1, .int 1), (0, .ref 30)] dX12_isFelt_23 rfl rfl rfl ?_
      refine J_iconst hX 0 dX12_isFelt_24 rfl ?_
      refine J_istore_n hX [(2, .int 0), (1, .int 1), (0, .ref 30)] dX12_isFelt_25 rfl rfl rfl ?_
      refine J_sub [2, 1, 0] [(0, .ref 30), (1, .int 1), (2, .int 0)] rfl ?_
      exact T_X12_isFelt_26 hX hdx h FU 1 0 hf
  · refine J_if_neT hX 22 dX12_isFelt_6 rfl c_1 ?_
    refine J_iconst hX 0 dX12_isFelt_22 rfl ?_
    refine J_istore_n hX [(1, .int 0), (0, .ref 30)] dX12_isFelt_23 rfl rfl rfl ?_
    refine J_iconst hX 0 dX12_isFelt_24 rfl ?_
    refine J_istore_n hX [(2, .int 0), (1, .int 0), (0, .ref 30)] dX12_isFelt_25 rfl rfl rfl ?_
    refine J_sub [2, 1, 0] [(0, .ref 30), (1, .int 0), (2, .int 0)] rfl ?_
    exact T_X12_isFelt_26 hX hdx h FU 0 0 hf
set_option maxRecDepth 100000 in
set_option maxHeartbeats 200000 in
theorem C_X12_isFelt {G : GX} (hG : GOk G) {h : Hp} {r : Bool} (hf : f_X12_isFelt h = some r) : Ctr G 4 yX12_isFelt cX12_isFelt 3 (some .boolean) [.ref 30] h ((.inl (some (.int (b2i r))), h)) :=
  Ctr_of hG RX12 rfl (by decide) rfl (fun X _ hdx hX => T_X12_isFelt_0 hX hdx h hf)
theorem dX12_laysBroken_0 : decode cX12_laysBroken 0 = .ok (.iconst 0, 1) := by decide +kernel
theorem dX12_laysBroken_1 : decode cX12_laysBroken 1 = .ok (.istore_n 1, 1) := by decide +kernel
theorem dX12_laysBroken_2 : decode cX12_laysBroken 2 = .ok (.iload_n 1, 1) := by decide +kernel
theorem dX12_laysBroken_3 : decode cX12_laysBroken 3 = .ok (.bipush 64, 2) := by decide +kernel
theorem dX12_laysBroken_5 : decode cX12_laysBroken 5 = .ok (.if_icmp .gt 129, 3) := by decide +kernel
theorem dX12_laysBroken_8 : decode cX12_laysBroken 8 = .ok (.iload_n 1, 1) := by decide +kernel
theorem dX12_laysBroken_9 : decode cX12_laysBroken 9 = .ok (.bipush 64, 2) := by decide +kernel
theorem dX12_laysBroken_11 : decode cX12_laysBroken 11 = .ok (.if_icmp .ne 7, 3) := by decide +kernel
theorem dX12_laysBroken_14 : decode cX12_laysBroken 14 = .ok (.iconst 0, 1) := by decide +kernel
theorem dX12_laysBroken_15 : decode cX12_laysBroken 15 = .ok (.goto 12, 3) := by decide +kernel
theorem dX12_laysBroken_18 : decode cX12_laysBroken 18 = .ok (.aload_n 0, 1) := by decide +kernel
theorem dX12_laysBroken_19 : decode cX12_laysBroken 19 = .ok (.getfield 13, 3) := by decide +kernel
theorem dX12_laysBroken_22 : decode cX12_laysBroken 22 = .ok (.bipush 10, 2) := by decide +kernel
theorem dX12_laysBroken_24 : decode cX12_laysBroken 24 = .ok (.iload_n 1, 1) := by decide +kernel
theorem dX12_laysBroken_25 : decode cX12_laysBroken 25 = .ok (.iadd, 1) := by decide +kernel
theorem dX12_laysBroken_26 : decode cX12_laysBroken 26 = .ok (.iaload, 1) := by decide +kernel
theorem dX12_laysBroken_27 : decode cX12_laysBroken 27 = .ok (.istore_n 2, 1) := by decide +kernel
theorem dX12_laysBroken_28 : decode cX12_laysBroken 28 = .ok (.aload_n 0, 1) := by decide +kernel
theorem dX12_laysBroken_29 : decode cX12_laysBroken 29 = .ok (.getfield 54, 3) := by decide +kernel
theorem dX12_laysBroken_32 : decode cX12_laysBroken 32 = .ok (.iload_n 1, 1) := by decide +kernel
theorem dX12_laysBroken_33 : decode cX12_laysBroken 33 = .ok (.iload_n 1, 1) := by decide +kernel
theorem dX12_laysBroken_34 : decode cX12_laysBroken 34 = .ok (.bipush 64, 2) := by decide +kernel
theorem dX12_laysBroken_36 : decode cX12_laysBroken 36 = .ok (.if_icmp .eq 7, 3) := by decide +kernel
theorem dX12_laysBroken_39 : decode cX12_laysBroken 39 = .ok (.iload_n 2, 1) := by decide +kernel
theorem dX12_laysBroken_40 : decode cX12_laysBroken 40 = .ok (.ifCond .le 7, 3) := by decide +kernel
theorem dX12_laysBroken_43 : decode cX12_laysBroken 43 = .ok (.iconst 1, 1) := by decide +kernel
theorem dX12_laysBroken_44 : decode cX12_laysBroken 44 = .ok (.goto 4, 3) := by decide +kernel
theorem dX12_laysBroken_47 : decode cX12_laysBroken 47 = .ok (.iconst 0, 1) := by decide +kernel
theorem dX12_laysBroken_48 : decode cX12_laysBroken 48 = .ok (.bastore, 1) := by decide +kernel
theorem dX12_laysBroken_49 : decode cX12_laysBroken 49 = .ok (.aload_n 0, 1) := by decide +kernel
theorem dX12_laysBroken_50 : decode cX12_laysBroken 50 = .ok (.getfield 54, 3) := by decide +kernel
theorem dX12_laysBroken_53 : decode cX12_laysBroken 53 = .ok (.iload_n 1, 1) := by decide +kernel
theorem dX12_laysBroken_54 : decode cX12_laysBroken 54 = .ok (.baload, 1) := by decide +kernel
theorem dX12_laysBroken_55 : decode cX12_laysBroken 55 = .ok (.ifCond .ne 6, 3) := by decide +kernel
theorem dX12_laysBroken_58 : decode cX12_laysBroken 58 = .ok (.goto 70, 3) := by decide +kernel
theorem dX12_laysBroken_61 : decode cX12_laysBroken 61 = .ok (.iload_n 1, 1) := by decide +kernel
theorem dX12_laysBroken_62 : decode cX12_laysBroken 62 = .ok (.bipush 64, 2) := by decide +kernel
theorem dX12_laysBroken_64 : decode cX12_laysBroken 64 = .ok (.if_icmp .ge 13, 3) := by decide +kernel
theorem dX12_laysBroken_67 : decode cX12_laysBroken 67 = .ok (.aload_n 0, 1) := by decide +kernel
theorem dX12_laysBroken_68 : decode cX12_laysBroken 68 = .ok (.getfield 13, 3) := by decide +kernel
theorem dX12_laysBroken_71 : decode cX12_laysBroken 71 = .ok (.bipush 10, 2) := by decide +kernel
theorem dX12_laysBroken_73 : decode cX12_laysBroken 73 = .ok (.iload_n 1, 1) := by decide +kernel
theorem dX12_laysBroken_74 : decode cX12_laysBroken 74 = .ok (.iadd, 1) := by decide +kernel
theorem dX12_laysBroken_75 : decode cX12_laysBroken 75 = .ok (.iconst 0, 1) := by decide +kernel
theorem dX12_laysBroken_76 : decode cX12_laysBroken 76 = .ok (.iastore, 1) := by decide +kernel
theorem dX12_laysBroken_77 : decode cX12_laysBroken 77 = .ok (.aload_n 0, 1) := by decide +kernel
theorem dX12_laysBroken_78 : decode cX12_laysBroken 78 = .ok (.invokevirtual 347, 3) := by decide +kernel
theorem dX12_laysBroken_81 : decode cX12_laysBroken 81 = .ok (.iload_n 1, 1) := by decide +kernel
theorem dX12_laysBroken_82 : decode cX12_laysBroken 82 = .ok (.bipush 64, 2) := by decide +kernel
theorem dX12_laysBroken_84 : decode cX12_laysBroken 84 = .ok (.if_icmp .ge 13, 3) := by decide +kernel
theorem dX12_laysBroken_87 : decode cX12_laysBroken 87 = .ok (.aload_n 0, 1) := by decide +kernel
theorem dX12_laysBroken_88 : decode cX12_laysBroken 88 = .ok (.getfield 13, 3) := by decide +kernel
theorem dX12_laysBroken_91 : decode cX12_laysBroken 91 = .ok (.bipush 10, 2) := by decide +kernel
theorem dX12_laysBroken_93 : decode cX12_laysBroken 93 = .ok (.iload_n 1, 1) := by decide +kernel
theorem dX12_laysBroken_94 : decode cX12_laysBroken 94 = .ok (.iadd, 1) := by decide +kernel
theorem dX12_laysBroken_95 : decode cX12_laysBroken 95 = .ok (.iload_n 2, 1) := by decide +kernel
theorem dX12_laysBroken_96 : decode cX12_laysBroken 96 = .ok (.iastore, 1) := by decide +kernel
theorem dX12_laysBroken_97 : decode cX12_laysBroken 97 = .ok (.iconst 0, 1) := by decide +kernel
theorem dX12_laysBroken_98 : decode cX12_laysBroken 98 = .ok (.istore_n 3, 1) := by decide +kernel
theorem dX12_laysBroken_99 : decode cX12_laysBroken 99 = .ok (.iload_n 3, 1) := by decide +kernel
theorem dX12_laysBroken_100 : decode cX12_laysBroken 100 = .ok (.bipush 8, 2) := by decide +kernel
theorem dX12_laysBroken_102 : decode cX12_laysBroken 102 = .ok (.if_icmp .ge 26, 3) := by decide +kernel
theorem dX12_laysBroken_105 : decode cX12_laysBroken 105 = .ok (.aload_n 0, 1) := by decide +kernel
theorem dX12_laysBroken_106 : decode cX12_laysBroken 106 = .ok (.getfield 58, 3) := by decide +kernel
theorem dX12_laysBroken_109 : decode cX12_laysBroken 109 = .ok (.bipush 8, 2) := by decide +kernel
theorem dX12_laysBroken_111 : decode cX12_laysBroken 111 = .ok (.iload_n 1, 1) := by decide +kernel
theorem dX12_laysBroken_112 : decode cX12_laysBroken 112 = .ok (.imul, 1) := by decide +kernel
theorem dX12_laysBroken_113 : decode cX12_laysBroken 113 = .ok (.iload_n 3, 1) := by decide +kernel
theorem dX12_laysBroken_114 : decode cX12_laysBroken 114 = .ok (.iadd, 1) := by decide +kernel
theorem dX12_laysBroken_115 : decode cX12_laysBroken 115 = .ok (.aload_n 0, 1) := by decide +kernel
theorem dX12_laysBroken_116 : decode cX12_laysBroken 116 = .ok (.getfield 29, 3) := by decide +kernel
theorem dX12_laysBroken_119 : decode cX12_laysBroken 119 = .ok (.iload_n 3, 1) := by decide +kernel
theorem dX12_laysBroken_120 : decode cX12_laysBroken 120 = .ok (.iaload, 1) := by decide +kernel
theorem dX12_laysBroken_121 : decode cX12_laysBroken 121 = .ok (.iastore, 1) := by decide +kernel
theorem dX12_laysBroken_122 : decode cX12_laysBroken 122 = .ok (.iinc 3 1, 3) := by decide +kernel
theorem dX12_laysBroken_125 : decode cX12_laysBroken 125 = .ok (.goto (-26), 3) := by decide +kernel
theorem dX12_laysBroken_128 : decode cX12_laysBroken 128 = .ok (.iinc 1 1, 3) := by decide +kernel
theorem dX12_laysBroken_131 : decode cX12_laysBroken 131 = .ok (.goto (-129), 3) := by decide +kernel
theorem dX12_laysBroken_134 : decode cX12_laysBroken 134 = .ok (.return_, 1) := by decide +kernel
set_option maxRecDepth 100000 in
set_option maxHeartbeats 200000 in
theorem T_X12_laysBroken_99_s {X : CX} (hX : Ok X cX12_laysBroken 4 RX12 none) (hdx : dX X = 7) {r : Hp} (x1 : Int32) (q_2 : Int32 → Hp → Option Hp) (hq_2 : ∀ (x1 : Int32) (h : Hp), q_2 x1 h = some r → J X ((.inl none, r)) 2 [(0, .ref 30), (1, .int x1)] [] h) (q_99 : Int32 → Hp → Option Hp) (hq_99 : ∀ (x3 : Int32) (h : Hp), q_99 x3 h = some r → J X ((.inl none, r)) 99 [(0, .ref 30), (1, .int x1), (3, .int x3)] [] h) (x3 : Int32) (h : Hp) (hf : S_X12_laysBroken_99 q_2 x1 q_99 x3 h = some r) : J X ((.inl none, r)) 99 [(0, .ref 30), (1, .int x1), (3, .int x3)] [] h := by
  unfold S_X12_laysBroken_99 at hf
  refine J_iload_n hX 2 dX12_laysBroken_99 rfl rfl ?_
  refine J_bipush hX 8 dX12_laysBroken_100 rfl ?_
  rcases ifE hf with ⟨c_1, hf⟩ | ⟨c_1, hf⟩
  · refine J_icmp_geF hX 128 dX12_laysBroken_102 rfl c_1 ?_
    refine J_aload_n hX 0 dX12_laysBroken_105 rfl rfl ?_
    refine J_getR hX 44 dX12_laysBroken_106 fl_X12_58 ob_30 rfl rfl ?_
    refine J_bipush hX 8 dX12_laysBroken_109 rfl ?_
    refine J_iload_n hX 1 dX12_laysBroken_111 rfl rfl ?_
    refine J_imul hX dX12_laysBroken_112 ?_
    refine J_iload_n hX 2 dX12_laysBroken_113 rfl rfl ?_
    refine J_iadd hX dX12_laysBroken_114 ?_
    refine J_aload_n hX 0 dX12_laysBroken_115 rfl rfl ?_
    refine J_getR hX 36 dX12_laysBroken_116 fl_X12_29 ob_30 rfl rfl ?_
    refine J_iload_n hX 2 dX12_laysBroken_119 rfl rfl ?_
    obtain ⟨g_2, hf⟩ := gdE hf
    refine J_ald hX x3.toNatClampNeg dX12_laysBroken_120 ar_36 (Or.inl ⟨rfl, rfl⟩) g_2 rfl ?_
    obtain ⟨g_3, hf⟩ := gdE hf
    obtain ⟨h_4, e_5, hf⟩ := bndE hf
    refine J_ast hX (((8 * x1) + x3).toNatClampNeg) (h 36 x3.toNatClampNeg) dX12_laysBroken_121 ar_44 (Or.inl ⟨rfl, rfl, rfl⟩) g_3 rfl ?_
    refine J_nmh e_5 ?_
    refine J_iinc hX (x3 + 1) 2 [(3, .int (x3 + 1)), (0, .ref 30), (1, .int x1)] dX12_laysBroken_122 rfl rfl rfl rfl ?_
    refine J_goto hX 99 dX12_laysBroken_125 rfl ?_
    refine J_sub [1, 2, 0] [(0, .ref 30), (1, .int x1), (3, .int (x3 + 1))] rfl ?_
    exact hq_99 (x3 + 1) h_4 hf
  · refine J_icmp_geT hX 128 dX12_laysBroken_102 rfl c_1 ?_
    refine J_iinc hX (x1 + 1) 1 [(1, .int (x1 + 1)), (0, .ref 30), (3, .int x3)] dX12_laysBroken_128 rfl rfl rfl rfl ?_
    refine J_goto hX 2 dX12_laysBroken_131 rfl ?_
    refine J_sub [1, 0] [(0, .ref 30), (1, .int (x1 + 1))] rfl ?_
    exact hq_2 (x1 + 1) h hf
set_option maxRecDepth 100000 in
set_option maxHeartbeats 200000 in
theorem T_X12_laysBroken_99 {X : CX} (hX : Ok X cX12_laysBroken 4 RX12 none) (hdx : dX X = 7) {r : Hp} (x1 : Int32) (q_2 : Int32 → Hp → Option Hp) (hq_2 : ∀ (x1 : Int32) (h : Hp), q_2 x1 h = some r → J X ((.inl none, r)) 2 [(0, .ref 30), (1, .int x1)] [] h) : ∀ (n : Nat) (x3 : Int32) (h : Hp), F_X12_laysBroken_99 q_2 x1 n x3 h = some r → J X ((.inl none, r)) 99 [(0, .ref 30), (1, .int x1), (3, .int x3)] [] h := by
  intro n
  induction n with
  | zero => intro x3 h hf; exact nomatch hf
  | succ n ih => intro x3 h hf; exact T_X12_laysBroken_99_s hX hdx x1 q_2 hq_2 _ (fun x3 h hf => ih x3 h hf) x3 h hf
set_option maxRecDepth 100000 in
set_option maxHeartbeats 200000 in
theorem T_X12_laysBroken_77 {X : CX} (hX : Ok X cX12_laysBroken 4 RX12 none) (hdx : dX X = 7) {r : Hp} (x1 : Int32) (x2 : Int32) (q_2 : Int32 → Hp → Option Hp) (hq_2 : ∀ (x1 : Int32) (h : Hp), q_2 x1 h = some r → J X ((.inl none, r)) 2 [(0, .ref 30), (1, .int x1)] [] h) (h : Hp) (hf : F_X12_laysBroken_77 q_2 x1 x2 h = some r) : J X ((.inl none, r)) 77 [(0, .ref 30), (1, .int x1), (2, .int x2)] [] h := by
  unfold F_X12_laysBroken_77 at hf
  refine J_aload_n hX 0 dX12_laysBroken_77 rfl rfl ?_
  obtain ⟨r_1, e_2, hf⟩ := bdE hf
  refine V_0 hX [] dX12_laysBroken_78 cw_X12_347 ob_30 rfl (C_X12_lays (okG hX) e_2) (ltD hdx rfl) rfl rfl rfl rfl ?_
  refine J_iload_n hX 1 dX12_laysBroken_81 rfl rfl ?_
  refine J_bipush hX 64 dX12_laysBroken_82 rfl ?_
  rcases ifE hf with ⟨c_3, hf⟩ | ⟨c_3, hf⟩
  · refine J_icmp_geF hX 97 dX12_laysBroken_84 rfl c_3 ?_
    refine J_aload_n hX 0 dX12_laysBroken_87 rfl rfl ?_
    refine J_getR hX 31 dX12_laysBroken_88 fl_X12_13 ob_30 rfl rfl ?_
    refine J_bipush hX 10 dX12_laysBroken_91 rfl ?_
    refine J_iload_n hX 1 dX12_laysBroken_93 rfl rfl ?_
    refine J_iadd hX dX12_laysBroken_94 ?_
    refine J_iload_n hX 2 dX12_laysBroken_95 rfl rfl ?_
    obtain ⟨g_4, hf⟩ := gdE hf
    obtain ⟨h_5, e_6, hf⟩ := bndE hf
    refine J_ast hX ((10 + x1).toNatClampNeg) x2 dX12_laysBroken_96 ar_31 (Or.inl ⟨rfl, rfl, rfl⟩) g_4 rfl ?_
    refine J_nmh e_6 ?_
    refine J_iconst hX 0 dX12_laysBroken_97 rfl ?_
    refine J_istore_n hX [(3, .int 0), (0, .ref 30), (1, .int x1), (2, .int x2)] dX12_laysBroken_98 rfl rfl rfl ?_
    refine J_sub [1, 2, 0] [(0, .ref 30), (1, .int x1), (3, .int 0)] rfl ?_
    exact T_X12_laysBroken_99 hX hdx x1 q_2 hq_2 FU 0 h_5 hf
  · refine J_icmp_geT hX 97 dX12_laysBroken_84 rfl c_3 ?_
    refine J_iconst hX 0 dX12_laysBroken_97 rfl ?_
    refine J_istore_n hX [(3, .int 0), (0, .ref 30), (1, .int x1), (2, .int x2)] dX12_laysBroken_98 rfl rfl rfl ?_
    refine J_sub [1, 2, 0] [(0, .ref 30), (1, .int x1), (3, .int 0)] rfl ?_
    exact T_X12_laysBroken_99 hX hdx x1 q_2 hq_2 FU 0 r_1 hf
set_option maxRecDepth 100000 in
set_option maxHeartbeats 200000 in
theorem T_X12_laysBroken_48 {X : CX} (hX : Ok X cX12_laysBroken 4 RX12 none) (hdx : dX X = 7) {r : Hp} (x1 : Int32) (x2 : Int32) (t0 : Int32) (t1 : Int32) (q_2 : Int32 → Hp → Option Hp) (hq_2 : ∀ (x1 : Int32) (h : Hp), q_2 x1 h = some r → J X ((.inl none, r)) 2 [(0, .ref 30), (1, .int x1)] [] h) (h : Hp) (hf : F_X12_laysBroken_48 q_2 x1 x2 t0 t1 h = some r) : J X ((.inl none, r)) 48 [(0, .ref 30), (1, .int x1), (2, .int x2)] [.int t0, .int t1, .ref 43] h := by
  unfold F_X12_laysBroken_48 at hf
  obtain ⟨g_1, hf⟩ := gdE hf
  obtain ⟨h_2, e_3, hf⟩ := bndE hf
  refine J_ast hX t1.toNatClampNeg (vp_nar .boolean t0) dX12_laysBroken_48 ar_43 (Or.inr (Or.inr ⟨rfl, rfl, rfl⟩)) g_1 rfl ?_
  refine J_nmh e_3 ?_
  refine J_aload_n hX 0 dX12_laysBroken_49 rfl rfl ?_
  refine J_getR hX 43 dX12_laysBroken_50 fl_X12_54 ob_30 rfl rfl ?_
  refine J_iload_n hX 1 dX12_laysBroken_53 rfl rfl ?_
  obtain ⟨g_4, hf⟩ := gdE hf
  refine J_ald hX x1.toNatClampNeg dX12_laysBroken_54 ar_43 (Or.inr (Or.inr ⟨rfl, rfl⟩)) g_4 rfl ?_
  rcases ifE hf with ⟨c_5, hf⟩ | ⟨c_5, hf⟩
  · refine J_if_neF hX 61 dX12_laysBroken_55 rfl c_5 ?_
    refine J_goto hX 128 dX12_laysBroken_58 rfl ?_
    refine J_iinc hX (x1 + 1) 1 [(1, .int (x1 + 1)), (0, .ref 30), (2, .int x2)] dX12_laysBroken_128 rfl rfl rfl rfl ?_
    refine J_goto hX 2 dX12_laysBroken_131 rfl ?_
    refine J_sub [1, 0] [(0, .ref 30), (1, .int (x1 + 1))] rfl ?_
    exact hq_2 (x1 + 1) h_2 hf
  · refine J_if_neT hX 61 dX12_laysBroken_55 rfl c_5 ?_
    refine J_iload_n hX 1 dX12_laysBroken_61 rfl rfl ?_
    refine J_bipush hX 64 dX12_laysBroken_62 rfl ?_
    rcases ifE hf with ⟨c_6, hf⟩ | ⟨c_6, hf⟩
    · refine J_icmp_geF hX 77 dX12_laysBroken_64 rfl c_6 ?_
      refine J_aload_n hX 0 dX12_laysBroken_67 rfl rfl ?_
      refine J_getR hX 31 dX12_laysBroken_68 fl_X12_13 ob_30 rfl rfl ?_
      refine J_bipush hX 10 dX12_laysBroken_71 rfl ?_
      refine J_iload_n hX 1 dX12_laysBroken_73 rfl rfl ?_
      refine J_iadd hX dX12_laysBroken_74 ?_
      refine J_iconst hX 0 dX12_laysBroken_75 rfl ?_
      obtain ⟨g_7, hf⟩ := gdE hf
      obtain ⟨h_8, e_9, hf⟩ := bndE hf
      refine J_ast hX ((10 + x1).toNatClampNeg) 0 dX12_laysBroken_76 ar_31 (Or.inl ⟨rfl, rfl, rfl⟩) g_7 rfl ?_
      refine J_nmh e_9 ?_
      exact T_X12_laysBroken_77 hX hdx x1 x2 q_2 hq_2 h_8 hf
    · refine J_icmp_geT hX 77 dX12_laysBroken_64 rfl c_6 ?_
      exact T_X12_laysBroken_77 hX hdx x1 x2 q_2 hq_2 h_2 hf
set_option maxRecDepth 100000 in
set_option maxHeartbeats 200000 in
theorem T_X12_laysBroken_27 {X : CX} (hX : Ok X cX12_laysBroken 4 RX12 none) (hdx : dX X = 7) {r : Hp} (x1 : Int32) (t0 : Int32) (q_2 : Int32 → Hp → Option Hp) (hq_2 : ∀ (x1 : Int32) (h : Hp), q_2 x1 h = some r → J X ((.inl none, r)) 2 [(0, .ref 30), (1, .int x1)] [] h) (h : Hp) (hf : F_X12_laysBroken_27 q_2 x1 t0 h = some r) : J X ((.inl none, r)) 27 [(0, .ref 30), (1, .int x1)] [.int t0] h := by
  unfold F_X12_laysBroken_27 at hf
  refine J_istore_n hX [(2, .int t0), (0, .ref 30), (1, .int x1)] dX12_laysBroken_27 rfl rfl rfl ?_
  refine J_aload_n hX 1 dX12_laysBroken_28 rfl rfl ?_
  refine J_getR hX 43 dX12_laysBroken_29 fl_X12_54 ob_30 rfl rfl ?_
  refine J_iload_n hX 2 dX12_laysBroken_32 rfl rfl ?_
  refine J_iload_n hX 2 dX12_laysBroken_33 rfl rfl ?_
  refine J_bipush hX 64 dX12_laysBroken_34 rfl ?_
  rcases ifE hf with ⟨c_1, hf⟩ | ⟨c_1, hf⟩
  · refine J_icmp_eqT hX 43 dX12_laysBroken_36 rfl c_1 ?_
    refine J_iconst hX 1 dX12_laysBroken_43 rfl ?_
    refine J_goto hX 48 dX12_laysBroken_44 rfl ?_
    refine J_sub [1, 2, 0] [(0, .ref 30), (1, .int x1), (2, .int t0)] rfl ?_
    exact T_X12_laysBroken_48 hX hdx x1 t0 1 x1 q_2 hq_2 h hf
  · refine J_icmp_eqF hX 43 dX12_laysBroken_36 rfl c_1 ?_
    refine J_iload_n hX 0 dX12_laysBroken_39 rfl rfl ?_
    rcases ifE hf with ⟨c_2, hf⟩ | ⟨c_2, hf⟩
    · refine J_if_leF hX 47 dX12_laysBroken_40 rfl c_2 ?_
      refine J_iconst hX 1 dX12_laysBroken_43 rfl ?_
      refine J_goto hX 48 dX12_laysBroken_44 rfl ?_
      refine J_sub [1, 2, 0] [(0, .ref 30), (1, .int x1), (2, .int t0)] rfl ?_
      exact T_X12_laysBroken_48 hX hdx x1 t0 1 x1 q_2 hq_2 h hf
    · refine J_if_leT hX 47 dX12_laysBroken_40 rfl c_2 ?_
      refine J_iconst hX 0 dX12_laysBroken_47 rfl ?_
      refine J_sub [1, 2, 0] [(0, .ref 30), (1, .int x1), (2, .int t0)] rfl ?_
      exact T_X12_laysBroken_48 hX hdx x1 t0 0 x1 q_2 hq_2 h hf
set_option maxRecDepth 100000 in
set_option maxHeartbeats 200000 in
theorem T_X12_laysBroken_2_s {X : CX} (hX : Ok X cX12_laysBroken 4 RX12 none) (hdx : dX X = 7) {r : Hp} (q_2 : Int32 → Hp → Option Hp) (hq_2 : ∀ (x1 : Int32) (h : Hp), q_2 x1 h = some r → J X ((.inl none, r)) 2 [(0, .ref 30), (1, .int x1)] [] h) (x1 : Int32) (h : Hp) (hf : S_X12_laysBroken_2 q_2 x1 h = some r) : J X ((.inl none, r)) 2 [(0, .ref 30), (1, .int x1)] [] h := by
  unfold S_X12_laysBroken_2 at hf
  refine J_iload_n hX 1 dX12_laysBroken_2 rfl rfl ?_
  refine J_bipush hX 64 dX12_laysBroken_3 rfl ?_
  rcases ifE hf with ⟨c_1, hf⟩ | ⟨c_1, hf⟩
  · refine J_icmp_gtT hX 134 dX12_laysBroken_5 rfl c_1 ?_
    exact E_Vi hX dX12_laysBroken_134 hf
  · refine J_icmp_gtF hX 134 dX12_laysBroken_5 rfl c_1 ?_
    refine J_iload_n hX 1 dX12_laysBroken_8 rfl rfl ?_
    refine J_bipush hX 64 dX12_laysBroken_9 rfl ?_
    rcases ifE hf with ⟨c_2, hf⟩ | ⟨c_2, hf⟩
    · refine J_icmp_neF hX 18 dX12_laysBroken_11 rfl c_2 ?_
      refine J_iconst hX 0 dX12_laysBroken_14 rfl ?_
      refine J_goto hX 27 dX12_laysBroken_15 rfl ?_
      exact T_X12_laysBroken_27 hX hdx x1 0 q_2 hq_2 h hf
    · refine J_icmp_neT hX 18 dX12_laysBroken_11 rfl c_2 ?_
      refine J_aload_n hX 0 dX12_laysBroken_18 rfl rfl ?_
      refine J_getR hX 31 dX12_laysBroken_19 fl_X12_13 ob_30 rfl rfl ?_
      refine J_bipush hX 10 dX12_laysBroken_22 rfl ?_
      refine J_iload_n hX 1 dX12_laysBroken_24 rfl rfl ?_
      refine J_iadd hX dX12_laysBroken_25 ?_
      obtain ⟨g_3, hf⟩ := gdE hf
      refine J_ald hX ((10 + x1).toNatClampNeg) dX12_laysBroken_26 ar_31 (Or.inl ⟨rfl, rfl⟩) g_3 rfl ?_
      exact T_X12_laysBroken_27 hX hdx x1 (h 31 ((10 + x1).toNatClampNeg)) q_2 hq_2 h hf
set_option maxRecDepth 100000 in
set_option maxHeartbeats 200000 in
theorem T_X12_laysBroken_2 {X : CX} (hX : Ok X cX12_laysBroken 4 RX12 none) (hdx : dX X = 7) {r : Hp} : ∀ (n : Nat) (x1 : Int32) (h : Hp), F_X12_laysBroken_2 n x1 h = some r → J X ((.inl none, r)) 2 [(0, .ref 30), (1, .int x1)] [] h := by
  intro n
  induction n with
  | zero => intro x1 h hf; exact nomatch hf
  | succ n ih => intro x1 h hf; exact T_X12_laysBroken_2_s hX hdx _ (fun x1 h hf => ih x1 h hf) x1 h hf
set_option maxRecDepth 100000 in
set_option maxHeartbeats 200000 in
theorem T_X12_laysBroken_0 {X : CX} (hX : Ok X cX12_laysBroken 4 RX12 none) (hdx : dX X = 7) {r : Hp} (h : Hp) (hf : f_X12_laysBroken h = some r) : J X ((.inl none, r)) 0 [(0, .ref 30)] [] h := by
  unfold f_X12_laysBroken at hf
  refine J_iconst hX 0 dX12_laysBroken_0 rfl ?_
  refine J_istore_n hX [(1, .int 0), (0, .ref 30)] dX12_laysBroken_1 rfl rfl rfl ?_
  refine J_sub [1, 0] [(0, .ref 30), (1, .int 0)] rfl ?_
  exact T_X12_laysBroken_2 hX hdx FU 0 h hf
set_option maxRecDepth 100000 in
set_option maxHeartbeats 200000 in
theorem C_X12_laysBroken {G : GX} (hG : GOk G) {h : Hp} {r : Hp} (hf : f_X12_laysBroken h = some r) : Ctr G 7 yX12_laysBroken cX12_laysBroken 4 none [.ref 30] h ((.inl none, r)) :=
  Ctr_of hG RX12 rfl (by decide) rfl (fun X _ hdx hX => T_X12_laysBroken_0 hX hdx h hf)
theorem dX12_fits_0 : decode cX12_fits 0 = .ok (.aload_n 0, 1) := by decide +kernel
theorem dX12_fits_1 : decode cX12_fits 1 = .ok (.getfield 54, 3) := by decide +kernel
theorem dX12_fits_4 : decode cX12_fits 4 = .ok (.iload_n 1, 1) := by decide +kernel
theorem dX12_fits_5 : decode cX12_fits 5 = .ok (.baload, 1) := by decide +kernel
theorem dX12_fits_6 : decode cX12_fits 6 = .ok (.istore_n 2, 1) := by decide +kernel
theorem dX12_fits_7 : decode cX12_fits 7 = .ok (.iconst 0, 1) := by decide +kernel
theorem dX12_fits_8 : decode cX12_fits 8 = .ok (.istore_n 3, 1) := by decide +kernel
theorem dX12_fits_9 : decode cX12_fits 9 = .ok (.iload_n 3, 1) := by decide +kernel
theorem dX12_fits_10 : decode cX12_fits 10 = .ok (.aload_n 0, 1) := by decide +kernel
theorem dX12_fits_11 : decode cX12_fits 11 = .ok (.getfield 120, 3) := by decide +kernel
theorem dX12_fits_14 : decode cX12_fits 14 = .ok (.if_icmp .ge 55, 3) := by decide +kernel
theorem dX12_fits_17 : decode cX12_fits 17 = .ok (.iload_n 2, 1) := by decide +kernel
theorem dX12_fits_18 : decode cX12_fits 18 = .ok (.ifCond .eq 43, 3) := by decide +kernel
theorem dX12_fits_21 : decode cX12_fits 21 = .ok (.aload_n 0, 1) := by decide +kernel
theorem dX12_fits_22 : decode cX12_fits 22 = .ok (.getfield 58, 3) := by decide +kernel
theorem dX12_fits_25 : decode cX12_fits 25 = .ok (.bipush 8, 2) := by decide +kernel
theorem dX12_fits_27 : decode cX12_fits 27 = .ok (.iload_n 1, 1) := by decide +kernel
theorem dX12_fits_28 : decode cX12_fits 28 = .ok (.imul, 1) := by decide +kernel
theorem dX12_fits_29 : decode cX12_fits 29 = .ok (.aload_n 0, 1) := by decide +kernel
theorem dX12_fits_30 : decode cX12_fits 30 = .ok (.getfield 35, 3) := by decide +kernel
theorem dX12_fits_33 : decode cX12_fits 33 = .ok (.iload_n 3, 1) := by decide +kernel
theorem dX12_fits_34 : decode cX12_fits 34 = .ok (.baload, 1) := by decide +kernel
theorem dX12_fits_35 : decode cX12_fits 35 = .ok (.iadd, 1) := by decide +kernel
theorem dX12_fits_36 : decode cX12_fits 36 = .ok (.iaload, 1) := by decide +kernel
theorem dX12_fits_37 : decode cX12_fits 37 = .ok (.aload_n 0, 1) := by decide +kernel
theorem dX12_fits_38 : decode cX12_fits 38 = .ok (.getfield 35, 3) := by decide +kernel
theorem dX12_fits_41 : decode cX12_fits 41 = .ok (.iload_n 3, 1) := by decide +kernel
theorem dX12_fits_42 : decode cX12_fits 42 = .ok (.iconst 1, 1) := by decide +kernel
theorem dX12_fits_43 : decode cX12_fits 43 = .ok (.iadd, 1) := by decide +kernel
theorem dX12_fits_44 : decode cX12_fits 44 = .ok (.baload, 1) := by decide +kernel
theorem dX12_fits_45 : decode cX12_fits 45 = .ok (.sipush 255, 3) := by decide +kernel
theorem dX12_fits_48 : decode cX12_fits 48 = .ok (.iand, 1) := by decide +kernel
theorem dX12_fits_49 : decode cX12_fits 49 = .ok (.isub, 1) := by decide +kernel
theorem dX12_fits_50 : decode cX12_fits 50 = .ok (.invokestatic 441, 3) := by decide +kernel
theorem dX12_fits_53 : decode cX12_fits 53 = .ok (.iconst 1, 1) := by decide +kernel
theorem dX12_fits_54 : decode cX12_fits 54 = .ok (.if_icmp .gt 7, 3) := by decide +kernel
theorem dX12_fits_57 : decode cX12_fits 57 = .ok (.iconst 1, 1) := by decide +kernel
theorem dX12_fits_58 : decode cX12_fits 58 = .ok (.goto 4, 3) := by decide +kernel
theorem dX12_fits_61 : decode cX12_fits 61 = .ok (.iconst 0, 1) := by decide +kernel
theorem dX12_fits_62 : decode cX12_fits 62 = .ok (.istore_n 2, 1) := by decide +kernel
theorem dX12_fits_63 : decode cX12_fits 63 = .ok (.iinc 3 2, 3) := by decide +kernel
theorem dX12_fits_66 : decode cX12_fits 66 = .ok (.goto (-57), 3) := by decide +kernel
theorem dX12_fits_69 : decode cX12_fits 69 = .ok (.iload_n 2, 1) := by decide +kernel
theorem dX12_fits_70 : decode cX12_fits 70 = .ok (.ireturn, 1) := by decide +kernel
set_option maxRecDepth 100000 in
set_option maxHeartbeats 200000 in
theorem T_X12_fits_9_s {X : CX} (hX : Ok X cX12_fits 4 RX12 (some .boolean)) (hdx : dX X = 2) {r : Bool} (h : Hp) (x1 : Int32) (q_9 : Int32 → Int32 → Option Bool) (hq_9 : ∀ (x2 : Int32) (x3 : Int32), q_9 x2 x3 = some r → J X ((.inl (some (.int (b2i r))), h)) 9 [(0, .ref 30), (1, .int x1), (2, .int x2), (3, .int x3)] [] h) (x2 : Int32) (x3 : Int32) (hf : S_X12_fits_9 h x1 q_9 x2 x3 = some r) : J X ((.inl (some (.int (b2i r))), h)) 9 [(0, .ref 30), (1, .int x1), (2, .int x2), (3, .int x3)] [] h := by
  unfold S_X12_fits_9 at hf
  refine J_iload_n hX 3 dX12_fits_9 rfl rfl ?_
  refine J_aload_n hX 0 dX12_fits_10 rfl rfl ?_
  refine J_getI hX dX12_fits_11 fl_X12_120 ob_30 rfl ?_
  rcases ifE hf with ⟨c_1, hf⟩ | ⟨c_1, hf⟩
  · refine J_icmp_geF hX 69 dX12_fits_14 rfl c_1 ?_
    refine J_iload_n hX 2 dX12_fits_17 rfl rfl ?_
    rcases ifE hf with ⟨c_2, hf⟩ | ⟨c_2, hf⟩
    · refine J_if_eqT hX 61 dX12_fits_18 rfl c_2 ?_
      refine J_iconst hX 0 dX12_fits_61 rfl ?_
      refine J_istore_n hX [(2, .int 0), (0, .ref 30), (1, .int x1), (3, .int x3)] dX12_fits_62 rfl rfl rfl ?_
      refine J_iinc hX (x3 + 2) 3 [(3, .int (x3 + 2)), (2, .int 0), (0, .ref 30), (1, .int x1)] dX12_fits_63 rfl rfl rfl rfl ?_
      refine J_goto hX 9 dX12_fits_66 rfl ?_
      refine J_sub [2, 3, 1, 0] [(0, .ref 30), (1, .int x1), (2, .int 0), (3, .int (x3 + 2))] rfl ?_
      exact hq_9 0 (x3 + 2) hf
    · refine J_if_eqF hX 61 dX12_fits_18 rfl c_2 ?_
      refine J_aload_n hX 0 dX12_fits_21 rfl rfl ?_
      refine J_getR hX 44 dX12_fits_22 fl_X12_58 ob_30 rfl rfl ?_
      refine J_bipush hX 8 dX12_fits_25 rfl ?_
      refine J_iload_n hX 1 dX12_fits_27 rfl rfl ?_
      refine J_imul hX dX12_fits_28 ?_
      refine J_aload_n hX 0 dX12_fits_29 rfl rfl ?_
      refine J_getR hX 38 dX12_fits_30 fl_X12_35 ob_30 rfl rfl ?_
      refine J_iload_n hX 3 dX12_fits_33 rfl rfl ?_
      obtain ⟨g_3, hf⟩ := gdE hf
      refine J_ald hX x3.toNatClampNeg dX12_fits_34 ar_38 (Or.inr (Or.inl ⟨rfl, rfl⟩)) g_3 rfl ?_
      refine J_iadd hX dX12_fits_35 ?_
      obtain ⟨g_4, hf⟩ := gdE hf
      refine J_ald hX (((8 * x1) + (h 38 x3.toNatClampNeg)).toNatClampNeg) dX12_fits_36 ar_44 (Or.inl ⟨rfl, rfl⟩) g_4 rfl ?_
      refine J_aload_n hX 0 dX12_fits_37 rfl rfl ?_
      refine J_getR hX 38 dX12_fits_38 fl_X12_35 ob_30 rfl rfl ?_
      refine J_iload_n hX 3 dX12_fits_41 rfl rfl ?_
      refine J_iconst hX 1 dX12_fits_42 rfl ?_
      refine J_iadd hX dX12_fits_43 ?_
      obtain ⟨g_5, hf⟩ := gdE hf
      refine J_ald hX ((x3 + 1).toNatClampNeg) dX12_fits_44 ar_38 (Or.inr (Or.inl ⟨rfl, rfl⟩)) g_5 rfl ?_
      refine J_sipush hX 255 dX12_fits_45 rfl ?_
      refine J_iand hX dX12_fits_48 ?_
      refine J_isub hX dX12_fits_49 ?_
      refine J_abs hX dX12_fits_50 mw_X12_441 (ltD hdx rfl) rfl ?_
      refine J_iconst hX 1 dX12_fits_53 rfl ?_
      rcases ifE hf with ⟨c_6, hf⟩ | ⟨c_6, hf⟩
      · refine J_icmp_gtT hX 61 dX12_fits_54 rfl c_6 ?_
        refine J_iconst hX 0 dX12_fits_61 rfl ?_
        refine J_istore_n hX [(2, .int 0), (0, .ref 30), (1, .int x1), (3, .int x3)] dX12_fits_62 rfl rfl rfl ?_
        refine J_iinc hX (x3 + 2) 3 [(3, .int (x3 + 2)), (2, .int 0), (0, .ref 30), (1, .int x1)] dX12_fits_63 rfl rfl rfl rfl ?_
        refine J_goto hX 9 dX12_fits_66 rfl ?_
        refine J_sub [2, 3, 1, 0] [(0, .ref 30), (1, .int x1), (2, .int 0), (3, .int (x3 + 2))] rfl ?_
        exact hq_9 0 (x3 + 2) hf
      · refine J_icmp_gtF hX 61 dX12_fits_54 rfl c_6 ?_
        refine J_iconst hX 1 dX12_fits_57 rfl ?_
        refine J_goto hX 62 dX12_fits_58 rfl ?_
        refine J_istore_n hX [(2, .int 1), (0, .ref 30), (1, .int x1), (3, .int x3)] dX12_fits_62 rfl rfl rfl ?_
        refine J_iinc hX (x3 + 2) 3 [(3, .int (x3 + 2)), (2, .int 1), (0, .ref 30), (1, .int x1)] dX12_fits_63 rfl rfl rfl rfl ?_
        refine J_goto hX 9 dX12_fits_66 rfl ?_
        refine J_sub [2, 3, 1, 0] [(0, .ref 30), (1, .int x1), (2, .int 1), (3, .int (x3 + 2))] rfl ?_
        exact hq_9 1 (x3 + 2) hf
  · refine J_icmp_geT hX 69 dX12_fits_14 rfl c_1 ?_
    refine J_iload_n hX 2 dX12_fits_69 rfl rfl ?_
    obtain ⟨b_7, e_8, hf⟩ := bdE hf
    exact E_Zp hX dX12_fits_70 (toBE e_8) hf
set_option maxRecDepth 100000 in
set_option maxHeartbeats 200000 in
theorem T_X12_fits_9 {X : CX} (hX : Ok X cX12_fits 4 RX12 (some .boolean)) (hdx : dX X = 2) {r : Bool} (h : Hp) (x1 : Int32) : ∀ (n : Nat) (x2 : Int32) (x3 : Int32), F_X12_fits_9 h x1 n x2 x3 = some r → J X ((.inl (some (.int (b2i r))), h)) 9 [(0, .ref 30), (1, .int x1), (2, .int x2), (3, .int x3)] [] h := by
  intro n
  induction n with
  | zero => intro x2 x3 hf; exact nomatch hf
  | succ n ih => intro x2 x3 hf; exact T_X12_fits_9_s hX hdx h x1 _ (fun x2 x3 hf => ih x2 x3 hf) x2 x3 hf
set_option maxRecDepth 100000 in
set_option maxHeartbeats 200000 in
theorem T_X12_fits_0 {X : CX} (hX : Ok X cX12_fits 4 RX12 (some .boolean)) (hdx : dX X = 2) {r : Bool} (x1 : Int32) (h : Hp) (hf : f_X12_fits x1 h = some r) : J X ((.inl (some (.int (b2i r))), h)) 0 [(0, .ref 30), (1, .int x1)] [] h := by
  unfold f_X12_fits at hf
  refine J_aload_n hX 0 dX12_fits_0 rfl rfl ?_
  refine J_getR hX 43 dX12_fits_1 fl_X12_54 ob_30 rfl rfl ?_
  refine J_iload_n hX 1 dX12_fits_4 rfl rfl ?_
  obtain ⟨g_1, hf⟩ := gdE hf
  refine J_ald hX x1.toNatClampNeg dX12_fits_5 ar_43 (Or.inr (Or.inr ⟨rfl, rfl⟩)) g_1 rfl ?_
  obtain ⟨x2_2, e_3, hf⟩ := bndE hf
  refine J_nm e_3 ?_
  refine J_istore_n hX [(2, .int x2_2), (0, .ref 30), (1, .int x1)] dX12_fits_6 rfl rfl rfl ?_
  refine J_iconst hX 0 dX12_fits_7 rfl ?_
  refine J_istore_n hX [(3, .int 0), (2, .int x2_2), (0, .ref 30), (1, .int x1)] dX12_fits_8 rfl rfl rfl ?_
  refine J_sub [2, 3, 1, 0] [(0, .ref 30), (1, .int x1), (2, .int x2_2), (3, .int 0)] rfl ?_
  exact T_X12_fits_9 hX hdx h x1 FU x2_2 0 hf
set_option maxRecDepth 100000 in
set_option maxHeartbeats 200000 in
theorem C_X12_fits {G : GX} (hG : GOk G) {x1 : Int32} {h : Hp} {r : Bool} (hf : f_X12_fits x1 h = some r) : Ctr G 2 yX12_fits cX12_fits 4 (some .boolean) [.ref 30, .int x1] h ((.inl (some (.int (b2i r))), h)) :=
  Ctr_of hG RX12 rfl (by decide) rfl (fun X _ hdx hX => T_X12_fits_0 hX hdx x1 h hf)
theorem dX12_broken_0 : decode cX12_broken 0 = .ok (.aload_n 0, 1) := by decide +kernel
theorem dX12_broken_1 : decode cX12_broken 1 = .ok (.invokevirtual 269, 3) := by decide +kernel
theorem dX12_broken_4 : decode cX12_broken 4 = .ok (.aload_n 0, 1) := by decide +kernel
theorem dX12_broken_5 : decode cX12_broken 5 = .ok (.aload_n 0, 1) := by decide +kernel
theorem dX12_broken_6 : decode cX12_broken 6 = .ok (.invokevirtual 444, 3) := by decide +kernel
theorem dX12_broken_9 : decode cX12_broken 9 = .ok (.ifCond .ne 7, 3) := by decide +kernel
theorem dX12_broken_12 : decode cX12_broken 12 = .ok (.iconst 1, 1) := by decide +kernel
theorem dX12_broken_13 : decode cX12_broken 13 = .ok (.goto 4, 3) := by decide +kernel
theorem dX12_broken_16 : decode cX12_broken 16 = .ok (.iconst 0, 1) := by decide +kernel
theorem dX12_broken_17 : decode cX12_broken 17 = .ok (.iconst 1, 1) := by decide +kernel
theorem dX12_broken_18 : decode cX12_broken 18 = .ok (.invokevirtual 280, 3) := by decide +kernel
theorem dX12_broken_21 : decode cX12_broken 21 = .ok (.ifCond .eq 5, 3) := by decide +kernel
theorem dX12_broken_24 : decode cX12_broken 24 = .ok (.iconst 0, 1) := by decide +kernel
theorem dX12_broken_25 : decode cX12_broken 25 = .ok (.ireturn, 1) := by decide +kernel
theorem dX12_broken_26 : decode cX12_broken 26 = .ok (.aload_n 0, 1) := by decide +kernel
theorem dX12_broken_27 : decode cX12_broken 27 = .ok (.invokevirtual 447, 3) := by decide +kernel
theorem dX12_broken_30 : decode cX12_broken 30 = .ok (.iconst 0, 1) := by decide +kernel
theorem dX12_broken_31 : decode cX12_broken 31 = .ok (.istore_n 2, 1) := by decide +kernel
theorem dX12_broken_32 : decode cX12_broken 32 = .ok (.iconst (-1), 1) := by decide +kernel
theorem dX12_broken_33 : decode cX12_broken 33 = .ok (.istore_n 3, 1) := by decide +kernel
theorem dX12_broken_34 : decode cX12_broken 34 = .ok (.bipush 64, 2) := by decide +kernel
theorem dX12_broken_36 : decode cX12_broken 36 = .ok (.istore 4, 2) := by decide +kernel
theorem dX12_broken_38 : decode cX12_broken 38 = .ok (.iload 4, 2) := by decide +kernel
theorem dX12_broken_40 : decode cX12_broken 40 = .ok (.ifCond .lt 27, 3) := by decide +kernel
theorem dX12_broken_43 : decode cX12_broken 43 = .ok (.aload_n 0, 1) := by decide +kernel
theorem dX12_broken_44 : decode cX12_broken 44 = .ok (.iload 4, 2) := by decide +kernel
theorem dX12_broken_46 : decode cX12_broken 46 = .ok (.invokevirtual 450, 3) := by decide +kernel
theorem dX12_broken_49 : decode cX12_broken 49 = .ok (.ifCond .ne 6, 3) := by decide +kernel
theorem dX12_broken_52 : decode cX12_broken 52 = .ok (.goto 9, 3) := by decide +kernel
theorem dX12_broken_55 : decode cX12_broken 55 = .ok (.iinc 2 1, 3) := by decide +kernel
theorem dX12_broken_58 : decode cX12_broken 58 = .ok (.iload 4, 2) := by decide +kernel
theorem dX12_broken_60 : decode cX12_broken 60 = .ok (.istore_n 3, 1) := by decide +kernel
theorem dX12_broken_61 : decode cX12_broken 61 = .ok (.iinc 4 (-1), 3) := by decide +kernel
theorem dX12_broken_64 : decode cX12_broken 64 = .ok (.goto (-26), 3) := by decide +kernel
theorem dX12_broken_67 : decode cX12_broken 67 = .ok (.iload_n 1, 1) := by decide +kernel
theorem dX12_broken_68 : decode cX12_broken 68 = .ok (.ifCond .eq 7, 3) := by decide +kernel
theorem dX12_broken_71 : decode cX12_broken 71 = .ok (.iload_n 3, 1) := by decide +kernel
theorem dX12_broken_72 : decode cX12_broken 72 = .ok (.goto 4, 3) := by decide +kernel
theorem dX12_broken_75 : decode cX12_broken 75 = .ok (.iload_n 2, 1) := by decide +kernel
theorem dX12_broken_76 : decode cX12_broken 76 = .ok (.ireturn, 1) := by decide +kernel
set_option maxRecDepth 100000 in
set_option maxHeartbeats 200000 in
theorem T_X12_broken_38_s {X : CX} (hX : Ok X cX12_broken 5 RX12 (some .int)) (hdx : dX X = 8) {r : Int32 × Hp} (x1 : Int32) (q_38 : Int32 → Int32 → Int32 → Hp → Option (Int32 × Hp)) (hq_38 : ∀ (x2 : Int32) (x3 : Int32) (x4 : Int32) (h : Hp), q_38 x2 x3 x4 h = some r → J X ((.inl (some (.int r.1)), r.2)) 38 [(0, .ref 30), (1, .int x1), (2, .int x2), (3, .int x3), (4, .int x4)] [] h) (x2 : Int32) (x3 : Int32) (x4 : Int32) (h : Hp) (hf : S_X12_broken_38 x1 q_38 x2 x3 x4 h = some r) : J X ((.inl (some (.int r.1)), r.2)) 38 [(0, .ref 30), (1, .int x1), (2, .int x2), (3, .int x3), (4, .int x4)] [] h := by
  unfold S_X12_broken_38 at hf
  refine J_iload hX 4 dX12_broken_38 rfl ?_
  rcases ifE hf with ⟨c_1, hf⟩ | ⟨c_1, hf⟩
  · refine J_if_ltT hX 67 dX12_broken_40 rfl c_1 ?_
    refine J_iload_n hX 1 dX12_broken_67 rfl rfl ?_
    rcases ifE hf with ⟨c_2, hf⟩ | ⟨c_2, hf⟩
    · refine J_if_eqT hX 75 dX12_broken_68 rfl c_2 ?_
      refine J_iload_n hX 2 dX12_broken_75 rfl rfl ?_
      exact E_Ii hX dX12_broken_76 hf
    · refine J_if_eqF hX 75 dX12_broken_68 rfl c_2 ?_
      refine J_iload_n hX 3 dX12_broken_71 rfl rfl ?_
      refine J_goto hX 76 dX12_broken_72 rfl ?_
      exact E_Ii hX dX12_broken_76 hf
  · refine J_if_ltF hX 67 dX12_broken_40 rfl c_1 ?_
    refine J_aload_n hX 0 dX12_broken_43 rfl rfl ?_
    refine J_iload hX 4 dX12_broken_44 rfl ?_
    obtain ⟨r_3, e_4, hf⟩ := bdE hf
    refine V_1 hX [.int x4] dX12_broken_46 cw_X12_450 ob_30 rfl (C_X12_fits (okG hX) e_4) (ltD hdx rfl) rfl rfl rfl rfl ?_
    rcases ifE hf with ⟨c_5, hf⟩ | ⟨c_5, hf⟩
    · refine J_if_neT hX 55 dX12_broken_49 rfl (b2iT c_5) ?_
      refine J_iinc hX (x2 + 1) 2 [(2, .int (x2 + 1)), (0, .ref 30), (1, .int x1), (3, .int x3), (4, .int x4)] dX12_broken_55 rfl rfl rfl rfl ?_
      refine J_iload hX 4 dX12_broken_58 rfl ?_
      refine J_istore_n hX [(3, .int x4), (2, .int (x2 + 1)), (0, .ref 30), (1, .int x1), (4, .int x4)] dX12_broken_60 rfl rfl rfl ?_
      refine J_iinc hX (x4 + (-1)) 4 [(4, .int (x4 + (-1))), (3, .int x4), (2, .int (x2 + 1)), (0, .ref 30), (1, .int x1)] dX12_broken_61 rfl rfl rfl rfl ?_
      refine J_goto hX 38 dX12_broken_64 rfl ?_
      refine J_sub [3, 4, 2, 1, 0] [(0, .ref 30), (1, .int x1), (2, .int (x2 + 1)), (3, .int x4), (4, .int (x4 + (-1)))] rfl ?_
      exact hq_38 (x2 + 1) x4 (x4 + (-1)) h hf
    · refine J_if_neF hX 55 dX12_broken_49 rfl (b2iF c_5) ?_
      refine J_goto hX 61 dX12_broken_52 rfl ?_
      refine J_iinc hX (x4 + (-1)) 4 [(4, .int (x4 + (-1))), (0, .ref 30), (1, .int x1), (2, .int x2), (3, .int x3)] dX12_broken_61 rfl rfl rfl rfl ?_
      refine J_goto hX 38 dX12_broken_64 rfl ?_
      refine J_sub [1, 2, 3, 4, 0] [(0, .ref 30), (1, .int x1), (2, .int x2), (3, .int x3), (4, .int (x4 + (-1)))] rfl ?_
      exact hq_38 x2 x3 (x4 + (-1)) h hf
set_option maxRecDepth 100000 in
set_option maxHeartbeats 200000 in
theorem T_X12_broken_38 {X : CX} (hX : Ok X cX12_broken 5 RX12 (some .int)) (hdx : dX X = 8) {r : Int32 × Hp} (x1 : Int32) : ∀ (n : Nat) (x2 : Int32) (x3 : Int32) (x4 : Int32) (h : Hp), F_X12_broken_38 x1 n x2 x3 x4 h = some r → J X ((.inl (some (.int r.1)), r.2)) 38 [(0, .ref 30), (1, .int x1), (2, .int x2), (3, .int x3), (4, .int x4)] [] h := by
  intro n
  induction n with
  | zero => intro x2 x3 x4 h hf; exact nomatch hf
  | succ n ih => intro x2 x3 x4 h hf; exact T_X12_broken_38_s hX hdx x1 _ (fun x2 x3 x4 h hf => ih x2 x3 x4 h hf) x2 x3 x4 h hf
set_option maxRecDepth 100000 in
set_option maxHeartbeats 200000 in
theorem T_X12_broken_17 {X : CX} (hX : Ok X cX12_broken 5 RX12 (some .int)) (hdx : dX X = 8) {r : Int32 × Hp} (x1 : Int32) (t0 : Int32) (h : Hp) (hf : F_X12_broken_17 x1 t0 h = some r) : J X ((.inl (some (.int r.1)), r.2)) 17 [(0, .ref 30), (1, .int x1)] [.int t0, .ref 30] h := by
  unfold F_X12_broken_17 at hf
  refine J_iconst hX 1 dX12_broken_17 rfl ?_
  obtain ⟨r_1, e_2, hf⟩ := bdE hf
  refine V_1 hX [.int t0, .int 1] dX12_broken_18 cw_X12_280 ob_30 rfl (C_X12_throwsIf (okG hX) e_2) (ltD hdx rfl) rfl rfl rfl rfl ?_
  rcases ifE hf with ⟨c_3, hf⟩ | ⟨c_3, hf⟩
  · refine J_if_eqF hX 26 dX12_broken_21 rfl (b2iT c_3) ?_
    refine J_iconst hX 0 dX12_broken_24 rfl ?_
    exact E_Ii hX dX12_broken_25 hf
  · refine J_if_eqT hX 26 dX12_broken_21 rfl (b2iF c_3) ?_
    refine J_aload_n hX 0 dX12_broken_26 rfl rfl ?_
    obtain ⟨r_4, e_5, hf⟩ := bdE hf
    refine V_0 hX [] dX12_broken_27 cw_X12_447 ob_30 rfl (C_X12_laysBroken (okG hX) e_5) (ltD hdx rfl) rfl rfl rfl rfl ?_
    refine J_iconst hX 0 dX12_broken_30 rfl ?_
    refine J_istore_n hX [(2, .int 0), (0, .ref 30), (1, .int x1)] dX12_broken_31 rfl rfl rfl ?_
    refine J_iconst hX (-1) dX12_broken_32 rfl ?_
    refine J_istore_n hX [(3, .int (-1)), (2, .int 0), (0, .ref 30), (1, .int x1)] dX12_broken_33 rfl rfl rfl ?_
    refine J_bipush hX 64 dX12_broken_34 rfl ?_
    refine J_istore hX [(4, .int 64), (3, .int (-1)), (2, .int 0), (0, .ref 30), (1, .int x1)] dX12_broken_36 rfl rfl ?_
    refine J_sub [3, 4, 2, 1, 0] [(0, .ref 30), (1, .int x1), (2, .int 0), (3, .int (-1)), (4, .int 64)] rfl ?_
    exact T_X12_broken_38 hX hdx x1 FU 0 (-1) 64 r_4 hf
set_option maxRecDepth 100000 in
set_option maxHeartbeats 200000 in
theorem T_X12_broken_0 {X : CX} (hX : Ok X cX12_broken 5 RX12 (some .int)) (hdx : dX X = 8) {r : Int32 × Hp} (x1 : Int32) (h : Hp) (hf : f_X12_broken x1 h = some r) : J X ((.inl (some (.int r.1)), r.2)) 0 [(0, .ref 30), (1, .int x1)] [] h := by
  unfold f_X12_broken at hf
  refine J_aload_n hX 0 dX12_broken_0 rfl rfl ?_
  obtain ⟨r_1, e_2, hf⟩ := bdE hf
  refine V_0 hX [] dX12_broken_1 cw_X12_269 ob_30 rfl (C_X12_uses (okG hX) e_2) (ltD hdx rfl) rfl rfl rfl rfl ?_
  refine J_aload_n hX 0 dX12_broken_4 rfl rfl ?_
  refine J_aload_n hX 0 dX12_broken_5 rfl rfl ?_
  obtain ⟨r_3, e_4, hf⟩ := bdE hf
  refine V_1 hX [] dX12_broken_6 cw_X12_444 ob_30 rfl (C_X12_isFelt (okG hX) e_4) (ltD hdx rfl) rfl rfl rfl rfl ?_
  rcases ifE hf with ⟨c_5, hf⟩ | ⟨c_5, hf⟩
  · refine J_if_neT hX 16 dX12_broken_9 rfl (b2iT c_5) ?_
    refine J_iconst hX 0 dX12_broken_16 rfl ?_
    exact T_X12_broken_17 hX hdx x1 0 r_1 hf
  · refine J_if_neF hX 16 dX12_broken_9 rfl (b2iF c_5) ?_
    refine J_iconst hX 1 dX12_broken_12 rfl ?_
    refine J_goto hX 17 dX12_broken_13 rfl ?_
    exact T_X12_broken_17 hX hdx x1 1 r_1 hf
set_option maxRecDepth 100000 in
set_option maxHeartbeats 200000 in
theorem C_X12_broken {G : GX} (hG : GOk G) {x1 : Int32} {h : Hp} {r : Int32 × Hp} (hf : f_X12_broken x1 h = some r) : Ctr G 8 yX12_broken cX12_broken 5 (some .int) [.ref 30, .int x1] h ((.inl (some (.int r.1)), r.2)) :=
  Ctr_of hG RX12 rfl (by decide) rfl (fun X _ hdx hX => T_X12_broken_0 hX hdx x1 h hf)
theorem dX12_partBy_0 : decode cX12_partBy 0 = .ok (.iconst 0, 1) := by decide +kernel
theorem dX12_partBy_1 : decode cX12_partBy 1 = .ok (.istore_n 2, 1) := by decide +kernel
theorem dX12_partBy_2 : decode cX12_partBy 2 = .ok (.iconst 0, 1) := by decide +kernel
theorem dX12_partBy_3 : decode cX12_partBy 3 = .ok (.istore_n 3, 1) := by decide +kernel
theorem dX12_partBy_4 : decode cX12_partBy 4 = .ok (.iload_n 3, 1) := by decide +kernel
theorem dX12_partBy_5 : decode cX12_partBy 5 = .ok (.bipush 64, 2) := by decide +kernel
theorem dX12_partBy_7 : decode cX12_partBy 7 = .ok (.if_icmp .gt 91, 3) := by decide +kernel
theorem dX12_partBy_10 : decode cX12_partBy 10 = .ok (.aload_n 0, 1) := by decide +kernel
theorem dX12_partBy_11 : decode cX12_partBy 11 = .ok (.iload_n 3, 1) := by decide +kernel
theorem dX12_partBy_12 : decode cX12_partBy 12 = .ok (.invokevirtual 450, 3) := by decide +kernel
theorem dX12_partBy_15 : decode cX12_partBy 15 = .ok (.ifCond .ne 6, 3) := by decide +kernel
theorem dX12_partBy_18 : decode cX12_partBy 18 = .ok (.goto 74, 3) := by decide +kernel
theorem dX12_partBy_21 : decode cX12_partBy 21 = .ok (.iconst 0, 1) := by decide +kernel
theorem dX12_partBy_22 : decode cX12_partBy 22 = .ok (.istore 4, 2) := by decide +kernel
theorem dX12_partBy_24 : decode cX12_partBy 24 = .ok (.iconst 0, 1) := by decide +kernel
theorem dX12_partBy_25 : decode cX12_partBy 25 = .ok (.istore 5, 2) := by decide +kernel
theorem dX12_partBy_27 : decode cX12_partBy 27 = .ok (.iload 5, 2) := by decide +kernel
theorem dX12_partBy_29 : decode cX12_partBy 29 = .ok (.bipush 64, 2) := by decide +kernel
theorem dX12_partBy_31 : decode cX12_partBy 31 = .ok (.if_icmp .gt 54, 3) := by decide +kernel
theorem dX12_partBy_34 : decode cX12_partBy 34 = .ok (.iload 4, 2) := by decide +kernel
theorem dX12_partBy_36 : decode cX12_partBy 36 = .ok (.aload_n 0, 1) := by decide +kernel
theorem dX12_partBy_37 : decode cX12_partBy 37 = .ok (.iload 5, 2) := by decide +kernel
theorem dX12_partBy_39 : decode cX12_partBy 39 = .ok (.invokevirtual 450, 3) := by decide +kernel
theorem dX12_partBy_42 : decode cX12_partBy 42 = .ok (.ifCond .eq 33, 3) := by decide +kernel
theorem dX12_partBy_45 : decode cX12_partBy 45 = .ok (.aload_n 0, 1) := by decide +kernel
theorem dX12_partBy_46 : decode cX12_partBy 46 = .ok (.getfield 58, 3) := by decide +kernel
theorem dX12_partBy_49 : decode cX12_partBy 49 = .ok (.bipush 8, 2) := by decide +kernel
theorem dX12_partBy_51 : decode cX12_partBy 51 = .ok (.iload_n 3, 1) := by decide +kernel
theorem dX12_partBy_52 : decode cX12_partBy 52 = .ok (.imul, 1) := by decide +kernel
theorem dX12_partBy_53 : decode cX12_partBy 53 = .ok (.iload_n 1, 1) := by decide +kernel
theorem dX12_partBy_54 : decode cX12_partBy 54 = .ok (.iadd, 1) := by decide +kernel
theorem dX12_partBy_55 : decode cX12_partBy 55 = .ok (.iaload, 1) := by decide +kernel
theorem dX12_partBy_56 : decode cX12_partBy 56 = .ok (.aload_n 0, 1) := by decide +kernel
theorem dX12_partBy_57 : decode cX12_partBy 57 = .ok (.getfield 58, 3) := by decide +kernel
theorem dX12_partBy_60 : decode cX12_partBy 60 = .ok (.bipush 8, 2) := by decide +kernel
theorem dX12_partBy_62 : decode cX12_partBy 62 = .ok (.iload 5, 2) := by decide +kernel
theorem dX12_partBy_64 : decode cX12_partBy 64 = .ok (.imul, 1) := by decide +kernel
theorem dX12_partBy_65 : decode cX12_partBy 65 = .ok (.iload_n 1, 1) := by decide +kernel
theorem dX12_partBy_66 : decode cX12_partBy 66 = .ok (.iadd, 1) := by decide +kernel
theorem dX12_partBy_67 : decode cX12_partBy 67 = .ok (.iaload, 1) := by decide +kernel
theorem dX12_partBy_68 : decode cX12_partBy 68 = .ok (.if_icmp .ne 7, 3) := by decide +kernel
theorem dX12_partBy_71 : decode cX12_partBy 71 = .ok (.iconst 1, 1) := by decide +kernel
theorem dX12_partBy_72 : decode cX12_partBy 72 = .ok (.goto 4, 3) := by decide +kernel
theorem dX12_partBy_75 : decode cX12_partBy 75 = .ok (.iconst 0, 1) := by decide +kernel
theorem dX12_partBy_76 : decode cX12_partBy 76 = .ok (.iadd, 1) := by decide +kernel
theorem dX12_partBy_77 : decode cX12_partBy 77 = .ok (.istore 4, 2) := by decide +kernel
theorem dX12_partBy_79 : decode cX12_partBy 79 = .ok (.iinc 5 1, 3) := by decide +kernel
theorem dX12_partBy_82 : decode cX12_partBy 82 = .ok (.goto (-55), 3) := by decide +kernel
theorem dX12_partBy_85 : decode cX12_partBy 85 = .ok (.iload_n 2, 1) := by decide +kernel
theorem dX12_partBy_86 : decode cX12_partBy 86 = .ok (.iload 4, 2) := by decide +kernel
theorem dX12_partBy_88 : decode cX12_partBy 88 = .ok (.invokestatic 314, 3) := by decide +kernel
theorem dX12_partBy_91 : decode cX12_partBy 91 = .ok (.istore_n 2, 1) := by decide +kernel
theorem dX12_partBy_92 : decode cX12_partBy 92 = .ok (.iinc 3 1, 3) := by decide +kernel
theorem dX12_partBy_95 : decode cX12_partBy 95 = .ok (.goto (-91), 3) := by decide +kernel
theorem dX12_partBy_98 : decode cX12_partBy 98 = .ok (.iload_n 2, 1) := by decide +kernel
theorem dX12_partBy_99 : decode cX12_partBy 99 = .ok (.ireturn, 1) := by decide +kernel
set_option maxRecDepth 100000 in
set_option maxHeartbeats 200000 in
theorem T_X12_partBy_76 {X : CX} (hX : Ok X cX12_partBy 6 RX12 (some .int)) (hdx : dX X = 3) {r : Int32} (h : Hp) (x1 : Int32) (x2 : Int32) (x3 : Int32) (x5 : Int32) (t0 : Int32) (t1 : Int32) (q_4 : Int32 → Int32 → Option Int32) (hq_4 : ∀ (x2 : Int32) (x3 : Int32), q_4 x2 x3 = some r → J X ((.inl (some (.int r)), h)) 4 [(0, .ref 30), (1, .int x1), (2, .int x2), (3, .int x3)] [] h) (q_27 : Int32 → Int32 → Option Int32) (hq_27 : ∀ (x4 : Int32) (x5 : Int32), q_27 x4 x5 = some r → J X ((.inl (some (.int r)), h)) 27 [(0, .ref 30), (1, .int x1), (2, .int x2), (3, .int x3), (4, .int x4), (5, .int x5)] [] h) (hf : F_X12_partBy_76 q_4 q_27 h x1 x2 x3 x5 t0 t1 = some r) : J X ((.inl (some (.int r)), h)) 76 [(0, .ref 30), (1, .int x1), (2, .int x2), (3, .int x3), (5, .int x5)] [.int t0, .int t1] h := by
  unfold F_X12_partBy_76 at hf
  refine J_iadd hX dX12_partBy_76 ?_
  refine J_istore hX [(4, .int (t1 + t0)), (0, .ref 30), (1, .int x1), (2, .int x2), (3, .int x3), (5, .int x5)] dX12_partBy_77 rfl rfl ?_
  refine J_iinc hX (x5 + 1) 5 [(5, .int (x5 + 1)), (4, .int (t1 + t0)), (0, .ref 30), (1, .int x1), (2, .int x2), (3, .int x3)] dX12_partBy_79 rfl rfl rfl rfl ?_
  refine J_goto hX 27 dX12_partBy_82 rfl ?_
  refine J_sub [2, 3, 4, 5, 1, 0] [(0, .ref 30), (1, .int x1), (2, .int x2), (3, .int x3), (4, .int (t1 + t0)), (5, .int (x5 + 1))] rfl ?_
  exact hq_27 (t1 + t0) (x5 + 1) hf
set_option maxRecDepth 100000 in
set_option maxHeartbeats 200000 in
theorem T_X12_partBy_27_s {X : CX} (hX : Ok X cX12_partBy 6 RX12 (some .int)) (hdx : dX X = 3) {r : Int32} (h : Hp) (x1 : Int32) (x2 : Int32) (x3 : Int32) (q_4 : Int32 → Int32 → Option Int32) (hq_4 : ∀ (x2 : Int32) (x3 : Int32), q_4 x2 x3 = some r → J X ((.inl (some (.int r)), h)) 4 [(0, .ref 30), (1, .int x1), (2, .int x2), (3, .int x3)] [] h) (q_27 : Int32 → Int32 → Option Int32) (hq_27 : ∀ (x4 : Int32) (x5 : Int32), q_27 x4 x5 = some r → J X ((.inl (some (.int r)), h)) 27 [(0, .ref 30), (1, .int x1), (2, .int x2), (3, .int x3), (4, .int x4), (5, .int x5)] [] h) (x4 : Int32) (x5 : Int32) (hf : S_X12_partBy_27 q_4 h x1 x2 x3 q_27 x4 x5 = some r) : J X ((.inl (some (.int r)), h)) 27 [(0, .ref 30), (1, .int x1), (2, .int x2), (3, .int x3), (4, .int x4), (5, .int x5)] [] h := by
  unfold S_X12_partBy_27 at hf
  refine J_iload hX 5 dX12_partBy_27 rfl ?_
  refine J_bipush hX 64 dX12_partBy_29 rfl ?_
  rcases ifE hf with ⟨c_1, hf⟩ | ⟨c_1, hf⟩
  · refine J_icmp_gtT hX 85 dX12_partBy_31 rfl c_1 ?_
    refine J_iload_n hX 2 dX12_partBy_85 rfl rfl ?_
    refine J_iload hX 4 dX12_partBy_86 rfl ?_
    refine J_max hX dX12_partBy_88 mw_X12_314 (ltD hdx rfl) rfl ?_
    obtain ⟨x2_2, e_3, hf⟩ := bndE hf
    refine J_nm e_3 ?_
    refine J_istore_n hX [(2, .int x2_2), (0, .ref 30), (1, .int x1), (3, .int x3), (4, .int x4), (5, .int x5)] dX12_partBy_91 rfl rfl rfl ?_
    refine J_iinc hX (x3 + 1) 3 [(3, .int (x3 + 1)), (2, .int x2_2), (0, .ref 30), (1, .int x1), (4, .int x4), (5, .int x5)] dX12_partBy_92 rfl rfl rfl rfl ?_
    refine J_goto hX 4 dX12_partBy_95 rfl ?_
    refine J_sub [2, 3, 1, 0] [(0, .ref 30), (1, .int x1), (2, .int x2_2), (3, .int (x3 + 1))] rfl ?_
    exact hq_4 x2_2 (x3 + 1) hf
  · refine J_icmp_gtF hX 85 dX12_partBy_31 rfl c_1 ?_
    refine J_iload hX 4 dX12_partBy_34 rfl ?_
    refine J_aload_n hX 0 dX12_partBy_36 rfl rfl ?_
    refine J_iload hX 5 dX12_partBy_37 rfl ?_
    obtain ⟨r_4, e_5, hf⟩ := bdE hf
    refine V_1 hX [.int x5] dX12_partBy_39 cw_X12_450 ob_30 rfl (C_X12_fits (okG hX) e_5) (ltD hdx rfl) rfl rfl rfl rfl ?_
    rcases ifE hf with ⟨c_6, hf⟩ | ⟨c_6, hf⟩
    · refine J_if_eqF hX 75 dX12_partBy_42 rfl (b2iT c_6) ?_
      refine J_aload_n hX 0 dX12_partBy_45 rfl rfl ?_
      refine J_getR hX 44 dX12_partBy_46 fl_X12_58 ob_30 rfl rfl ?_
      refine J_bipush hX 8 dX12_partBy_49 rfl ?_
      refine J_iload_n hX 3 dX12_partBy_51 rfl rfl ?_
      refine J_imul hX dX12_partBy_52 ?_
      refine J_iload_n hX 1 dX12_partBy_53 rfl rfl ?_
      refine J_iadd hX dX12_partBy_54 ?_
      obtain ⟨g_7, hf⟩ := gdE hf
      refine J_ald hX (((8 * x3) + x1).toNatClampNeg) dX12_partBy_55 ar_44 (Or.inl ⟨rfl, rfl⟩) g_7 rfl ?_
      refine J_aload_n hX 0 dX12_partBy_56 rfl rfl ?_
      refine J_getR hX 44 dX12_partBy_57 fl_X12_58 ob_30 rfl rfl ?_
      refine J_bipush hX 8 dX12_partBy_60 rfl ?_
      refine J_iload hX 5 dX12_partBy_62 rfl ?_
      refine J_imul hX dX12_partBy_64 ?_
      refine J_iload_n hX 1 dX12_partBy_65 rfl rfl ?_
      refine J_iadd hX dX12_partBy_66 ?_
      obtain ⟨g_8, hf⟩ := gdE hf
      refine J_ald hX (((8 * x5) + x1).toNatClampNeg) dX12_partBy_67 ar_44 (Or.inl ⟨rfl, rfl⟩) g_8 rfl ?_
      rcases ifE hf with ⟨c_9, hf⟩ | ⟨c_9, hf⟩
      · refine J_icmp_neF hX 75 dX12_partBy_68 rfl c_9 ?_
        refine J_iconst hX 1 dX12_partBy_71 rfl ?_
        refine J_goto hX 76 dX12_partBy_72 rfl ?_
        refine J_sub [0, 1, 2, 3, 5] [(0, .ref 30), (1, .int x1), (2, .int x2), (3, .int x3), (5, .int x5)] rfl ?_
        exact T_X12_partBy_76 hX hdx h x1 x2 x3 x5 1 x4 q_4 hq_4 q_27 hq_27 hf
      · refine J_icmp_neT hX 75 dX12_partBy_68 rfl c_9 ?_
        refine J_iconst hX 0 dX12_partBy_75 rfl ?_
        refine J_sub [0, 1, 2, 3, 5] [(0, .ref 30), (1, .int x1), (2, .int x2), (3, .int x3), (5, .int x5)] rfl ?_
        exact T_X12_partBy_76 hX hdx h x1 x2 x3 x5 0 x4 q_4 hq_4 q_27 hq_27 hf
    · refine J_if_eqT hX 75 dX12_partBy_42 rfl (b2iF c_6) ?_
      refine J_iconst hX 0 dX12_partBy_75 rfl ?_
      refine J_sub [0, 1, 2, 3, 5] [(0, .ref 30), (1, .int x1), (2, .int x2), (3, .int x3), (5, .int x5)] rfl ?_
      exact T_X12_partBy_76 hX hdx h x1 x2 x3 x5 0 x4 q_4 hq_4 q_27 hq_27 hf
set_option maxRecDepth 100000 in
set_option maxHeartbeats 200000 in
theorem T_X12_partBy_27 {X : CX} (hX : Ok X cX12_partBy 6 RX12 (some .int)) (hdx : dX X = 3) {r : Int32} (h : Hp) (x1 : Int32) (x2 : Int32) (x3 : Int32) (q_4 : Int32 → Int32 → Option Int32) (hq_4 : ∀ (x2 : Int32) (x3 : Int32), q_4 x2 x3 = some r → J X ((.inl (some (.int r)), h)) 4 [(0, .ref 30), (1, .int x1), (2, .int x2), (3, .int x3)] [] h) : ∀ (n : Nat) (x4 : Int32) (x5 : Int32), F_X12_partBy_27 q_4 h x1 x2 x3 n x4 x5 = some r → J X ((.inl (some (.int r)), h)) 27 [(0, .ref 30), (1, .int x1), (2, .int x2), (3, .int x3), (4, .int x4), (5, .int x5)] [] h := by
  intro n
  induction n with
  | zero => intro x4 x5 hf; exact nomatch hf
  | succ n ih => intro x4 x5 hf; exact T_X12_partBy_27_s hX hdx h x1 x2 x3 q_4 hq_4 _ (fun x4 x5 hf => ih x4 x5 hf) x4 x5 hf
set_option maxRecDepth 100000 in
set_option maxHeartbeats 200000 in
theorem T_X12_partBy_4_s {X : CX} (hX : Ok X cX12_partBy 6 RX12 (some .int)) (hdx : dX X = 3) {r : Int32} (h : Hp) (x1 : Int32) (q_4 : Int32 → Int32 → Option Int32) (hq_4 : ∀ (x2 : Int32) (x3 : Int32), q_4 x2 x3 = some r → J X ((.inl (some (.int r)), h)) 4 [(0, .ref 30), (1, .int x1), (2, .int x2), (3, .int x3)] [] h) (x2 : Int32) (x3 : Int32) (hf : S_X12_partBy_4 h x1 q_4 x2 x3 = some r) : J X ((.inl (some (.int r)), h)) 4 [(0, .ref 30), (1, .int x1), (2, .int x2), (3, .int x3)] [] h := by
  unfold S_X12_partBy_4 at hf
  refine J_iload_n hX 3 dX12_partBy_4 rfl rfl ?_
  refine J_bipush hX 64 dX12_partBy_5 rfl ?_
  rcases ifE hf with ⟨c_1, hf⟩ | ⟨c_1, hf⟩
  · refine J_icmp_gtT hX 98 dX12_partBy_7 rfl c_1 ?_
    refine J_iload_n hX 2 dX12_partBy_98 rfl rfl ?_
    exact E_Ip hX dX12_partBy_99 hf
  · refine J_icmp_gtF hX 98 dX12_partBy_7 rfl c_1 ?_
    refine J_aload_n hX 0 dX12_partBy_10 rfl rfl ?_
    refine J_iload_n hX 3 dX12_partBy_11 rfl rfl ?_
    obtain ⟨r_2, e_3, hf⟩ := bdE hf
    refine V_1 hX [.int x3] dX12_partBy_12 cw_X12_450 ob_30 rfl (C_X12_fits (okG hX) e_3) (ltD hdx rfl) rfl rfl rfl rfl ?_
    rcases ifE hf with ⟨c_4, hf⟩ | ⟨c_4, hf⟩
    · refine J_if_neT hX 21 dX12_partBy_15 rfl (b2iT c_4) ?_
      refine J_iconst hX 0 dX12_partBy_21 rfl ?_
      refine J_istore hX [(4, .int 0), (0, .ref 30), (1, .int x1), (2, .int x2), (3, .int x3)] dX12_partBy_22 rfl rfl ?_
      refine J_iconst hX 0 dX12_partBy_24 rfl ?_
      refine J_istore hX [(5, .int 0), (4, .int 0), (0, .ref 30), (1, .int x1), (2, .int x2), (3, .int x3)] dX12_partBy_25 rfl rfl ?_
      refine J_sub [2, 3, 4, 5, 1, 0] [(0, .ref 30), (1, .int x1), (2, .int x2), (3, .int x3), (4, .int 0), (5, .int 0)] rfl ?_
      exact T_X12_partBy_27 hX hdx h x1 x2 x3 q_4 hq_4 FU 0 0 hf
    · refine J_if_neF hX 21 dX12_partBy_15 rfl (b2iF c_4) ?_
      refine J_goto hX 92 dX12_partBy_18 rfl ?_
      refine J_iinc hX (x3 + 1) 3 [(3, .int (x3 + 1)), (0, .ref 30), (1, .int x1), (2, .int x2)] dX12_partBy_92 rfl rfl rfl rfl ?_
      refine J_goto hX 4 dX12_partBy_95 rfl ?_
      refine J_sub [1, 2, 3, 0] [(0, .ref 30), (1, .int x1), (2, .int x2), (3, .int (x3 + 1))] rfl ?_
      exact hq_4 x2 (x3 + 1) hf
set_option maxRecDepth 100000 in
set_option maxHeartbeats 200000 in
theorem T_X12_partBy_4 {X : CX} (hX : Ok X cX12_partBy 6 RX12 (some .int)) (hdx : dX X = 3) {r : Int32} (h : Hp) (x1 : Int32) : ∀ (n : Nat) (x2 : Int32) (x3 : Int32), F_X12_partBy_4 h x1 n x2 x3 = some r → J X ((.inl (some (.int r)), h)) 4 [(0, .ref 30), (1, .int x1), (2, .int x2), (3, .int x3)] [] h := by
  intro n
  induction n with
  | zero => intro x2 x3 hf; exact nomatch hf
  | succ n ih => intro x2 x3 hf; exact T_X12_partBy_4_s hX hdx h x1 _ (fun x2 x3 hf => ih x2 x3 hf) x2 x3 hf
set_option maxRecDepth 100000 in
set_option maxHeartbeats 200000 in
theorem T_X12_partBy_0 {X : CX} (hX : Ok X cX12_partBy 6 RX12 (some .int)) (hdx : dX X = 3) {r : Int32} (x1 : Int32) (h : Hp) (hf : f_X12_partBy x1 h = some r) : J X ((.inl (some (.int r)), h)) 0 [(0, .ref 30), (1, .int x1)] [] h := by
  unfold f_X12_partBy at hf
  refine J_iconst hX 0 dX12_partBy_0 rfl ?_
  refine J_istore_n hX [(2, .int 0), (0, .ref 30), (1, .int x1)] dX12_partBy_1 rfl rfl rfl ?_
  refine J_iconst hX 0 dX12_partBy_2 rfl ?_
  refine J_istore_n hX [(3, .int 0), (2, .int 0), (0, .ref 30), (1, .int x1)] dX12_partBy_3 rfl rfl rfl ?_
  refine J_sub [2, 3, 1, 0] [(0, .ref 30), (1, .int x1), (2, .int 0), (3, .int 0)] rfl ?_
  exact T_X12_partBy_4 hX hdx h x1 FU 0 0 hf
set_option maxRecDepth 100000 in
set_option maxHeartbeats 200000 in
theorem C_X12_partBy {G : GX} (hG : GOk G) {x1 : Int32} {h : Hp} {r : Int32} (hf : f_X12_partBy x1 h = some r) : Ctr G 3 yX12_partBy cX12_partBy 6 (some .int) [.ref 30, .int x1] h ((.inl (some (.int r)), h)) :=
  Ctr_of hG RX12 rfl (by decide) rfl (fun X _ hdx hX => T_X12_partBy_0 hX hdx x1 h hf)
