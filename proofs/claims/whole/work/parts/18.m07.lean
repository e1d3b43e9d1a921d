theorem dX12_factOf_0 : decode cX12_factOf 0 = .ok (.iload_n 1, 1) := by decide +kernel
theorem dX12_factOf_1 : decode cX12_factOf 1 = .ok (.tableswitch 128 0 8 #[51, 53, 60, 67, 74, 79, 86, 100, 114], 51) := by decide +kernel
theorem dX12_factOf_52 : decode cX12_factOf 52 = .ok (.iload_n 3, 1) := by decide +kernel
theorem dX12_factOf_53 : decode cX12_factOf 53 = .ok (.ireturn, 1) := by decide +kernel
theorem dX12_factOf_54 : decode cX12_factOf 54 = .ok (.aload_n 0, 1) := by decide +kernel
theorem dX12_factOf_55 : decode cX12_factOf 55 = .ok (.iload_n 3, 1) := by decide +kernel
theorem dX12_factOf_56 : decode cX12_factOf 56 = .ok (.iconst 0, 1) := by decide +kernel
theorem dX12_factOf_57 : decode cX12_factOf 57 = .ok (.invokevirtual 84, 3) := by decide +kernel
theorem dX12_factOf_60 : decode cX12_factOf 60 = .ok (.ireturn, 1) := by decide +kernel
theorem dX12_factOf_61 : decode cX12_factOf 61 = .ok (.aload_n 0, 1) := by decide +kernel
theorem dX12_factOf_62 : decode cX12_factOf 62 = .ok (.iload_n 3, 1) := by decide +kernel
theorem dX12_factOf_63 : decode cX12_factOf 63 = .ok (.iconst 2, 1) := by decide +kernel
theorem dX12_factOf_64 : decode cX12_factOf 64 = .ok (.invokevirtual 84, 3) := by decide +kernel
theorem dX12_factOf_67 : decode cX12_factOf 67 = .ok (.ireturn, 1) := by decide +kernel
theorem dX12_factOf_68 : decode cX12_factOf 68 = .ok (.aload_n 0, 1) := by decide +kernel
theorem dX12_factOf_69 : decode cX12_factOf 69 = .ok (.iload_n 3, 1) := by decide +kernel
theorem dX12_factOf_70 : decode cX12_factOf 70 = .ok (.iconst 3, 1) := by decide +kernel
theorem dX12_factOf_71 : decode cX12_factOf 71 = .ok (.invokevirtual 84, 3) := by decide +kernel
theorem dX12_factOf_74 : decode cX12_factOf 74 = .ok (.ireturn, 1) := by decide +kernel
theorem dX12_factOf_75 : decode cX12_factOf 75 = .ok (.aload_n 0, 1) := by decide +kernel
theorem dX12_factOf_76 : decode cX12_factOf 76 = .ok (.getfield 286, 3) := by decide +kernel
theorem dX12_factOf_79 : decode cX12_factOf 79 = .ok (.ireturn, 1) := by decide +kernel
theorem dX12_factOf_80 : decode cX12_factOf 80 = .ok (.aload_n 0, 1) := by decide +kernel
theorem dX12_factOf_81 : decode cX12_factOf 81 = .ok (.getfield 29, 3) := by decide +kernel
theorem dX12_factOf_84 : decode cX12_factOf 84 = .ok (.iload_n 3, 1) := by decide +kernel
theorem dX12_factOf_85 : decode cX12_factOf 85 = .ok (.iaload, 1) := by decide +kernel
theorem dX12_factOf_86 : decode cX12_factOf 86 = .ok (.ireturn, 1) := by decide +kernel
theorem dX12_factOf_87 : decode cX12_factOf 87 = .ok (.aload_n 0, 1) := by decide +kernel
theorem dX12_factOf_88 : decode cX12_factOf 88 = .ok (.iload_n 3, 1) := by decide +kernel
theorem dX12_factOf_89 : decode cX12_factOf 89 = .ok (.invokevirtual 106, 3) := by decide +kernel
theorem dX12_factOf_92 : decode cX12_factOf 92 = .ok (.ifCond .le 7, 3) := by decide +kernel
theorem dX12_factOf_95 : decode cX12_factOf 95 = .ok (.iconst 1, 1) := by decide +kernel
theorem dX12_factOf_96 : decode cX12_factOf 96 = .ok (.goto 4, 3) := by decide +kernel
theorem dX12_factOf_99 : decode cX12_factOf 99 = .ok (.iconst 0, 1) := by decide +kernel
theorem dX12_factOf_100 : decode cX12_factOf 100 = .ok (.ireturn, 1) := by decide +kernel
theorem dX12_factOf_101 : decode cX12_factOf 101 = .ok (.aload_n 0, 1) := by decide +kernel
theorem dX12_factOf_102 : decode cX12_factOf 102 = .ok (.iload_n 3, 1) := by decide +kernel
theorem dX12_factOf_103 : decode cX12_factOf 103 = .ok (.invokevirtual 295, 3) := by decide +kernel
theorem dX12_factOf_106 : decode cX12_factOf 106 = .ok (.ifCond .eq 7, 3) := by decide +kernel
theorem dX12_factOf_109 : decode cX12_factOf 109 = .ok (.iconst 1, 1) := by decide +kernel
theorem dX12_factOf_110 : decode cX12_factOf 110 = .ok (.goto 4, 3) := by decide +kernel
theorem dX12_factOf_113 : decode cX12_factOf 113 = .ok (.iconst 0, 1) := by decide +kernel
theorem dX12_factOf_114 : decode cX12_factOf 114 = .ok (.ireturn, 1) := by decide +kernel
theorem dX12_factOf_115 : decode cX12_factOf 115 = .ok (.aload_n 0, 1) := by decide +kernel
theorem dX12_factOf_116 : decode cX12_factOf 116 = .ok (.iload_n 3, 1) := by decide +kernel
theorem dX12_factOf_117 : decode cX12_factOf 117 = .ok (.invokevirtual 298, 3) := by decide +kernel
theorem dX12_factOf_120 : decode cX12_factOf 120 = .ok (.ifCond .eq 7, 3) := by decide +kernel
theorem dX12_factOf_123 : decode cX12_factOf 123 = .ok (.iconst 1, 1) := by decide +kernel
theorem dX12_factOf_124 : decode cX12_factOf 124 = .ok (.goto 4, 3) := by decide +kernel
theorem dX12_factOf_127 : decode cX12_factOf 127 = .ok (.iconst 0, 1) := by decide +kernel
theorem dX12_factOf_128 : decode cX12_factOf 128 = .ok (.ireturn, 1) := by decide +kernel
theorem dX12_factOf_129 : decode cX12_factOf 129 = .ok (.iload_n 2, 1) := by decide +kernel
theorem dX12_factOf_130 : decode cX12_factOf 130 = .ok (.ireturn, 1) := by decide +kernel
set_option maxRecDepth 100000 in
set_option maxHeartbeats 200000 in
theorem T_X12_factOf_0 {X : CX} (hX : Ok X cX12_factOf 4 RX12 (some .int)) (hdx : dX X = 6) {r : Int32} (x1 : Int32) (x2 : Int32) (x3 : Int32) (h : Hp) (hf : f_X12_factOf x1 x2 x3 h = some r) : J X ((.inl (some (.int r)), h)) 0 [(0, .ref 30), (1, .int x1), (2, .int x2), (3, .int x3)] [] h := by
  unfold f_X12_factOf at hf
  refine J_iload_n hX 1 dX12_factOf_0 rfl rfl ?_
  rcases ifE hf with ⟨c_1, hf⟩ | ⟨c_1, hf⟩
  · refine J_nm c_1 ?_
    refine J_switchIn hX (off := 51) 52 dX12_factOf_1 (by decide) (by decide) (by decide) rfl ?_
    refine J_iload_n hX 3 dX12_factOf_52 rfl rfl ?_
    exact E_Ip hX dX12_factOf_53 hf
  rcases ifE hf with ⟨c_2, hf⟩ | ⟨c_2, hf⟩
  · refine J_nm c_2 ?_
    refine J_switchIn hX (off := 53) 54 dX12_factOf_1 (by decide) (by decide) (by decide) rfl ?_
    refine J_aload_n hX 0 dX12_factOf_54 rfl rfl ?_
    refine J_iload_n hX 3 dX12_factOf_55 rfl rfl ?_
    refine J_iconst hX 0 dX12_factOf_56 rfl ?_
    obtain ⟨r_3, e_4, hf⟩ := bdE hf
    refine V_1 hX [.int x3, .int 0] dX12_factOf_57 cw_X12_84 ob_30 rfl (C_X12_of (okG hX) e_4) (ltD hdx rfl) rfl rfl rfl rfl ?_
    exact E_Ip hX dX12_factOf_60 hf
  rcases ifE hf with ⟨c_5, hf⟩ | ⟨c_5, hf⟩
  · refine J_nm c_5 ?_
    refine J_switchIn hX (off := 60) 61 dX12_factOf_1 (by decide) (by decide) (by decide) rfl ?_
    refine J_aload_n hX 0 dX12_factOf_61 rfl rfl ?_
    refine J_iload_n hX 3 dX12_factOf_62 rfl rfl ?_
    refine J_iconst hX 2 dX12_factOf_63 rfl ?_
    obtain ⟨r_6, e_7, hf⟩ := bdE hf
    refine V_1 hX [.int x3, .int 2] dX12_factOf_64 cw_X12_84 ob_30 rfl (C_X12_of (okG hX) e_7) (ltD hdx rfl) rfl rfl rfl rfl ?_
    exact E_Ip hX dX12_factOf_67 hf
  rcases ifE hf with ⟨c_8, hf⟩ | ⟨c_8, hf⟩
  · refine J_nm c_8 ?_
    refine J_switchIn hX (off := 67) 68 dX12_factOf_1 (by decide) (by decide) (by decide) rfl ?_
    refine J_aload_n hX 0 dX12_factOf_68 rfl rfl ?_
    refine J_iload_n hX 3 dX12_factOf_69 rfl rfl ?_
    refine J_iconst hX 3 dX12_factOf_70 rfl ?_
    obtain ⟨r_9, e_10, hf⟩ := bdE hf
    refine V_1 hX [.int x3, .int 3] dX12_factOf_71 cw_X12_84 ob_30 rfl (C_X12_of (okG hX) e_10) (ltD hdx rfl) rfl rfl rfl rfl ?_
    exact E_Ip hX dX12_factOf_74 hf
  rcases ifE hf with ⟨c_11, hf⟩ | ⟨c_11, hf⟩
  · refine J_nm c_11 ?_
    refine J_switchIn hX (off := 74) 75 dX12_factOf_1 (by decide) (by decide) (by decide) rfl ?_
    refine J_aload_n hX 0 dX12_factOf_75 rfl rfl ?_
    refine J_getI hX dX12_factOf_76 fl_X12_286 ob_30 rfl ?_
    exact E_Ip hX dX12_factOf_79 hf
  rcases ifE hf with ⟨c_12, hf⟩ | ⟨c_12, hf⟩
  · refine J_nm c_12 ?_
    refine J_switchIn hX (off := 79) 80 dX12_factOf_1 (by decide) (by decide) (by decide) rfl ?_
    refine J_aload_n hX 0 dX12_factOf_80 rfl rfl ?_
    refine J_getR hX 36 dX12_factOf_81 fl_X12_29 ob_30 rfl rfl ?_
    refine J_iload_n hX 3 dX12_factOf_84 rfl rfl ?_
    obtain ⟨g_13, hf⟩ := gdE hf
    refine J_ald hX x3.toNatClampNeg dX12_factOf_85 ar_36 (Or.inl ⟨rfl, rfl⟩) g_13 rfl ?_
    exact E_Ip hX dX12_factOf_86 hf
  rcases ifE hf with ⟨c_14, hf⟩ | ⟨c_14, hf⟩
  · refine J_nm c_14 ?_
    refine J_switchIn hX (off := 86) 87 dX12_factOf_1 (by decide) (by decide) (by decide) rfl ?_
    refine J_aload_n hX 0 dX12_factOf_87 rfl rfl ?_
    refine J_iload_n hX 3 dX12_factOf_88 rfl rfl ?_
    obtain ⟨r_15, e_16, hf⟩ := bdE hf
    refine V_1 hX [.int x3] dX12_factOf_89 cw_X12_106 ob_30 rfl (C_X12_partsOf (okG hX) e_16) (ltD hdx rfl) rfl rfl rfl rfl ?_
    rcases ifE hf with ⟨c_17, hf⟩ | ⟨c_17, hf⟩
    · refine J_if_leF hX 99 dX12_factOf_92 rfl c_17 ?_
      refine J_iconst hX 1 dX12_factOf_95 rfl ?_
      refine J_goto hX 100 dX12_factOf_96 rfl ?_
      exact E_Ip hX dX12_factOf_100 hf
    · refine J_if_leT hX 99 dX12_factOf_92 rfl c_17 ?_
      refine J_iconst hX 0 dX12_factOf_99 rfl ?_
      exact E_Ip hX dX12_factOf_100 hf
  rcases ifE hf with ⟨c_18, hf⟩ | ⟨c_18, hf⟩
  · refine J_nm c_18 ?_
    refine J_switchIn hX (off := 100) 101 dX12_factOf_1 (by decide) (by decide) (by decide) rfl ?_
    refine J_aload_n hX 0 dX12_factOf_101 rfl rfl ?_
    refine J_iload_n hX 3 dX12_factOf_102 rfl rfl ?_
    obtain ⟨r_19, e_20, hf⟩ := bdE hf
    refine V_1 hX [.int x3] dX12_factOf_103 cw_X12_295 ob_30 rfl (C_X12_isLeant (okG hX) e_20) (ltD hdx rfl) rfl rfl rfl rfl ?_
    rcases ifE hf with ⟨c_21, hf⟩ | ⟨c_21, hf⟩
    · refine J_if_eqF hX 113 dX12_factOf_106 rfl (b2iT c_21) ?_
      refine J_iconst hX 1 dX12_factOf_109 rfl ?_
      refine J_goto hX 114 dX12_factOf_110 rfl ?_
      exact E_Ip hX dX12_factOf_114 hf
    · refine J_if_eqT hX 113 dX12_factOf_106 rfl (b2iF c_21) ?_
      refine J_iconst hX 0 dX12_factOf_113 rfl ?_
      exact E_Ip hX dX12_factOf_114 hf
  rcases ifE hf with ⟨c_22, hf⟩ | ⟨c_22, hf⟩
  · refine J_nm c_22 ?_
    refine J_switchIn hX (off := 114) 115 dX12_factOf_1 (by decide) (by decide) (by decide) rfl ?_
    refine J_aload_n hX 0 dX12_factOf_115 rfl rfl ?_
    refine J_iload_n hX 3 dX12_factOf_116 rfl rfl ?_
    obtain ⟨r_23, e_24, hf⟩ := bdE hf
    refine V_1 hX [.int x3] dX12_factOf_117 cw_X12_298 ob_30 rfl (C_X12_isHeld (okG hX) e_24) (ltD hdx rfl) rfl rfl rfl rfl ?_
    rcases ifE hf with ⟨c_25, hf⟩ | ⟨c_25, hf⟩
    · refine J_if_eqF hX 127 dX12_factOf_120 rfl (b2iT c_25) ?_
      refine J_iconst hX 1 dX12_factOf_123 rfl ?_
      refine J_goto hX 128 dX12_factOf_124 rfl ?_
      exact E_Ip hX dX12_factOf_128 hf
    · refine J_if_eqT hX 127 dX12_factOf_120 rfl (b2iF c_25) ?_
      refine J_iconst hX 0 dX12_factOf_127 rfl ?_
      exact E_Ip hX dX12_factOf_128 hf
  refine J_switchOut hX 129 dX12_factOf_1 (sw_def 0 8 x1 (fun v_ a_ b_ => ?_)) rfl ?_
  · rcases (show v_ = 0 ∨ v_ = 1 ∨ v_ = 2 ∨ v_ = 3 ∨ v_ = 4 ∨ v_ = 5 ∨ v_ = 6 ∨ v_ = 7 ∨ v_ = 8 by omega) with rfl | rfl | rfl | rfl | rfl | rfl | rfl | rfl | rfl
    · exact c_1
    · exact c_2
    · exact c_5
    · exact c_8
    · exact c_11
    · exact c_12
    · exact c_14
    · exact c_18
    · exact c_22
  refine J_iload_n hX 2 dX12_factOf_129 rfl rfl ?_
  exact E_Ip hX dX12_factOf_130 hf
set_option maxRecDepth 100000 in
set_option maxHeartbeats 200000 in
theorem C_X12_factOf {G : GX} (hG : GOk G) {x1 : Int32} {x2 : Int32} {x3 : Int32} {h : Hp} {r : Int32} (hf : f_X12_factOf x1 x2 x3 h = some r) : Ctr G 6 yX12_factOf cX12_factOf 4 (some .int) [.ref 30, .int x1, .int x2, .int x3] h ((.inl (some (.int r)), h)) :=
  Ctr_of hG RX12 rfl (by decide) rfl (fun X _ hdx hX => T_X12_factOf_0 hX hdx x1 x2 x3 h hf)
theorem dX12_holdsLine_0 : decode cX12_holdsLine 0 = .ok (.iconst 0, 1) := by decide +kernel
theorem dX12_holdsLine_1 : decode cX12_holdsLine 1 = .ok (.istore_n 3, 1) := by decide +kernel
theorem dX12_holdsLine_2 : decode cX12_holdsLine 2 = .ok (.sipush 493, 3) := by decide +kernel
theorem dX12_holdsLine_5 : decode cX12_holdsLine 5 = .ok (.iconst 4, 1) := by decide +kernel
theorem dX12_holdsLine_6 : decode cX12_holdsLine 6 = .ok (.iload_n 1, 1) := by decide +kernel
theorem dX12_holdsLine_7 : decode cX12_holdsLine 7 = .ok (.imul, 1) := by decide +kernel
theorem dX12_holdsLine_8 : decode cX12_holdsLine 8 = .ok (.iadd, 1) := by decide +kernel
theorem dX12_holdsLine_9 : decode cX12_holdsLine 9 = .ok (.istore 4, 2) := by decide +kernel
theorem dX12_holdsLine_11 : decode cX12_holdsLine 11 = .ok (.aload_n 0, 1) := by decide +kernel
theorem dX12_holdsLine_12 : decode cX12_holdsLine 12 = .ok (.getfield 13, 3) := by decide +kernel
theorem dX12_holdsLine_15 : decode cX12_holdsLine 15 = .ok (.iload 4, 2) := by decide +kernel
theorem dX12_holdsLine_17 : decode cX12_holdsLine 17 = .ok (.iconst 2, 1) := by decide +kernel
theorem dX12_holdsLine_18 : decode cX12_holdsLine 18 = .ok (.iadd, 1) := by decide +kernel
theorem dX12_holdsLine_19 : decode cX12_holdsLine 19 = .ok (.iaload, 1) := by decide +kernel
theorem dX12_holdsLine_20 : decode cX12_holdsLine 20 = .ok (.istore 5, 2) := by decide +kernel
theorem dX12_holdsLine_22 : decode cX12_holdsLine 22 = .ok (.iload 5, 2) := by decide +kernel
theorem dX12_holdsLine_24 : decode cX12_holdsLine 24 = .ok (.aload_n 0, 1) := by decide +kernel
theorem dX12_holdsLine_25 : decode cX12_holdsLine 25 = .ok (.getfield 13, 3) := by decide +kernel
theorem dX12_holdsLine_28 : decode cX12_holdsLine 28 = .ok (.iload 4, 2) := by decide +kernel
theorem dX12_holdsLine_30 : decode cX12_holdsLine 30 = .ok (.iconst 3, 1) := by decide +kernel
theorem dX12_holdsLine_31 : decode cX12_holdsLine 31 = .ok (.iadd, 1) := by decide +kernel
theorem dX12_holdsLine_32 : decode cX12_holdsLine 32 = .ok (.iaload, 1) := by decide +kernel
theorem dX12_holdsLine_33 : decode cX12_holdsLine 33 = .ok (.if_icmp .ge 230, 3) := by decide +kernel
theorem dX12_holdsLine_36 : decode cX12_holdsLine 36 = .ok (.aload_n 0, 1) := by decide +kernel
theorem dX12_holdsLine_37 : decode cX12_holdsLine 37 = .ok (.getfield 13, 3) := by decide +kernel
theorem dX12_holdsLine_40 : decode cX12_holdsLine 40 = .ok (.sipush 541, 3) := by decide +kernel
theorem dX12_holdsLine_43 : decode cX12_holdsLine 43 = .ok (.iconst 2, 1) := by decide +kernel
theorem dX12_holdsLine_44 : decode cX12_holdsLine 44 = .ok (.iload 5, 2) := by decide +kernel
theorem dX12_holdsLine_46 : decode cX12_holdsLine 46 = .ok (.imul, 1) := by decide +kernel
theorem dX12_holdsLine_47 : decode cX12_holdsLine 47 = .ok (.iadd, 1) := by decide +kernel
theorem dX12_holdsLine_48 : decode cX12_holdsLine 48 = .ok (.iaload, 1) := by decide +kernel
theorem dX12_holdsLine_49 : decode cX12_holdsLine 49 = .ok (.istore 6, 2) := by decide +kernel
theorem dX12_holdsLine_51 : decode cX12_holdsLine 51 = .ok (.iload 6, 2) := by decide +kernel
theorem dX12_holdsLine_53 : decode cX12_holdsLine 53 = .ok (.bipush 9, 2) := by decide +kernel
theorem dX12_holdsLine_55 : decode cX12_holdsLine 55 = .ok (.if_icmp .gt 37, 3) := by decide +kernel
theorem dX12_holdsLine_58 : decode cX12_holdsLine 58 = .ok (.aload_n 0, 1) := by decide +kernel
theorem dX12_holdsLine_59 : decode cX12_holdsLine 59 = .ok (.getfield 45, 3) := by decide +kernel
theorem dX12_holdsLine_62 : decode cX12_holdsLine 62 = .ok (.iload_n 3, 1) := by decide +kernel
theorem dX12_holdsLine_63 : decode cX12_holdsLine 63 = .ok (.aload_n 0, 1) := by decide +kernel
theorem dX12_holdsLine_64 : decode cX12_holdsLine 64 = .ok (.iload 6, 2) := by decide +kernel
theorem dX12_holdsLine_66 : decode cX12_holdsLine 66 = .ok (.aload_n 0, 1) := by decide +kernel
theorem dX12_holdsLine_67 : decode cX12_holdsLine 67 = .ok (.getfield 13, 3) := by decide +kernel
theorem dX12_holdsLine_70 : decode cX12_holdsLine 70 = .ok (.sipush 541, 3) := by decide +kernel
theorem dX12_holdsLine_73 : decode cX12_holdsLine 73 = .ok (.iconst 2, 1) := by decide +kernel
theorem dX12_holdsLine_74 : decode cX12_holdsLine 74 = .ok (.iload 5, 2) := by decide +kernel
theorem dX12_holdsLine_76 : decode cX12_holdsLine 76 = .ok (.imul, 1) := by decide +kernel
theorem dX12_holdsLine_77 : decode cX12_holdsLine 77 = .ok (.iadd, 1) := by decide +kernel
theorem dX12_holdsLine_78 : decode cX12_holdsLine 78 = .ok (.iconst 1, 1) := by decide +kernel
theorem dX12_holdsLine_79 : decode cX12_holdsLine 79 = .ok (.iadd, 1) := by decide +kernel
theorem dX12_holdsLine_80 : decode cX12_holdsLine 80 = .ok (.iaload, 1) := by decide +kernel
theorem dX12_holdsLine_81 : decode cX12_holdsLine 81 = .ok (.iload_n 2, 1) := by decide +kernel
theorem dX12_holdsLine_82 : decode cX12_holdsLine 82 = .ok (.invokevirtual 301, 3) := by decide +kernel
theorem dX12_holdsLine_85 : decode cX12_holdsLine 85 = .ok (.iastore, 1) := by decide +kernel
theorem dX12_holdsLine_86 : decode cX12_holdsLine 86 = .ok (.iinc 3 1, 3) := by decide +kernel
theorem dX12_holdsLine_89 : decode cX12_holdsLine 89 = .ok (.goto 168, 3) := by decide +kernel
theorem dX12_holdsLine_92 : decode cX12_holdsLine 92 = .ok (.iload 6, 2) := by decide +kernel
theorem dX12_holdsLine_94 : decode cX12_holdsLine 94 = .ok (.bipush 13, 2) := by decide +kernel
theorem dX12_holdsLine_96 : decode cX12_holdsLine 96 = .ok (.if_icmp .ne 24, 3) := by decide +kernel
theorem dX12_holdsLine_99 : decode cX12_holdsLine 99 = .ok (.aload_n 0, 1) := by decide +kernel
theorem dX12_holdsLine_100 : decode cX12_holdsLine 100 = .ok (.getfield 45, 3) := by decide +kernel
theorem dX12_holdsLine_103 : decode cX12_holdsLine 103 = .ok (.iload_n 3, 1) := by decide +kernel
theorem dX12_holdsLine_104 : decode cX12_holdsLine 104 = .ok (.iconst 1, 1) := by decide +kernel
theorem dX12_holdsLine_105 : decode cX12_holdsLine 105 = .ok (.isub, 1) := by decide +kernel
theorem dX12_holdsLine_106 : decode cX12_holdsLine 106 = .ok (.iconst 1, 1) := by decide +kernel
theorem dX12_holdsLine_107 : decode cX12_holdsLine 107 = .ok (.aload_n 0, 1) := by decide +kernel
theorem dX12_holdsLine_108 : decode cX12_holdsLine 108 = .ok (.getfield 45, 3) := by decide +kernel
theorem dX12_holdsLine_111 : decode cX12_holdsLine 111 = .ok (.iload_n 3, 1) := by decide +kernel
theorem dX12_holdsLine_112 : decode cX12_holdsLine 112 = .ok (.iconst 1, 1) := by decide +kernel
theorem dX12_holdsLine_113 : decode cX12_holdsLine 113 = .ok (.isub, 1) := by decide +kernel
theorem dX12_holdsLine_114 : decode cX12_holdsLine 114 = .ok (.iaload, 1) := by decide +kernel
theorem dX12_holdsLine_115 : decode cX12_holdsLine 115 = .ok (.isub, 1) := by decide +kernel
theorem dX12_holdsLine_116 : decode cX12_holdsLine 116 = .ok (.iastore, 1) := by decide +kernel
theorem dX12_holdsLine_117 : decode cX12_holdsLine 117 = .ok (.goto 140, 3) := by decide +kernel
theorem dX12_holdsLine_120 : decode cX12_holdsLine 120 = .ok (.iinc 3 (-1), 3) := by decide +kernel
theorem dX12_holdsLine_123 : decode cX12_holdsLine 123 = .ok (.aload_n 0, 1) := by decide +kernel
theorem dX12_holdsLine_124 : decode cX12_holdsLine 124 = .ok (.getfield 45, 3) := by decide +kernel
theorem dX12_holdsLine_127 : decode cX12_holdsLine 127 = .ok (.iload_n 3, 1) := by decide +kernel
theorem dX12_holdsLine_128 : decode cX12_holdsLine 128 = .ok (.iconst 1, 1) := by decide +kernel
theorem dX12_holdsLine_129 : decode cX12_holdsLine 129 = .ok (.isub, 1) := by decide +kernel
theorem dX12_holdsLine_130 : decode cX12_holdsLine 130 = .ok (.iaload, 1) := by decide +kernel
theorem dX12_holdsLine_131 : decode cX12_holdsLine 131 = .ok (.istore 7, 2) := by decide +kernel
theorem dX12_holdsLine_133 : decode cX12_holdsLine 133 = .ok (.aload_n 0, 1) := by decide +kernel
theorem dX12_holdsLine_134 : decode cX12_holdsLine 134 = .ok (.getfield 45, 3) := by decide +kernel
theorem dX12_holdsLine_137 : decode cX12_holdsLine 137 = .ok (.iload_n 3, 1) := by decide +kernel
theorem dX12_holdsLine_138 : decode cX12_holdsLine 138 = .ok (.iaload, 1) := by decide +kernel
theorem dX12_holdsLine_139 : decode cX12_holdsLine 139 = .ok (.istore 8, 2) := by decide +kernel
theorem dX12_holdsLine_141 : decode cX12_holdsLine 141 = .ok (.iload 6, 2) := by decide +kernel
theorem dX12_holdsLine_143 : decode cX12_holdsLine 143 = .ok (.bipush 11, 2) := by decide +kernel
theorem dX12_holdsLine_145 : decode cX12_holdsLine 145 = .ok (.if_icmp .ne 18, 3) := by decide +kernel
theorem dX12_holdsLine_148 : decode cX12_holdsLine 148 = .ok (.iload 7, 2) := by decide +kernel
theorem dX12_holdsLine_150 : decode cX12_holdsLine 150 = .ok (.iload 8, 2) := by decide +kernel
theorem dX12_holdsLine_152 : decode cX12_holdsLine 152 = .ok (.if_icmp .ge 7, 3) := by decide +kernel
theorem dX12_holdsLine_155 : decode cX12_holdsLine 155 = .ok (.iconst 1, 1) := by decide +kernel
theorem dX12_holdsLine_156 : decode cX12_holdsLine 156 = .ok (.goto 66, 3) := by decide +kernel
theorem dX12_holdsLine_159 : decode cX12_holdsLine 159 = .ok (.iconst 0, 1) := by decide +kernel
theorem dX12_holdsLine_160 : decode cX12_holdsLine 160 = .ok (.goto 62, 3) := by decide +kernel
theorem dX12_holdsLine_163 : decode cX12_holdsLine 163 = .ok (.iload 6, 2) := by decide +kernel
theorem dX12_holdsLine_165 : decode cX12_holdsLine 165 = .ok (.bipush 12, 2) := by decide +kernel
theorem dX12_holdsLine_167 : decode cX12_holdsLine 167 = .ok (.if_icmp .ne 18, 3) := by decide +kernel
theorem dX12_holdsLine_170 : decode cX12_holdsLine 170 = .ok (.iload 7, 2) := by decide +kernel
theorem dX12_holdsLine_172 : decode cX12_holdsLine 172 = .ok (.iload 8, 2) := by decide +kernel
theorem dX12_holdsLine_174 : decode cX12_holdsLine 174 = .ok (.if_icmp .le 7, 3) := by decide +kernel
theorem dX12_holdsLine_177 : decode cX12_holdsLine 177 = .ok (.iconst 1, 1) := by decide +kernel
theorem dX12_holdsLine_178 : decode cX12_holdsLine 178 = .ok (.goto 44, 3) := by decide +kernel
theorem dX12_holdsLine_181 : decode cX12_holdsLine 181 = .ok (.iconst 0, 1) := by decide +kernel
theorem dX12_holdsLine_182 : decode cX12_holdsLine 182 = .ok (.goto 40, 3) := by decide +kernel
theorem dX12_holdsLine_185 : decode cX12_holdsLine 185 = .ok (.iload 6, 2) := by decide +kernel
theorem dX12_holdsLine_187 : decode cX12_holdsLine 187 = .ok (.bipush 14, 2) := by decide +kernel
theorem dX12_holdsLine_189 : decode cX12_holdsLine 189 = .ok (.if_icmp .ne 20, 3) := by decide +kernel
theorem dX12_holdsLine_192 : decode cX12_holdsLine 192 = .ok (.iload 7, 2) := by decide +kernel
theorem dX12_holdsLine_194 : decode cX12_holdsLine 194 = .ok (.iload 8, 2) := by decide +kernel
theorem dX12_holdsLine_196 : decode cX12_holdsLine 196 = .ok (.iadd, 1) := by decide +kernel
theorem dX12_holdsLine_197 : decode cX12_holdsLine 197 = .ok (.iconst 2, 1) := by decide +kernel
theorem dX12_holdsLine_198 : decode cX12_holdsLine 198 = .ok (.if_icmp .ne 7, 3) := by decide +kernel
theorem dX12_holdsLine_201 : decode cX12_holdsLine 201 = .ok (.iconst 1, 1) := by decide +kernel
theorem dX12_holdsLine_202 : decode cX12_holdsLine 202 = .ok (.goto 20, 3) := by decide +kernel
theorem dX12_holdsLine_205 : decode cX12_holdsLine 205 = .ok (.iconst 0, 1) := by decide +kernel
theorem dX12_holdsLine_206 : decode cX12_holdsLine 206 = .ok (.goto 16, 3) := by decide +kernel
theorem dX12_holdsLine_209 : decode cX12_holdsLine 209 = .ok (.iload 7, 2) := by decide +kernel
theorem dX12_holdsLine_211 : decode cX12_holdsLine 211 = .ok (.iload 8, 2) := by decide +kernel
theorem dX12_holdsLine_213 : decode cX12_holdsLine 213 = .ok (.iadd, 1) := by decide +kernel
theorem dX12_holdsLine_214 : decode cX12_holdsLine 214 = .ok (.ifCond .le 7, 3) := by decide +kernel
theorem dX12_holdsLine_217 : decode cX12_holdsLine 217 = .ok (.iconst 1, 1) := by decide +kernel
theorem dX12_holdsLine_218 : decode cX12_holdsLine 218 = .ok (.goto 4, 3) := by decide +kernel
theorem dX12_holdsLine_221 : decode cX12_holdsLine 221 = .ok (.iconst 0, 1) := by decide +kernel
theorem dX12_holdsLine_222 : decode cX12_holdsLine 222 = .ok (.istore 9, 2) := by decide +kernel
theorem dX12_holdsLine_224 : decode cX12_holdsLine 224 = .ok (.aload_n 0, 1) := by decide +kernel
theorem dX12_holdsLine_225 : decode cX12_holdsLine 225 = .ok (.getfield 45, 3) := by decide +kernel
theorem dX12_holdsLine_228 : decode cX12_holdsLine 228 = .ok (.iload_n 3, 1) := by decide +kernel
theorem dX12_holdsLine_229 : decode cX12_holdsLine 229 = .ok (.iconst 1, 1) := by decide +kernel
theorem dX12_holdsLine_230 : decode cX12_holdsLine 230 = .ok (.isub, 1) := by decide +kernel
theorem dX12_holdsLine_231 : decode cX12_holdsLine 231 = .ok (.iload 6, 2) := by decide +kernel
theorem dX12_holdsLine_233 : decode cX12_holdsLine 233 = .ok (.bipush 10, 2) := by decide +kernel
theorem dX12_holdsLine_235 : decode cX12_holdsLine 235 = .ok (.if_icmp .ne 11, 3) := by decide +kernel
theorem dX12_holdsLine_238 : decode cX12_holdsLine 238 = .ok (.iload 7, 2) := by decide +kernel
theorem dX12_holdsLine_240 : decode cX12_holdsLine 240 = .ok (.iload 8, 2) := by decide +kernel
theorem dX12_holdsLine_242 : decode cX12_holdsLine 242 = .ok (.iadd, 1) := by decide +kernel
theorem dX12_holdsLine_243 : decode cX12_holdsLine 243 = .ok (.goto 13, 3) := by decide +kernel
theorem dX12_holdsLine_246 : decode cX12_holdsLine 246 = .ok (.iload 9, 2) := by decide +kernel
theorem dX12_holdsLine_248 : decode cX12_holdsLine 248 = .ok (.ifCond .eq 7, 3) := by decide +kernel
theorem dX12_holdsLine_251 : decode cX12_holdsLine 251 = .ok (.iconst 1, 1) := by decide +kernel
theorem dX12_holdsLine_252 : decode cX12_holdsLine 252 = .ok (.goto 4, 3) := by decide +kernel
theorem dX12_holdsLine_255 : decode cX12_holdsLine 255 = .ok (.iconst 0, 1) := by decide +kernel
theorem dX12_holdsLine_256 : decode cX12_holdsLine 256 = .ok (.iastore, 1) := by decide +kernel
theorem dX12_holdsLine_257 : decode cX12_holdsLine 257 = .ok (.iinc 5 1, 3) := by decide +kernel
theorem dX12_holdsLine_260 : decode cX12_holdsLine 260 = .ok (.goto (-238), 3) := by decide +kernel
theorem dX12_holdsLine_263 : decode cX12_holdsLine 263 = .ok (.iload_n 3, 1) := by decide +kernel
theorem dX12_holdsLine_264 : decode cX12_holdsLine 264 = .ok (.ifCond .eq 13, 3) := by decide +kernel
theorem dX12_holdsLine_267 : decode cX12_holdsLine 267 = .ok (.aload_n 0, 1) := by decide +kernel
theorem dX12_holdsLine_268 : decode cX12_holdsLine 268 = .ok (.getfield 45, 3) := by decide +kernel
theorem dX12_holdsLine_271 : decode cX12_holdsLine 271 = .ok (.iconst 0, 1) := by decide +kernel
theorem dX12_holdsLine_272 : decode cX12_holdsLine 272 = .ok (.iaload, 1) := by decide +kernel
theorem dX12_holdsLine_273 : decode cX12_holdsLine 273 = .ok (.iconst 1, 1) := by decide +kernel
theorem dX12_holdsLine_274 : decode cX12_holdsLine 274 = .ok (.if_icmp .ne 7, 3) := by decide +kernel
theorem dX12_holdsLine_277 : decode cX12_holdsLine 277 = .ok (.iconst 1, 1) := by decide +kernel
theorem dX12_holdsLine_278 : decode cX12_holdsLine 278 = .ok (.goto 4, 3) := by decide +kernel
theorem dX12_holdsLine_281 : decode cX12_holdsLine 281 = .ok (.iconst 0, 1) := by decide +kernel
theorem dX12_holdsLine_282 : decode cX12_holdsLine 282 = .ok (.ireturn, 1) := by decide +kernel
set_option maxRecDepth 100000 in
set_option maxHeartbeats 200000 in
theorem T_X12_holdsLine_256 {X : CX} (hX : Ok X cX12_holdsLine 10 RX12 (some .boolean)) (hdx : dX X = 7) {r : Bool × Hp} (x2 : Int32) (x3 : Int32) (x4 : Int32) (x5 : Int32) (t0 : Int32) (t1 : Int32) (q_22 : Int32 → Int32 → Hp → Option (Bool × Hp)) (hq_22 : ∀ (x3 : Int32) (x5 : Int32) (h : Hp), q_22 x3 x5 h = some r → J X ((.inl (some (.int (b2i r.1))), r.2)) 22 [(0, .ref 30), (2, .int x2), (3, .int x3), (4, .int x4), (5, .int x5)] [] h) (h : Hp) (hf : F_X12_holdsLine_256 q_22 x2 x3 x4 x5 t0 t1 h = some r) : J X ((.inl (some (.int (b2i r.1))), r.2)) 256 [(0, .ref 30), (2, .int x2), (3, .int x3), (4, .int x4), (5, .int x5)] [.int t0, .int t1, .ref 40] h := by
  unfold F_X12_holdsLine_256 at hf
  obtain ⟨g_1, hf⟩ := gdE hf
  obtain ⟨h_2, e_3, hf⟩ := bndE hf
  refine J_ast hX t1.toNatClampNeg t0 dX12_holdsLine_256 ar_40 (Or.inl ⟨rfl, rfl, rfl⟩) g_1 rfl ?_
  refine J_nmh e_3 ?_
  refine J_iinc hX (x5 + 1) 4 [(5, .int (x5 + 1)), (0, .ref 30), (2, .int x2), (3, .int x3), (4, .int x4)] dX12_holdsLine_257 rfl rfl rfl rfl ?_
  refine J_goto hX 22 dX12_holdsLine_260 rfl ?_
  refine J_sub [1, 2, 3, 4, 0] [(0, .ref 30), (2, .int x2), (3, .int x3), (4, .int x4), (5, .int (x5 + 1))] rfl ?_
  exact hq_22 x3 (x5 + 1) h_2 hf
set_option maxRecDepth 100000 in
set_option maxHeartbeats 200000 in
theorem T_X12_holdsLine_222 {X : CX} (hX : Ok X cX12_holdsLine 10 RX12 (some .boolean)) (hdx : dX X = 7) {r : Bool × Hp} (x2 : Int32) (x3 : Int32) (x4 : Int32) (x5 : Int32) (x6 : Int32) (x7 : Int32) (x8 : Int32) (t0 : Int32) (q_22 : Int32 → Int32 → Hp → Option (Bool × Hp)) (hq_22 : ∀ (x3 : Int32) (x5 : Int32) (h : Hp), q_22 x3 x5 h = some r → J X ((.inl (some (.int (b2i r.1))), r.2)) 22 [(0, .ref 30), (2, .int x2), (3, .int x3), (4, .int x4), (5, .int x5)] [] h) (h : Hp) (hf : F_X12_holdsLine_222 q_22 x2 x3 x4 x5 x6 x7 x8 t0 h = some r) : J X ((.inl (some (.int (b2i r.1))), r.2)) 222 [(0, .ref 30), (2, .int x2), (3, .int x3), (4, .int x4), (5, .int x5), (6, .int x6), (7, .int x7), (8, .int x8)] [.int t0] h := by
  unfold F_X12_holdsLine_222 at hf
  refine J_istore hX [(9, .int t0), (0, .ref 30), (2, .int x2), (3, .int x3), (4, .int x4), (5, .int x5), (6, .int x6), (7, .int x7), (8, .int x8)] dX12_holdsLine_222 rfl rfl ?_
  refine J_aload_n hX 1 dX12_holdsLine_224 rfl rfl ?_
  refine J_getR hX 40 dX12_holdsLine_225 fl_X12_45 ob_30 rfl rfl ?_
  refine J_iload_n hX 3 dX12_holdsLine_228 rfl rfl ?_
  refine J_iconst hX 1 dX12_holdsLine_229 rfl ?_
  refine J_isub hX dX12_holdsLine_230 ?_
  refine J_iload hX 6 dX12_holdsLine_231 rfl ?_
  refine J_bipush hX 10 dX12_holdsLine_233 rfl ?_
  rcases ifE hf with ⟨c_1, hf⟩ | ⟨c_1, hf⟩
  · refine J_icmp_neF hX 246 dX12_holdsLine_235 rfl c_1 ?_
    refine J_iload hX 7 dX12_holdsLine_238 rfl ?_
    refine J_iload hX 8 dX12_holdsLine_240 rfl ?_
    refine J_iadd hX dX12_holdsLine_242 ?_
    refine J_goto hX 256 dX12_holdsLine_243 rfl ?_
    refine J_sub [1, 2, 3, 4, 5] [(0, .ref 30), (2, .int x2), (3, .int x3), (4, .int x4), (5, .int x5)] rfl ?_
    exact T_X12_holdsLine_256 hX hdx x2 x3 x4 x5 (x7 + x8) (x3 - 1) q_22 hq_22 h hf
  · refine J_icmp_neT hX 246 dX12_holdsLine_235 rfl c_1 ?_
    refine J_iload hX 0 dX12_holdsLine_246 rfl ?_
    rcases ifE hf with ⟨c_2, hf⟩ | ⟨c_2, hf⟩
    · refine J_if_eqT hX 255 dX12_holdsLine_248 rfl c_2 ?_
      refine J_iconst hX 0 dX12_holdsLine_255 rfl ?_
      refine J_sub [1, 2, 3, 4, 5] [(0, .ref 30), (2, .int x2), (3, .int x3), (4, .int x4), (5, .int x5)] rfl ?_
      exact T_X12_holdsLine_256 hX hdx x2 x3 x4 x5 0 (x3 - 1) q_22 hq_22 h hf
    · refine J_if_eqF hX 255 dX12_holdsLine_248 rfl c_2 ?_
      refine J_iconst hX 1 dX12_holdsLine_251 rfl ?_
      refine J_goto hX 256 dX12_holdsLine_252 rfl ?_
      refine J_sub [1, 2, 3, 4, 5] [(0, .ref 30), (2, .int x2), (3, .int x3), (4, .int x4), (5, .int x5)] rfl ?_
      exact T_X12_holdsLine_256 hX hdx x2 x3 x4 x5 1 (x3 - 1) q_22 hq_22 h hf
set_option maxRecDepth 100000 in
set_option maxHeartbeats 200000 in
theorem T_X12_holdsLine_22_s {X : CX} (hX : Ok X cX12_holdsLine 10 RX12 (some .boolean)) (hdx : dX X = 7) {r : Bool × Hp} (x2 : Int32) (x4 : Int32) (q_22 : Int32 → Int32 → Hp → Option (Bool × Hp)) (hq_22 : ∀ (x3 : Int32) (x5 : Int32) (h : Hp), q_22 x3 x5 h = some r → J X ((.inl (some (.int (b2i r.1))), r.2)) 22 [(0, .ref 30), (2, .int x2), (3, .int x3), (4, .int x4), (5, .int x5)] [] h) (x3 : Int32) (x5 : Int32) (h : Hp) (hf : S_X12_holdsLine_22 x2 x4 q_22 x3 x5 h = some r) : J X ((.inl (some (.int (b2i r.1))), r.2)) 22 [(0, .ref 30), (2, .int x2), (3, .int x3), (4, .int x4), (5, .int x5)] [] h := by
  unfold S_X12_holdsLine_22 at hf
  refine J_iload hX 4 dX12_holdsLine_22 rfl ?_
  refine J_aload_n hX 0 dX12_holdsLine_24 rfl rfl ?_
  refine J_getR hX 31 dX12_holdsLine_25 fl_X12_13 ob_30 rfl rfl ?_
  refine J_iload hX 3 dX12_holdsLine_28 rfl ?_
  refine J_iconst hX 3 dX12_holdsLine_30 rfl ?_
  refine J_iadd hX dX12_holdsLine_31 ?_
  obtain ⟨g_1, hf⟩ := gdE hf
  refine J_ald hX ((x4 + 3).toNatClampNeg) dX12_holdsLine_32 ar_31 (Or.inl ⟨rfl, rfl⟩) g_1 rfl ?_
  rcases ifE hf with ⟨c_2, hf⟩ | ⟨c_2, hf⟩
  · refine J_icmp_geF hX 263 dX12_holdsLine_33 rfl c_2 ?_
    refine J_aload_n hX 0 dX12_holdsLine_36 rfl rfl ?_
    refine J_getR hX 31 dX12_holdsLine_37 fl_X12_13 ob_30 rfl rfl ?_
    refine J_sipush hX 541 dX12_holdsLine_40 rfl ?_
    refine J_iconst hX 2 dX12_holdsLine_43 rfl ?_
    refine J_iload hX 4 dX12_holdsLine_44 rfl ?_
    refine J_imul hX dX12_holdsLine_46 ?_
    refine J_iadd hX dX12_holdsLine_47 ?_
    obtain ⟨g_3, hf⟩ := gdE hf
    refine J_ald hX ((541 + (2 * x5)).toNatClampNeg) dX12_holdsLine_48 ar_31 (Or.inl ⟨rfl, rfl⟩) g_3 rfl ?_
    obtain ⟨x6_4, e_5, hf⟩ := bndE hf
    refine J_nm e_5 ?_
    refine J_istore hX [(6, .int x6_4), (0, .ref 30), (2, .int x2), (3, .int x3), (4, .int x4), (5, .int x5)] dX12_holdsLine_49 rfl rfl ?_
    refine J_iload hX 0 dX12_holdsLine_51 rfl ?_
    refine J_bipush hX 9 dX12_holdsLine_53 rfl ?_
    rcases ifE hf with ⟨c_6, hf⟩ | ⟨c_6, hf⟩
    · refine J_icmp_gtT hX 92 dX12_holdsLine_55 rfl c_6 ?_
      refine J_iload hX 0 dX12_holdsLine_92 rfl ?_
      refine J_bipush hX 13 dX12_holdsLine_94 rfl ?_
      rcases ifE hf with ⟨c_7, hf⟩ | ⟨c_7, hf⟩
      · refine J_icmp_neF hX 120 dX12_holdsLine_96 rfl c_7 ?_
        refine J_aload_n hX 1 dX12_holdsLine_99 rfl rfl ?_
        refine J_getR hX 40 dX12_holdsLine_100 fl_X12_45 ob_30 rfl rfl ?_
        refine J_iload_n hX 3 dX12_holdsLine_103 rfl rfl ?_
        refine J_iconst hX 1 dX12_holdsLine_104 rfl ?_
        refine J_isub hX dX12_holdsLine_105 ?_
        refine J_iconst hX 1 dX12_holdsLine_106 rfl ?_
        refine J_aload_n hX 1 dX12_holdsLine_107 rfl rfl ?_
        refine J_getR hX 40 dX12_holdsLine_108 fl_X12_45 ob_30 rfl rfl ?_
        refine J_iload_n hX 3 dX12_holdsLine_111 rfl rfl ?_
        refine J_iconst hX 1 dX12_holdsLine_112 rfl ?_
        refine J_isub hX dX12_holdsLine_113 ?_
        obtain ⟨g_8, hf⟩ := gdE hf
        refine J_ald hX ((x3 - 1).toNatClampNeg) dX12_holdsLine_114 ar_40 (Or.inl ⟨rfl, rfl⟩) g_8 rfl ?_
        refine J_isub hX dX12_holdsLine_115 ?_
        obtain ⟨g_9, hf⟩ := gdE hf
        obtain ⟨h_10, e_11, hf⟩ := bndE hf
        refine J_ast hX ((x3 - 1).toNatClampNeg) (1 - (h 40 ((x3 - 1).toNatClampNeg))) dX12_holdsLine_116 ar_40 (Or.inl ⟨rfl, rfl, rfl⟩) g_9 rfl ?_
        refine J_nmh e_11 ?_
        refine J_goto hX 257 dX12_holdsLine_117 rfl ?_
        refine J_iinc hX (x5 + 1) 5 [(5, .int (x5 + 1)), (6, .int x6_4), (0, .ref 30), (2, .int x2), (3, .int x3), (4, .int x4)] dX12_holdsLine_257 rfl rfl rfl rfl ?_
        refine J_goto hX 22 dX12_holdsLine_260 rfl ?_
        refine J_sub [2, 3, 4, 5, 0] [(0, .ref 30), (2, .int x2), (3, .int x3), (4, .int x4), (5, .int (x5 + 1))] rfl ?_
        exact hq_22 x3 (x5 + 1) h_10 hf
      · refine J_icmp_neT hX 120 dX12_holdsLine_96 rfl c_7 ?_
        refine J_iinc hX (x3 + (-1)) 3 [(3, .int (x3 + (-1))), (6, .int x6_4), (0, .ref 30), (2, .int x2), (4, .int x4), (5, .int x5)] dX12_holdsLine_120 rfl rfl rfl rfl ?_
        refine J_aload_n hX 2 dX12_holdsLine_123 rfl rfl ?_
        refine J_getR hX 40 dX12_holdsLine_124 fl_X12_45 ob_30 rfl rfl ?_
        refine J_iload_n hX 0 dX12_holdsLine_127 rfl rfl ?_
        refine J_iconst hX 1 dX12_holdsLine_128 rfl ?_
        refine J_isub hX dX12_holdsLine_129 ?_
        obtain ⟨g_12, hf⟩ := gdE hf
        refine J_ald hX (((x3 + (-1)) - 1).toNatClampNeg) dX12_holdsLine_130 ar_40 (Or.inl ⟨rfl, rfl⟩) g_12 rfl ?_
        obtain ⟨x7_13, e_14, hf⟩ := bndE hf
        refine J_nm e_14 ?_
        refine J_istore hX [(7, .int x7_13), (3, .int (x3 + (-1))), (6, .int x6_4), (0, .ref 30), (2, .int x2), (4, .int x4), (5, .int x5)] dX12_holdsLine_131 rfl rfl ?_
        refine J_aload_n hX 3 dX12_holdsLine_133 rfl rfl ?_
        refine J_getR hX 40 dX12_holdsLine_134 fl_X12_45 ob_30 rfl rfl ?_
        refine J_iload_n hX 1 dX12_holdsLine_137 rfl rfl ?_
        obtain ⟨g_15, hf⟩ := gdE hf
        refine J_ald hX ((x3 + (-1)).toNatClampNeg) dX12_holdsLine_138 ar_40 (Or.inl ⟨rfl, rfl⟩) g_15 rfl ?_
        obtain ⟨x8_16, e_17, hf⟩ := bndE hf
        refine J_nm e_17 ?_
        refine J_istore hX [(8, .int x8_16), (7, .int x7_13), (3, .int (x3 + (-1))), (6, .int x6_4), (0, .ref 30), (2, .int x2), (4, .int x4), (5, .int x5)] dX12_holdsLine_139 rfl rfl ?_
        refine J_iload hX 3 dX12_holdsLine_141 rfl ?_
        refine J_bipush hX 11 dX12_holdsLine_143 rfl ?_
        rcases ifE hf with ⟨c_18, hf⟩ | ⟨c_18, hf⟩
        · refine J_icmp_neF hX 163 dX12_holdsLine_145 rfl c_18 ?_
          refine J_iload hX 1 dX12_holdsLine_148 rfl ?_
          refine J_iload hX 0 dX12_holdsLine_150 rfl ?_
          rcases ifE hf with ⟨c_19, hf⟩ | ⟨c_19, hf⟩
          · refine J_icmp_geF hX 159 dX12_holdsLine_152 rfl c_19 ?_
            refine J_iconst hX 1 dX12_holdsLine_155 rfl ?_
            refine J_goto hX 222 dX12_holdsLine_156 rfl ?_
            refine J_sub [4, 5, 2, 6, 7, 3, 1, 0] [(0, .ref 30), (2, .int x2), (3, .int (x3 + (-1))), (4, .int x4), (5, .int x5), (6, .int x6_4), (7, .int x7_13), (8, .int x8_16)] rfl ?_
            exact T_X12_holdsLine_222 hX hdx x2 (x3 + (-1)) x4 x5 x6_4 x7_13 x8_16 1 q_22 hq_22 h hf
          · refine J_icmp_geT hX 159 dX12_holdsLine_152 rfl c_19 ?_
            refine J_iconst hX 0 dX12_holdsLine_159 rfl ?_
            refine J_goto hX 222 dX12_holdsLine_160 rfl ?_
            refine J_sub [4, 5, 2, 6, 7, 3, 1, 0] [(0, .ref 30), (2, .int x2), (3, .int (x3 + (-1))), (4, .int x4), (5, .int x5), (6, .int x6_4), (7, .int x7_13), (8, .int x8_16)] rfl ?_
            exact T_X12_holdsLine_222 hX hdx x2 (x3 + (-1)) x4 x5 x6_4 x7_13 x8_16 0 q_22 hq_22 h hf
        · refine J_icmp_neT hX 163 dX12_holdsLine_145 rfl c_18 ?_
          refine J_iload hX 3 dX12_holdsLine_163 rfl ?_
          refine J_bipush hX 12 dX12_holdsLine_165 rfl ?_
          rcases ifE hf with ⟨c_20, hf⟩ | ⟨c_20, hf⟩
          · refine J_icmp_neF hX 185 dX12_holdsLine_167 rfl c_20 ?_
            refine J_iload hX 1 dX12_holdsLine_170 rfl ?_
            refine J_iload hX 0 dX12_holdsLine_172 rfl ?_
            rcases ifE hf with ⟨c_21, hf⟩ | ⟨c_21, hf⟩
            · refine J_icmp_leF hX 181 dX12_holdsLine_174 rfl c_21 ?_
              refine J_iconst hX 1 dX12_holdsLine_177 rfl ?_
              refine J_goto hX 222 dX12_holdsLine_178 rfl ?_
              refine J_sub [4, 5, 2, 6, 7, 3, 1, 0] [(0, .ref 30), (2, .int x2), (3, .int (x3 + (-1))), (4, .int x4), (5, .int x5), (6, .int x6_4), (7, .int x7_13), (8, .int x8_16)] rfl ?_
              exact T_X12_holdsLine_222 hX hdx x2 (x3 + (-1)) x4 x5 x6_4 x7_13 x8_16 1 q_22 hq_22 h hf
            · refine J_icmp_leT hX 181 dX12_holdsLine_174 rfl c_21 ?_
              refine J_iconst hX 0 dX12_holdsLine_181 rfl ?_
              refine J_goto hX 222 dX12_holdsLine_182 rfl ?_
              refine J_sub [4, 5, 2, 6, 7, 3, 1, 0] [(0, .ref 30), (2, .int x2), (3, .int (x3 + (-1))), (4, .int x4), (5, .int x5), (6, .int x6_4), (7, .int x7_13), (8, .int x8_16)] rfl ?_
              exact T_X12_holdsLine_222 hX hdx x2 (x3 + (-1)) x4 x5 x6_4 x7_13 x8_16 0 q_22 hq_22 h hf
          · refine J_icmp_neT hX 185 dX12_holdsLine_167 rfl c_20 ?_
            refine J_iload hX 3 dX12_holdsLine_185 rfl ?_
            refine J_bipush hX 14 dX12_holdsLine_187 rfl ?_
            rcases ifE hf with ⟨c_22, hf⟩ | ⟨c_22, hf⟩
            · refine J_icmp_neF hX 209 dX12_holdsLine_189 rfl c_22 ?_
              refine J_iload hX 1 dX12_holdsLine_192 rfl ?_
              refine J_iload hX 0 dX12_holdsLine_194 rfl ?_
              refine J_iadd hX dX12_holdsLine_196 ?_
              refine J_iconst hX 2 dX12_holdsLine_197 rfl ?_
              rcases ifE hf with ⟨c_23, hf⟩ | ⟨c_23, hf⟩
              · refine J_icmp_neF hX 205 dX12_holdsLine_198 rfl c_23 ?_
                refine J_iconst hX 1 dX12_holdsLine_201 rfl ?_
                refine J_goto hX 222 dX12_holdsLine_202 rfl ?_
                refine J_sub [4, 5, 2, 6, 7, 3, 1, 0] [(0, .ref 30), (2, .int x2), (3, .int (x3 + (-1))), (4, .int x4), (5, .int x5), (6, .int x6_4), (7, .int x7_13), (8, .int x8_16)] rfl ?_
                exact T_X12_holdsLine_222 hX hdx x2 (x3 + (-1)) x4 x5 x6_4 x7_13 x8_16 1 q_22 hq_22 h hf
              · refine J_icmp_neT hX 205 dX12_holdsLine_198 rfl c_23 ?_
                refine J_iconst hX 0 dX12_holdsLine_205 rfl ?_
                refine J_goto hX 222 dX12_holdsLine_206 rfl ?_
                refine J_sub [4, 5, 2, 6, 7, 3, 1, 0] [(0, .ref 30), (2, .int x2), (3, .int (x3 + (-1))), (4, .int x4), (5, .int x5), (6, .int x6_4), (7, .int x7_13), (8, .int x8_16)] rfl ?_
                exact T_X12_holdsLine_222 hX hdx x2 (x3 + (-1)) x4 x5 x6_4 x7_13 x8_16 0 q_22 hq_22 h hf
            · refine J_icmp_neT hX 209 dX12_holdsLine_189 rfl c_22 ?_
              refine J_iload hX 1 dX12_holdsLine_209 rfl ?_
              refine J_iload hX 0 dX12_holdsLine_211 rfl ?_
              refine J_iadd hX dX12_holdsLine_213 ?_
              rcases ifE hf with ⟨c_24, hf⟩ | ⟨c_24, hf⟩
              · refine J_if_leF hX 221 dX12_holdsLine_214 rfl c_24 ?_
                refine J_iconst hX 1 dX12_holdsLine_217 rfl ?_
                refine J_goto hX 222 dX12_holdsLine_218 rfl ?_
                refine J_sub [4, 5, 2, 6, 7, 3, 1, 0] [(0, .ref 30), (2, .int x2), (3, .int (x3 + (-1))), (4, .int x4), (5, .int x5), (6, .int x6_4), (7, .int x7_13), (8, .int x8_16)] rfl ?_
                exact T_X12_holdsLine_222 hX hdx x2 (x3 + (-1)) x4 x5 x6_4 x7_13 x8_16 1 q_22 hq_22 h hf
              · refine J_if_leT hX 221 dX12_holdsLine_214 rfl c_24 ?_
                refine J_iconst hX 0 dX12_holdsLine_221 rfl ?_
                refine J_sub [4, 5, 2, 6, 7, 3, 1, 0] [(0, .ref 30), (2, .int x2), (3, .int (x3 + (-1))), (4, .int x4), (5, .int x5), (6, .int x6_4), (7, .int x7_13), (8, .int x8_16)] rfl ?_
                exact T_X12_holdsLine_222 hX hdx x2 (x3 + (-1)) x4 x5 x6_4 x7_13 x8_16 0 q_22 hq_22 h hf
    · refine J_icmp_gtF hX 92 dX12_holdsLine_55 rfl c_6 ?_
      refine J_aload_n hX 1 dX12_holdsLine_58 rfl rfl ?_
      refine J_getR hX 40 dX12_holdsLine_59 fl_X12_45 ob_30 rfl rfl ?_
      refine J_iload_n hX 3 dX12_holdsLine_62 rfl rfl ?_
      refine J_aload_n hX 1 dX12_holdsLine_63 rfl rfl ?_
      refine J_iload hX 0 dX12_holdsLine_64 rfl ?_
      refine J_aload_n hX 1 dX12_holdsLine_66 rfl rfl ?_
      refine J_getR hX 31 dX12_holdsLine_67 fl_X12_13 ob_30 rfl rfl ?_
      refine J_sipush hX 541 dX12_holdsLine_70 rfl ?_
      refine J_iconst hX 2 dX12_holdsLine_73 rfl ?_
      refine J_iload hX 5 dX12_holdsLine_74 rfl ?_
      refine J_imul hX dX12_holdsLine_76 ?_
      refine J_iadd hX dX12_holdsLine_77 ?_
      refine J_iconst hX 1 dX12_holdsLine_78 rfl ?_
      refine J_iadd hX dX12_holdsLine_79 ?_
      obtain ⟨g_25, hf⟩ := gdE hf
      refine J_ald hX (((541 + (2 * x5)) + 1).toNatClampNeg) dX12_holdsLine_80 ar_31 (Or.inl ⟨rfl, rfl⟩) g_25 rfl ?_
      refine J_iload_n hX 2 dX12_holdsLine_81 rfl rfl ?_
      obtain ⟨r_26, e_27, hf⟩ := bdE hf
      refine V_1 hX [.int x6_4, .int (h 31 (((541 + (2 * x5)) + 1).toNatClampNeg)), .int x2] dX12_holdsLine_82 cw_X12_301 ob_30 rfl (C_X12_factOf (okG hX) e_27) (ltD hdx rfl) rfl rfl rfl rfl ?_
      obtain ⟨g_28, hf⟩ := gdE hf
      obtain ⟨h_29, e_30, hf⟩ := bndE hf
      refine J_ast hX x3.toNatClampNeg r_26 dX12_holdsLine_85 ar_40 (Or.inl ⟨rfl, rfl, rfl⟩) g_28 rfl ?_
      refine J_nmh e_30 ?_
      refine J_iinc hX (x3 + 1) 3 [(3, .int (x3 + 1)), (6, .int x6_4), (0, .ref 30), (2, .int x2), (4, .int x4), (5, .int x5)] dX12_holdsLine_86 rfl rfl rfl rfl ?_
      refine J_goto hX 257 dX12_holdsLine_89 rfl ?_
      refine J_iinc hX (x5 + 1) 5 [(5, .int (x5 + 1)), (3, .int (x3 + 1)), (6, .int x6_4), (0, .ref 30), (2, .int x2), (4, .int x4)] dX12_holdsLine_257 rfl rfl rfl rfl ?_
      refine J_goto hX 22 dX12_holdsLine_260 rfl ?_
      refine J_sub [3, 4, 1, 5, 0] [(0, .ref 30), (2, .int x2), (3, .int (x3 + 1)), (4, .int x4), (5, .int (x5 + 1))] rfl ?_
      exact hq_22 (x3 + 1) (x5 + 1) h_29 hf
  · refine J_icmp_geT hX 263 dX12_holdsLine_33 rfl c_2 ?_
    refine J_iload_n hX 2 dX12_holdsLine_263 rfl rfl ?_
    rcases ifE hf with ⟨c_31, hf⟩ | ⟨c_31, hf⟩
    · refine J_if_eqT hX 277 dX12_holdsLine_264 rfl c_31 ?_
      refine J_iconst hX 1 dX12_holdsLine_277 rfl ?_
      refine J_goto hX 282 dX12_holdsLine_278 rfl ?_
      exact E_Zi hX dX12_holdsLine_282 rfl hf
    · refine J_if_eqF hX 277 dX12_holdsLine_264 rfl c_31 ?_
      refine J_aload_n hX 0 dX12_holdsLine_267 rfl rfl ?_
      refine J_getR hX 40 dX12_holdsLine_268 fl_X12_45 ob_30 rfl rfl ?_
      refine J_iconst hX 0 dX12_holdsLine_271 rfl ?_
      refine J_ald hX 0 dX12_holdsLine_272 ar_40 (Or.inl ⟨rfl, rfl⟩) (by decide) (by decide) ?_
      refine J_iconst hX 1 dX12_holdsLine_273 rfl ?_
      rcases ifE hf with ⟨c_32, hf⟩ | ⟨c_32, hf⟩
      · refine J_icmp_neF hX 281 dX12_holdsLine_274 rfl c_32 ?_
        refine J_iconst hX 1 dX12_holdsLine_277 rfl ?_
        refine J_goto hX 282 dX12_holdsLine_278 rfl ?_
        exact E_Zi hX dX12_holdsLine_282 rfl hf
      · refine J_icmp_neT hX 281 dX12_holdsLine_274 rfl c_32 ?_
        refine J_iconst hX 0 dX12_holdsLine_281 rfl ?_
        exact E_Zi hX dX12_holdsLine_282 rfl hf
set_option maxRecDepth 100000 in
set_option maxHeartbeats 200000 in
theorem T_X12_holdsLine_22 {X : CX} (hX : Ok X cX12_holdsLine 10 RX12 (some .boolean)) (hdx : dX X = 7) {r : Bool × Hp} (x2 : Int32) (x4 : Int32) : ∀ (n : Nat) (x3 : Int32) (x5 : Int32) (h : Hp), F_X12_holdsLine_22 x2 x4 n x3 x5 h = some r → J X ((.inl (some (.int (b2i r.1))), r.2)) 22 [(0, .ref 30), (2, .int x2), (3, .int x3), (4, .int x4), (5, .int x5)] [] h := by
  intro n
  induction n with
  | zero => intro x3 x5 h hf; exact nomatch hf
  | succ n ih => intro x3 x5 h hf; exact T_X12_holdsLine_22_s hX hdx x2 x4 _ (fun x3 x5 h hf => ih x3 x5 h hf) x3 x5 h hf
set_option maxRecDepth 100000 in
set_option maxHeartbeats 200000 in
theorem T_X12_holdsLine_0 {X : CX} (hX : Ok X cX12_holdsLine 10 RX12 (some .boolean)) (hdx : dX X = 7) {r : Bool × Hp} (x1 : Int32) (x2 : Int32) (h : Hp) (hf : f_X12_holdsLine x1 x2 h = some r) : J X ((.inl (some (.int (b2i r.1))), r.2)) 0 [(0, .ref 30), (1, .int x1), (2, .int x2)] [] h := by
  unfold f_X12_holdsLine at hf
  refine J_iconst hX 0 dX12_holdsLine_0 rfl ?_
  refine J_istore_n hX [(3, .int 0), (0, .ref 30), (1, .int x1), (2, .int x2)] dX12_holdsLine_1 rfl rfl rfl ?_
  refine J_sipush hX 493 dX12_holdsLine_2 rfl ?_
  refine J_iconst hX 4 dX12_holdsLine_5 rfl ?_
  refine J_iload_n hX 2 dX12_holdsLine_6 rfl rfl ?_
  refine J_imul hX dX12_holdsLine_7 ?_
  refine J_iadd hX dX12_holdsLine_8 ?_
  obtain ⟨x4_1, e_2, hf⟩ := bndE hf
  refine J_nm e_2 ?_
  refine J_istore hX [(4, .int x4_1), (3, .int 0), (0, .ref 30), (1, .int x1), (2, .int x2)] dX12_holdsLine_9 rfl rfl ?_
  refine J_aload_n hX 2 dX12_holdsLine_11 rfl rfl ?_
  refine J_getR hX 31 dX12_holdsLine_12 fl_X12_13 ob_30 rfl rfl ?_
  refine J_iload hX 0 dX12_holdsLine_15 rfl ?_
  refine J_iconst hX 2 dX12_holdsLine_17 rfl ?_
  refine J_iadd hX dX12_holdsLine_18 ?_
  obtain ⟨g_3, hf⟩ := gdE hf
  refine J_ald hX ((x4_1 + 2).toNatClampNeg) dX12_holdsLine_19 ar_31 (Or.inl ⟨rfl, rfl⟩) g_3 rfl ?_
  obtain ⟨x5_4, e_5, hf⟩ := bndE hf
  refine J_nm e_5 ?_
  refine J_istore hX [(5, .int x5_4), (4, .int x4_1), (3, .int 0), (0, .ref 30), (1, .int x1), (2, .int x2)] dX12_holdsLine_20 rfl rfl ?_
  refine J_sub [3, 5, 2, 1, 0] [(0, .ref 30), (2, .int x2), (3, .int 0), (4, .int x4_1), (5, .int x5_4)] rfl ?_
  exact T_X12_holdsLine_22 hX hdx x2 x4_1 FU 0 x5_4 h hf
set_option maxRecDepth 100000 in
set_option maxHeartbeats 200000 in
theorem C_X12_holdsLine {G : GX} (hG : GOk G) {x1 : Int32} {x2 : Int32} {h : Hp} {r : Bool × Hp} (hf : f_X12_holdsLine x1 x2 h = some r) : Ctr G 7 yX12_holdsLine cX12_holdsLine 10 (some .boolean) [.ref 30, .int x1, .int x2] h ((.inl (some (.int (b2i r.1))), r.2)) :=
  Ctr_of hG RX12 rfl (by decide) rfl (fun X _ hdx hX => T_X12_holdsLine_0 hX hdx x1 x2 h hf)
theorem dX12_sumOf_0 : decode cX12_sumOf 0 = .ok (.iconst 0, 1) := by decide +kernel
theorem dX12_sumOf_1 : decode cX12_sumOf 1 = .ok (.istore_n 3, 1) := by decide +kernel
theorem dX12_sumOf_2 : decode cX12_sumOf 2 = .ok (.iconst 0, 1) := by decide +kernel
theorem dX12_sumOf_3 : decode cX12_sumOf 3 = .ok (.istore 4, 2) := by decide +kernel
theorem dX12_sumOf_5 : decode cX12_sumOf 5 = .ok (.aload_n 0, 1) := by decide +kernel
theorem dX12_sumOf_6 : decode cX12_sumOf 6 = .ok (.getfield 13, 3) := by decide +kernel
theorem dX12_sumOf_9 : decode cX12_sumOf 9 = .ok (.iconst 3, 1) := by decide +kernel
theorem dX12_sumOf_10 : decode cX12_sumOf 10 = .ok (.iaload, 1) := by decide +kernel
theorem dX12_sumOf_11 : decode cX12_sumOf 11 = .ok (.iconst 1, 1) := by decide +kernel
theorem dX12_sumOf_12 : decode cX12_sumOf 12 = .ok (.if_icmp .ne 67, 3) := by decide +kernel
theorem dX12_sumOf_15 : decode cX12_sumOf 15 = .ok (.iload 4, 2) := by decide +kernel
theorem dX12_sumOf_17 : decode cX12_sumOf 17 = .ok (.aload_n 0, 1) := by decide +kernel
theorem dX12_sumOf_18 : decode cX12_sumOf 18 = .ok (.getfield 13, 3) := by decide +kernel
theorem dX12_sumOf_21 : decode cX12_sumOf 21 = .ok (.sipush 492, 3) := by decide +kernel
theorem dX12_sumOf_24 : decode cX12_sumOf 24 = .ok (.iaload, 1) := by decide +kernel
theorem dX12_sumOf_25 : decode cX12_sumOf 25 = .ok (.if_icmp .ge 54, 3) := by decide +kernel
theorem dX12_sumOf_28 : decode cX12_sumOf 28 = .ok (.aload_n 0, 1) := by decide +kernel
theorem dX12_sumOf_29 : decode cX12_sumOf 29 = .ok (.getfield 13, 3) := by decide +kernel
theorem dX12_sumOf_32 : decode cX12_sumOf 32 = .ok (.sipush 493, 3) := by decide +kernel
theorem dX12_sumOf_35 : decode cX12_sumOf 35 = .ok (.iconst 4, 1) := by decide +kernel
theorem dX12_sumOf_36 : decode cX12_sumOf 36 = .ok (.iload 4, 2) := by decide +kernel
theorem dX12_sumOf_38 : decode cX12_sumOf 38 = .ok (.imul, 1) := by decide +kernel
theorem dX12_sumOf_39 : decode cX12_sumOf 39 = .ok (.iadd, 1) := by decide +kernel
theorem dX12_sumOf_40 : decode cX12_sumOf 40 = .ok (.iaload, 1) := by decide +kernel
theorem dX12_sumOf_41 : decode cX12_sumOf 41 = .ok (.iload_n 1, 1) := by decide +kernel
theorem dX12_sumOf_42 : decode cX12_sumOf 42 = .ok (.if_icmp .ne 31, 3) := by decide +kernel
theorem dX12_sumOf_45 : decode cX12_sumOf 45 = .ok (.aload_n 0, 1) := by decide +kernel
theorem dX12_sumOf_46 : decode cX12_sumOf 46 = .ok (.iload 4, 2) := by decide +kernel
theorem dX12_sumOf_48 : decode cX12_sumOf 48 = .ok (.iload_n 2, 1) := by decide +kernel
theorem dX12_sumOf_49 : decode cX12_sumOf 49 = .ok (.invokevirtual 305, 3) := by decide +kernel
theorem dX12_sumOf_52 : decode cX12_sumOf 52 = .ok (.ifCond .eq 21, 3) := by decide +kernel
theorem dX12_sumOf_55 : decode cX12_sumOf 55 = .ok (.iload_n 3, 1) := by decide +kernel
theorem dX12_sumOf_56 : decode cX12_sumOf 56 = .ok (.aload_n 0, 1) := by decide +kernel
theorem dX12_sumOf_57 : decode cX12_sumOf 57 = .ok (.getfield 13, 3) := by decide +kernel
theorem dX12_sumOf_60 : decode cX12_sumOf 60 = .ok (.sipush 493, 3) := by decide +kernel
theorem dX12_sumOf_63 : decode cX12_sumOf 63 = .ok (.iconst 4, 1) := by decide +kernel
theorem dX12_sumOf_64 : decode cX12_sumOf 64 = .ok (.iload 4, 2) := by decide +kernel
theorem dX12_sumOf_66 : decode cX12_sumOf 66 = .ok (.imul, 1) := by decide +kernel
theorem dX12_sumOf_67 : decode cX12_sumOf 67 = .ok (.iadd, 1) := by decide +kernel
theorem dX12_sumOf_68 : decode cX12_sumOf 68 = .ok (.iconst 1, 1) := by decide +kernel
theorem dX12_sumOf_69 : decode cX12_sumOf 69 = .ok (.iadd, 1) := by decide +kernel
theorem dX12_sumOf_70 : decode cX12_sumOf 70 = .ok (.iaload, 1) := by decide +kernel
theorem dX12_sumOf_71 : decode cX12_sumOf 71 = .ok (.iadd, 1) := by decide +kernel
theorem dX12_sumOf_72 : decode cX12_sumOf 72 = .ok (.istore_n 3, 1) := by decide +kernel
theorem dX12_sumOf_73 : decode cX12_sumOf 73 = .ok (.iinc 4 1, 3) := by decide +kernel
theorem dX12_sumOf_76 : decode cX12_sumOf 76 = .ok (.goto (-71), 3) := by decide +kernel
theorem dX12_sumOf_79 : decode cX12_sumOf 79 = .ok (.iload_n 3, 1) := by decide +kernel
theorem dX12_sumOf_80 : decode cX12_sumOf 80 = .ok (.ireturn, 1) := by decide +kernel
set_option maxRecDepth 100000 in
set_option maxHeartbeats 200000 in
theorem T_X12_sumOf_5_s {X : CX} (hX : Ok X cX12_sumOf 5 RX12 (some .int)) (hdx : dX X = 8) {r : Int32 × Hp} (x1 : Int32) (x2 : Int32) (q_5 : Int32 → Int32 → Hp → Option (Int32 × Hp)) (hq_5 : ∀ (x3 : Int32) (x4 : Int32) (h : Hp), q_5 x3 x4 h = some r → J X ((.inl (some (.int r.1)), r.2)) 5 [(0, .ref 30), (1, .int x1), (2, .int x2), (3, .int x3), (4, .int x4)] [] h) (x3 : Int32) (x4 : Int32) (h : Hp) (hf : S_X12_sumOf_5 x1 x2 q_5 x3 x4 h = some r) : J X ((.inl (some (.int r.1)), r.2)) 5 [(0, .ref 30), (1, .int x1), (2, .int x2), (3, .int x3), (4, .int x4)] [] h := by
  unfold S_X12_sumOf_5 at hf
  refine J_aload_n hX 0 dX12_sumOf_5 rfl rfl ?_
  refine J_getR hX 31 dX12_sumOf_6 fl_X12_13 ob_30 rfl rfl ?_
  refine J_iconst hX 3 dX12_sumOf_9 rfl ?_
  refine J_ald hX 3 dX12_sumOf_10 ar_31 (Or.inl ⟨rfl, rfl⟩) (by decide) (by decide) ?_
  refine J_iconst hX 1 dX12_sumOf_11 rfl ?_
  rcases ifE hf with ⟨c_1, hf⟩ | ⟨c_1, hf⟩
  · refine J_icmp_neF hX 79 dX12_sumOf_12 rfl c_1 ?_
    refine J_iload hX 4 dX12_sumOf_15 rfl ?_
    refine J_aload_n hX 0 dX12_sumOf_17 rfl rfl ?_
    refine J_getR hX 31 dX12_sumOf_18 fl_X12_13 ob_30 rfl rfl ?_
    refine J_sipush hX 492 dX12_sumOf_21 rfl ?_
    refine J_ald hX 492 dX12_sumOf_24 ar_31 (Or.inl ⟨rfl, rfl⟩) (by decide) (by decide) ?_
    rcases ifE hf with ⟨c_2, hf⟩ | ⟨c_2, hf⟩
    · refine J_icmp_geF hX 79 dX12_sumOf_25 rfl c_2 ?_
      refine J_aload_n hX 0 dX12_sumOf_28 rfl rfl ?_
      refine J_getR hX 31 dX12_sumOf_29 fl_X12_13 ob_30 rfl rfl ?_
      refine J_sipush hX 493 dX12_sumOf_32 rfl ?_
      refine J_iconst hX 4 dX12_sumOf_35 rfl ?_
      refine J_iload hX 4 dX12_sumOf_36 rfl ?_
      refine J_imul hX dX12_sumOf_38 ?_
      refine J_iadd hX dX12_sumOf_39 ?_
      obtain ⟨g_3, hf⟩ := gdE hf
      refine J_ald hX ((493 + (4 * x4)).toNatClampNeg) dX12_sumOf_40 ar_31 (Or.inl ⟨rfl, rfl⟩) g_3 rfl ?_
      refine J_iload_n hX 1 dX12_sumOf_41 rfl rfl ?_
      rcases ifE hf with ⟨c_4, hf⟩ | ⟨c_4, hf⟩
      · refine J_icmp_neF hX 73 dX12_sumOf_42 rfl c_4 ?_
        refine J_aload_n hX 0 dX12_sumOf_45 rfl rfl ?_
        refine J_iload hX 4 dX12_sumOf_46 rfl ?_
        refine J_iload_n hX 2 dX12_sumOf_48 rfl rfl ?_
        obtain ⟨r_5, e_6, hf⟩ := bdE hf
        refine V_1 hX [.int x4, .int x2] dX12_sumOf_49 cw_X12_305 ob_30 rfl (C_X12_holdsLine (okG hX) e_6) (ltD hdx rfl) rfl rfl rfl rfl ?_
        rcases ifE hf with ⟨c_7, hf⟩ | ⟨c_7, hf⟩
        · refine J_if_eqF hX 73 dX12_sumOf_52 rfl (b2iT c_7) ?_
          refine J_iload_n hX 3 dX12_sumOf_55 rfl rfl ?_
          refine J_aload_n hX 0 dX12_sumOf_56 rfl rfl ?_
          refine J_getR hX 31 dX12_sumOf_57 fl_X12_13 ob_30 rfl rfl ?_
          refine J_sipush hX 493 dX12_sumOf_60 rfl ?_
          refine J_iconst hX 4 dX12_sumOf_63 rfl ?_
          refine J_iload hX 4 dX12_sumOf_64 rfl ?_
          refine J_imul hX dX12_sumOf_66 ?_
          refine J_iadd hX dX12_sumOf_67 ?_
          refine J_iconst hX 1 dX12_sumOf_68 rfl ?_
          refine J_iadd hX dX12_sumOf_69 ?_
          obtain ⟨g_8, hf⟩ := gdE hf
          refine J_ald hX (((493 + (4 * x4)) + 1).toNatClampNeg) dX12_sumOf_70 ar_31 (Or.inl ⟨rfl, rfl⟩) g_8 rfl ?_
          refine J_iadd hX dX12_sumOf_71 ?_
          obtain ⟨x3_9, e_10, hf⟩ := bndE hf
          refine J_nm e_10 ?_
          refine J_istore_n hX [(3, .int x3_9), (0, .ref 30), (1, .int x1), (2, .int x2), (4, .int x4)] dX12_sumOf_72 rfl rfl rfl ?_
          refine J_iinc hX (x4 + 1) 4 [(4, .int (x4 + 1)), (3, .int x3_9), (0, .ref 30), (1, .int x1), (2, .int x2)] dX12_sumOf_73 rfl rfl rfl rfl ?_
          refine J_goto hX 5 dX12_sumOf_76 rfl ?_
          refine J_sub [2, 3, 4, 1, 0] [(0, .ref 30), (1, .int x1), (2, .int x2), (3, .int x3_9), (4, .int (x4 + 1))] rfl ?_
          exact hq_5 x3_9 (x4 + 1) r_5.2 hf
        · refine J_if_eqT hX 73 dX12_sumOf_52 rfl (b2iF c_7) ?_
          refine J_iinc hX (x4 + 1) 4 [(4, .int (x4 + 1)), (0, .ref 30), (1, .int x1), (2, .int x2), (3, .int x3)] dX12_sumOf_73 rfl rfl rfl rfl ?_
          refine J_goto hX 5 dX12_sumOf_76 rfl ?_
          refine J_sub [1, 2, 3, 4, 0] [(0, .ref 30), (1, .int x1), (2, .int x2), (3, .int x3), (4, .int (x4 + 1))] rfl ?_
          exact hq_5 x3 (x4 + 1) r_5.2 hf
      · refine J_icmp_neT hX 73 dX12_sumOf_42 rfl c_4 ?_
        refine J_iinc hX (x4 + 1) 4 [(4, .int (x4 + 1)), (0, .ref 30), (1, .int x1), (2, .int x2), (3, .int x3)] dX12_sumOf_73 rfl rfl rfl rfl ?_
        refine J_goto hX 5 dX12_sumOf_76 rfl ?_
        refine J_sub [1, 2, 3, 4, 0] [(0, .ref 30), (1, .int x1), (2, .int x2), (3, .int x3), (4, .int (x4 + 1))] rfl ?_
        exact hq_5 x3 (x4 + 1) h hf
    · refine J_icmp_geT hX 79 dX12_sumOf_25 rfl c_2 ?_
      refine J_iload_n hX 3 dX12_sumOf_79 rfl rfl ?_
      exact E_Ii hX dX12_sumOf_80 hf
  · refine J_icmp_neT hX 79 dX12_sumOf_12 rfl c_1 ?_
    refine J_iload_n hX 3 dX12_sumOf_79 rfl rfl ?_
    exact E_Ii hX dX12_sumOf_80 hf
set_option maxRecDepth 100000 in
set_option maxHeartbeats 200000 in
theorem T_X12_sumOf_5 {X : CX} (hX : Ok X cX12_sumOf 5 RX12 (some .int)) (hdx : dX X = 8) {r : Int32 × Hp} (x1 : Int32) (x2 : Int32) : ∀ (n : Nat) (x3 : Int32) (x4 : Int32) (h : Hp), F_X12_sumOf_5 x1 x2 n x3 x4 h = some r → J X ((.inl (some (.int r.1)), r.2)) 5 [(0, .ref 30), (1, .int x1), (2, .int x2), (3, .int x3), (4, .int x4)] [] h := by
  intro n
  induction n with
  | zero => intro x3 x4 h hf; exact nomatch hf
  | succ n ih => intro x3 x4 h hf; exact T_X12_sumOf_5_s hX hdx x1 x2 _ (fun x3 x4 h hf => ih x3 x4 h hf) x3 x4 h hf
set_option maxRecDepth 100000 in
set_option maxHeartbeats 200000 in
theorem T_X12_sumOf_0 {X : CX} (hX : Ok X cX12_sumOf 5 RX12 (some .int)) (hdx : dX X = 8) {r : Int32 × Hp} (x1 : Int32) (x2 : Int32) (h : Hp) (hf : f_X12_sumOf x1 x2 h = some r) : J X ((.inl (some (.int r.1)), r.2)) 0 [(0, .ref 30), (1, .int x1), (2, .int x2)] [] h := by
  unfold f_X12_sumOf at hf
  refine J_iconst hX 0 dX12_sumOf_0 rfl ?_
  refine J_istore_n hX [(3, .int 0), (0, .ref 30), (1, .int x1), (2, .int x2)] dX12_sumOf_1 rfl rfl rfl ?_
  refine J_iconst hX 0 dX12_sumOf_2 rfl ?_
  refine J_istore hX [(4, .int 0), (3, .int 0), (0, .ref 30), (1, .int x1), (2, .int x2)] dX12_sumOf_3 rfl rfl ?_
  refine J_sub [2, 3, 4, 1, 0] [(0, .ref 30), (1, .int x1), (2, .int x2), (3, .int 0), (4, .int 0)] rfl ?_
  exact T_X12_sumOf_5 hX hdx x1 x2 FU 0 0 h hf
set_option maxRecDepth 100000 in
set_option maxHeartbeats 200000 in
theorem C_X12_sumOf {G : GX} (hG : GOk G) {x1 : Int32} {x2 : Int32} {h : Hp} {r : Int32 × Hp} (hf : f_X12_sumOf x1 x2 h = some r) : Ctr G 8 yX12_sumOf cX12_sumOf 5 (some .int) [.ref 30, .int x1, .int x2] h ((.inl (some (.int r.1)), r.2)) :=
  Ctr_of hG RX12 rfl (by decide) rfl (fun X _ hdx hX => T_X12_sumOf_0 hX hdx x1 x2 h hf)
theorem dX12_standsBy_0 : decode cX12_standsBy 0 = .ok (.aload_n 0, 1) := by decide +kernel
theorem dX12_standsBy_1 : decode cX12_standsBy 1 = .ok (.iload_n 1, 1) := by decide +kernel
theorem dX12_standsBy_2 : decode cX12_standsBy 2 = .ok (.iconst 1, 1) := by decide +kernel
theorem dX12_standsBy_3 : decode cX12_standsBy 3 = .ok (.invokevirtual 84, 3) := by decide +kernel
theorem dX12_standsBy_6 : decode cX12_standsBy 6 = .ok (.aload_n 0, 1) := by decide +kernel
theorem dX12_standsBy_7 : decode cX12_standsBy 7 = .ok (.iload_n 1, 1) := by decide +kernel
theorem dX12_standsBy_8 : decode cX12_standsBy 8 = .ok (.iconst 2, 1) := by decide +kernel
theorem dX12_standsBy_9 : decode cX12_standsBy 9 = .ok (.invokevirtual 84, 3) := by decide +kernel
theorem dX12_standsBy_12 : decode cX12_standsBy 12 = .ok (.iadd, 1) := by decide +kernel
theorem dX12_standsBy_13 : decode cX12_standsBy 13 = .ok (.aload_n 0, 1) := by decide +kernel
theorem dX12_standsBy_14 : decode cX12_standsBy 14 = .ok (.iload_n 1, 1) := by decide +kernel
theorem dX12_standsBy_15 : decode cX12_standsBy 15 = .ok (.invokevirtual 308, 3) := by decide +kernel
theorem dX12_standsBy_18 : decode cX12_standsBy 18 = .ok (.iadd, 1) := by decide +kernel
theorem dX12_standsBy_19 : decode cX12_standsBy 19 = .ok (.aload_n 0, 1) := by decide +kernel
theorem dX12_standsBy_20 : decode cX12_standsBy 20 = .ok (.iconst 0, 1) := by decide +kernel
theorem dX12_standsBy_21 : decode cX12_standsBy 21 = .ok (.iload_n 1, 1) := by decide +kernel
theorem dX12_standsBy_22 : decode cX12_standsBy 22 = .ok (.invokevirtual 311, 3) := by decide +kernel
theorem dX12_standsBy_25 : decode cX12_standsBy 25 = .ok (.iadd, 1) := by decide +kernel
theorem dX12_standsBy_26 : decode cX12_standsBy 26 = .ok (.aload_n 0, 1) := by decide +kernel
theorem dX12_standsBy_27 : decode cX12_standsBy 27 = .ok (.iconst 1, 1) := by decide +kernel
theorem dX12_standsBy_28 : decode cX12_standsBy 28 = .ok (.iload_n 1, 1) := by decide +kernel
theorem dX12_standsBy_29 : decode cX12_standsBy 29 = .ok (.invokevirtual 311, 3) := by decide +kernel
theorem dX12_standsBy_32 : decode cX12_standsBy 32 = .ok (.isub, 1) := by decide +kernel
theorem dX12_standsBy_33 : decode cX12_standsBy 33 = .ok (.istore_n 2, 1) := by decide +kernel
theorem dX12_standsBy_34 : decode cX12_standsBy 34 = .ok (.iconst 0, 1) := by decide +kernel
theorem dX12_standsBy_35 : decode cX12_standsBy 35 = .ok (.iload_n 2, 1) := by decide +kernel
theorem dX12_standsBy_36 : decode cX12_standsBy 36 = .ok (.invokestatic 314, 3) := by decide +kernel
theorem dX12_standsBy_39 : decode cX12_standsBy 39 = .ok (.aload_n 0, 1) := by decide +kernel
theorem dX12_standsBy_40 : decode cX12_standsBy 40 = .ok (.getfield 319, 3) := by decide +kernel
theorem dX12_standsBy_43 : decode cX12_standsBy 43 = .ok (.iload_n 1, 1) := by decide +kernel
theorem dX12_standsBy_44 : decode cX12_standsBy 44 = .ok (.invokestatic 289, 3) := by decide +kernel
theorem dX12_standsBy_47 : decode cX12_standsBy 47 = .ok (.ifCond .eq 13, 3) := by decide +kernel
theorem dX12_standsBy_50 : decode cX12_standsBy 50 = .ok (.aload_n 0, 1) := by decide +kernel
theorem dX12_standsBy_51 : decode cX12_standsBy 51 = .ok (.getfield 13, 3) := by decide +kernel
theorem dX12_standsBy_54 : decode cX12_standsBy 54 = .ok (.bipush 7, 2) := by decide +kernel
theorem dX12_standsBy_56 : decode cX12_standsBy 56 = .ok (.iaload, 1) := by decide +kernel
theorem dX12_standsBy_57 : decode cX12_standsBy 57 = .ok (.goto 4, 3) := by decide +kernel
theorem dX12_standsBy_60 : decode cX12_standsBy 60 = .ok (.iconst 0, 1) := by decide +kernel
theorem dX12_standsBy_61 : decode cX12_standsBy 61 = .ok (.iadd, 1) := by decide +kernel
theorem dX12_standsBy_62 : decode cX12_standsBy 62 = .ok (.ireturn, 1) := by decide +kernel
set_option maxRecDepth 100000 in
set_option maxHeartbeats 200000 in
theorem T_X12_standsBy_61 {X : CX} (hX : Ok X cX12_standsBy 3 RX12 (some .int)) (hdx : dX X = 9) {r : Int32 × Hp} (t0 : Int32) (t1 : Int32) (h : Hp) (hf : F_X12_standsBy_61 t0 t1 h = some r) : J X ((.inl (some (.int r.1)), r.2)) 61 [] [.int t0, .int t1] h := by
  unfold F_X12_standsBy_61 at hf
  refine J_iadd hX dX12_standsBy_61 ?_
  exact E_Ii hX dX12_standsBy_62 hf
set_option maxRecDepth 100000 in
set_option maxHeartbeats 200000 in
theorem T_X12_standsBy_0 {X : CX} (hX : Ok X cX12_standsBy 3 RX12 (some .int)) (hdx : dX X = 9) {r : Int32 × Hp} (x1 : Int32) (h : Hp) (hf : f_X12_standsBy x1 h = some r) : J X ((.inl (some (.int r.1)), r.2)) 0 [(0, .ref 30), (1, .int x1)] [] h := by
  unfold f_X12_standsBy at hf
  refine J_aload_n hX 0 dX12_standsBy_0 rfl rfl ?_
  refine J_iload_n hX 1 dX12_standsBy_1 rfl rfl ?_
  refine J_iconst hX 1 dX12_standsBy_2 rfl ?_
  obtain ⟨r_1, e_2, hf⟩ := bdE hf
  refine V_1 hX [.int x1, .int 1] dX12_standsBy_3 cw_X12_84 ob_30 rfl (C_X12_of (okG hX) e_2) (ltD hdx rfl) rfl rfl rfl rfl ?_
  refine J_aload_n hX 0 dX12_standsBy_6 rfl rfl ?_
  refine J_iload_n hX 1 dX12_standsBy_7 rfl rfl ?_
  refine J_iconst hX 2 dX12_standsBy_8 rfl ?_
  obtain ⟨r_3, e_4, hf⟩ := bdE hf
  refine V_1 hX [.int x1, .int 2] dX12_standsBy_9 cw_X12_84 ob_30 rfl (C_X12_of (okG hX) e_4) (ltD hdx rfl) rfl rfl rfl rfl ?_
  refine J_iadd hX dX12_standsBy_12 ?_
  refine J_aload_n hX 0 dX12_standsBy_13 rfl rfl ?_
  refine J_iload_n hX 1 dX12_standsBy_14 rfl rfl ?_
  obtain ⟨r_5, e_6, hf⟩ := bdE hf
  refine V_1 hX [.int x1] dX12_standsBy_15 cw_X12_308 ob_30 rfl (C_X12_holdOf (okG hX) e_6) (ltD hdx rfl) rfl rfl rfl rfl ?_
  refine J_iadd hX dX12_standsBy_18 ?_
  refine J_aload_n hX 0 dX12_standsBy_19 rfl rfl ?_
  refine J_iconst hX 0 dX12_standsBy_20 rfl ?_
  refine J_iload_n hX 1 dX12_standsBy_21 rfl rfl ?_
  obtain ⟨r_7, e_8, hf⟩ := bdE hf
  refine V_1 hX [.int 0, .int x1] dX12_standsBy_22 cw_X12_311 ob_30 rfl (C_X12_sumOf (okG hX) e_8) (ltD hdx rfl) rfl rfl rfl rfl ?_
  refine J_iadd hX dX12_standsBy_25 ?_
  refine J_aload_n hX 0 dX12_standsBy_26 rfl rfl ?_
  refine J_iconst hX 1 dX12_standsBy_27 rfl ?_
  refine J_iload_n hX 1 dX12_standsBy_28 rfl rfl ?_
  obtain ⟨r_9, e_10, hf⟩ := bdE hf
  refine V_1 hX [.int 1, .int x1] dX12_standsBy_29 cw_X12_311 ob_30 rfl (C_X12_sumOf (okG hX) e_10) (ltD hdx rfl) rfl rfl rfl rfl ?_
  refine J_isub hX dX12_standsBy_32 ?_
  obtain ⟨x2_11, e_12, hf⟩ := bndE hf
  refine J_nm e_12 ?_
  refine J_istore_n hX [(2, .int x2_11), (0, .ref 30), (1, .int x1)] dX12_standsBy_33 rfl rfl rfl ?_
  refine J_iconst hX 0 dX12_standsBy_34 rfl ?_
  refine J_iload_n hX 0 dX12_standsBy_35 rfl rfl ?_
  refine J_max hX dX12_standsBy_36 mw_X12_314 (ltD hdx rfl) rfl ?_
  refine J_aload_n hX 1 dX12_standsBy_39 rfl rfl ?_
  refine J_getI hX dX12_standsBy_40 fl_X12_319 ob_30 rfl ?_
  refine J_iload_n hX 2 dX12_standsBy_43 rfl rfl ?_
  refine S_1 hX [.int (r_9.2 30 21), .int x1] dX12_standsBy_44 cw_X12_289 (C_X12_has (okG hX) rfl) (ltD hdx rfl) rfl rfl rfl rfl ?_
  rcases ifE hf with ⟨c_13, hf⟩ | ⟨c_13, hf⟩
  · refine J_if_eqF hX 60 dX12_standsBy_47 rfl (b2iT c_13) ?_
    refine J_aload_n hX 1 dX12_standsBy_50 rfl rfl ?_
    refine J_getR hX 31 dX12_standsBy_51 fl_X12_13 ob_30 rfl rfl ?_
    refine J_bipush hX 7 dX12_standsBy_54 rfl ?_
    refine J_ald hX 7 dX12_standsBy_56 ar_31 (Or.inl ⟨rfl, rfl⟩) (by decide) (by decide) ?_
    refine J_goto hX 61 dX12_standsBy_57 rfl ?_
    refine J_sub [] [] rfl ?_
    exact T_X12_standsBy_61 hX hdx (r_9.2 31 7) (imax 0 x2_11) r_9.2 hf
  · refine J_if_eqT hX 60 dX12_standsBy_47 rfl (b2iF c_13) ?_
    refine J_iconst hX 0 dX12_standsBy_60 rfl ?_
    refine J_sub [] [] rfl ?_
    exact T_X12_standsBy_61 hX hdx 0 (imax 0 x2_11) r_9.2 hf
set_option maxRecDepth 100000 in
set_option maxHeartbeats 200000 in
theorem C_X12_standsBy {G : GX} (hG : GOk G) {x1 : Int32} {h : Hp} {r : Int32 × Hp} (hf : f_X12_standsBy x1 h = some r) : Ctr G 9 yX12_standsBy cX12_standsBy 3 (some .int) [.ref 30, .int x1] h ((.inl (some (.int r.1)), r.2)) :=
  Ctr_of hG RX12 rfl (by decide) rfl (fun X _ hdx hX => T_X12_standsBy_0 hX hdx x1 h hf)
theorem dX12_sagsNow_0 : decode cX12_sagsNow 0 = .ok (.aload_n 0, 1) := by decide +kernel
theorem dX12_sagsNow_1 : decode cX12_sagsNow 1 = .ok (.iload_n 1, 1) := by decide +kernel
theorem dX12_sagsNow_2 : decode cX12_sagsNow 2 = .ok (.invokevirtual 322, 3) := by decide +kernel
theorem dX12_sagsNow_5 : decode cX12_sagsNow 5 = .ok (.aload_n 0, 1) := by decide +kernel
theorem dX12_sagsNow_6 : decode cX12_sagsNow 6 = .ok (.iload_n 1, 1) := by decide +kernel
theorem dX12_sagsNow_7 : decode cX12_sagsNow 7 = .ok (.invokevirtual 325, 3) := by decide +kernel
theorem dX12_sagsNow_10 : decode cX12_sagsNow 10 = .ok (.isub, 1) := by decide +kernel
theorem dX12_sagsNow_11 : decode cX12_sagsNow 11 = .ok (.ireturn, 1) := by decide +kernel
set_option maxRecDepth 100000 in
set_option maxHeartbeats 200000 in
theorem T_X12_sagsNow_0 {X : CX} (hX : Ok X cX12_sagsNow 2 RX12 (some .int)) (hdx : dX X = 10) {r : Int32 × Hp} (x1 : Int32) (h : Hp) (hf : f_X12_sagsNow x1 h = some r) : J X ((.inl (some (.int r.1)), r.2)) 0 [(0, .ref 30), (1, .int x1)] [] h := by
  unfold f_X12_sagsNow at hf
  refine J_aload_n hX 0 dX12_sagsNow_0 rfl rfl ?_
  refine J_iload_n hX 1 dX12_sagsNow_1 rfl rfl ?_
  obtain ⟨r_1, e_2, hf⟩ := bdE hf
  refine V_1 hX [.int x1] dX12_sagsNow_2 cw_X12_322 ob_30 rfl (C_X12_bearsNow (okG hX) e_2) (ltD hdx rfl) rfl rfl rfl rfl ?_
  refine J_aload_n hX 0 dX12_sagsNow_5 rfl rfl ?_
  refine J_iload_n hX 1 dX12_sagsNow_6 rfl rfl ?_
  obtain ⟨r_3, e_4, hf⟩ := bdE hf
  refine V_1 hX [.int x1] dX12_sagsNow_7 cw_X12_325 ob_30 rfl (C_X12_standsBy (okG hX) e_4) (ltD hdx rfl) rfl rfl rfl rfl ?_
  refine J_isub hX dX12_sagsNow_10 ?_
  exact E_Ii hX dX12_sagsNow_11 hf
set_option maxRecDepth 100000 in
set_option maxHeartbeats 200000 in
theorem C_X12_sagsNow {G : GX} (hG : GOk G) {x1 : Int32} {h : Hp} {r : Int32 × Hp} (hf : f_X12_sagsNow x1 h = some r) : Ctr G 10 yX12_sagsNow cX12_sagsNow 2 (some .int) [.ref 30, .int x1] h ((.inl (some (.int r.1)), r.2)) :=
  Ctr_of hG RX12 rfl (by decide) rfl (fun X _ hdx hX => T_X12_sagsNow_0 hX hdx x1 h hf)
theorem dX12_tells_0 : decode cX12_tells 0 = .ok (.sipush 359, 3) := by decide +kernel
theorem dX12_tells_3 : decode cX12_tells 3 = .ok (.istore 5, 2) := by decide +kernel
theorem dX12_tells_5 : decode cX12_tells 5 = .ok (.iload 5, 2) := by decide +kernel
theorem dX12_tells_7 : decode cX12_tells 7 = .ok (.bipush 6, 2) := by decide +kernel
theorem dX12_tells_9 : decode cX12_tells 9 = .ok (.if_icmp .lt 34, 3) := by decide +kernel
theorem dX12_tells_12 : decode cX12_tells 12 = .ok (.aload_n 0, 1) := by decide +kernel
theorem dX12_tells_13 : decode cX12_tells 13 = .ok (.getfield 13, 3) := by decide +kernel
theorem dX12_tells_16 : decode cX12_tells 16 = .ok (.sipush 132, 3) := by decide +kernel
theorem dX12_tells_19 : decode cX12_tells 19 = .ok (.iload 5, 2) := by decide +kernel
theorem dX12_tells_21 : decode cX12_tells 21 = .ok (.iadd, 1) := by decide +kernel
theorem dX12_tells_22 : decode cX12_tells 22 = .ok (.aload_n 0, 1) := by decide +kernel
theorem dX12_tells_23 : decode cX12_tells 23 = .ok (.getfield 13, 3) := by decide +kernel
theorem dX12_tells_26 : decode cX12_tells 26 = .ok (.sipush 132, 3) := by decide +kernel
theorem dX12_tells_29 : decode cX12_tells 29 = .ok (.iload 5, 2) := by decide +kernel
theorem dX12_tells_31 : decode cX12_tells 31 = .ok (.iadd, 1) := by decide +kernel
theorem dX12_tells_32 : decode cX12_tells 32 = .ok (.bipush 6, 2) := by decide +kernel
theorem dX12_tells_34 : decode cX12_tells 34 = .ok (.isub, 1) := by decide +kernel
theorem dX12_tells_35 : decode cX12_tells 35 = .ok (.iaload, 1) := by decide +kernel
theorem dX12_tells_36 : decode cX12_tells 36 = .ok (.iastore, 1) := by decide +kernel
theorem dX12_tells_37 : decode cX12_tells 37 = .ok (.iinc 5 (-1), 3) := by decide +kernel
theorem dX12_tells_40 : decode cX12_tells 40 = .ok (.goto (-35), 3) := by decide +kernel
theorem dX12_tells_43 : decode cX12_tells 43 = .ok (.aload_n 0, 1) := by decide +kernel
theorem dX12_tells_44 : decode cX12_tells 44 = .ok (.getfield 13, 3) := by decide +kernel
theorem dX12_tells_47 : decode cX12_tells 47 = .ok (.sipush 132, 3) := by decide +kernel
theorem dX12_tells_50 : decode cX12_tells 50 = .ok (.aload_n 0, 1) := by decide +kernel
theorem dX12_tells_51 : decode cX12_tells 51 = .ok (.getfield 13, 3) := by decide +kernel
theorem dX12_tells_54 : decode cX12_tells 54 = .ok (.iconst 5, 1) := by decide +kernel
theorem dX12_tells_55 : decode cX12_tells 55 = .ok (.iaload, 1) := by decide +kernel
theorem dX12_tells_56 : decode cX12_tells 56 = .ok (.iastore, 1) := by decide +kernel
theorem dX12_tells_57 : decode cX12_tells 57 = .ok (.aload_n 0, 1) := by decide +kernel
theorem dX12_tells_58 : decode cX12_tells 58 = .ok (.getfield 13, 3) := by decide +kernel
theorem dX12_tells_61 : decode cX12_tells 61 = .ok (.sipush 133, 3) := by decide +kernel
theorem dX12_tells_64 : decode cX12_tells 64 = .ok (.aload_n 0, 1) := by decide +kernel
theorem dX12_tells_65 : decode cX12_tells 65 = .ok (.getfield 13, 3) := by decide +kernel
theorem dX12_tells_68 : decode cX12_tells 68 = .ok (.iconst 4, 1) := by decide +kernel
theorem dX12_tells_69 : decode cX12_tells 69 = .ok (.iaload, 1) := by decide +kernel
theorem dX12_tells_70 : decode cX12_tells 70 = .ok (.iastore, 1) := by decide +kernel
theorem dX12_tells_71 : decode cX12_tells 71 = .ok (.aload_n 0, 1) := by decide +kernel
theorem dX12_tells_72 : decode cX12_tells 72 = .ok (.getfield 13, 3) := by decide +kernel
theorem dX12_tells_75 : decode cX12_tells 75 = .ok (.sipush 134, 3) := by decide +kernel
theorem dX12_tells_78 : decode cX12_tells 78 = .ok (.iload_n 1, 1) := by decide +kernel
theorem dX12_tells_79 : decode cX12_tells 79 = .ok (.iastore, 1) := by decide +kernel
theorem dX12_tells_80 : decode cX12_tells 80 = .ok (.aload_n 0, 1) := by decide +kernel
theorem dX12_tells_81 : decode cX12_tells 81 = .ok (.getfield 13, 3) := by decide +kernel
theorem dX12_tells_84 : decode cX12_tells 84 = .ok (.sipush 135, 3) := by decide +kernel
theorem dX12_tells_87 : decode cX12_tells 87 = .ok (.iload_n 2, 1) := by decide +kernel
theorem dX12_tells_88 : decode cX12_tells 88 = .ok (.iastore, 1) := by decide +kernel
theorem dX12_tells_89 : decode cX12_tells 89 = .ok (.aload_n 0, 1) := by decide +kernel
theorem dX12_tells_90 : decode cX12_tells 90 = .ok (.getfield 13, 3) := by decide +kernel
theorem dX12_tells_93 : decode cX12_tells 93 = .ok (.sipush 136, 3) := by decide +kernel
theorem dX12_tells_96 : decode cX12_tells 96 = .ok (.iload_n 3, 1) := by decide +kernel
theorem dX12_tells_97 : decode cX12_tells 97 = .ok (.iastore, 1) := by decide +kernel
theorem dX12_tells_98 : decode cX12_tells 98 = .ok (.aload_n 0, 1) := by decide +kernel
theorem dX12_tells_99 : decode cX12_tells 99 = .ok (.getfield 13, 3) := by decide +kernel
theorem dX12_tells_102 : decode cX12_tells 102 = .ok (.sipush 137, 3) := by decide +kernel
theorem dX12_tells_105 : decode cX12_tells 105 = .ok (.iload 4, 2) := by decide +kernel
theorem dX12_tells_107 : decode cX12_tells 107 = .ok (.iastore, 1) := by decide +kernel
theorem dX12_tells_108 : decode cX12_tells 108 = .ok (.aload_n 0, 1) := by decide +kernel
theorem dX12_tells_109 : decode cX12_tells 109 = .ok (.getfield 13, 3) := by decide +kernel
theorem dX12_tells_112 : decode cX12_tells 112 = .ok (.bipush 8, 2) := by decide +kernel
theorem dX12_tells_114 : decode cX12_tells 114 = .ok (.bipush 60, 2) := by decide +kernel
theorem dX12_tells_116 : decode cX12_tells 116 = .ok (.aload_n 0, 1) := by decide +kernel
theorem dX12_tells_117 : decode cX12_tells 117 = .ok (.getfield 13, 3) := by decide +kernel
theorem dX12_tells_120 : decode cX12_tells 120 = .ok (.bipush 8, 2) := by decide +kernel
theorem dX12_tells_122 : decode cX12_tells 122 = .ok (.iaload, 1) := by decide +kernel
theorem dX12_tells_123 : decode cX12_tells 123 = .ok (.iconst 1, 1) := by decide +kernel
theorem dX12_tells_124 : decode cX12_tells 124 = .ok (.iadd, 1) := by decide +kernel
theorem dX12_tells_125 : decode cX12_tells 125 = .ok (.invokestatic 328, 3) := by decide +kernel
theorem dX12_tells_128 : decode cX12_tells 128 = .ok (.iastore, 1) := by decide +kernel
theorem dX12_tells_129 : decode cX12_tells 129 = .ok (.return_, 1) := by decide +kernel
set_option maxRecDepth 100000 in
set_option maxHeartbeats 200000 in
theorem T_X12_tells_5_s {X : CX} (hX : Ok X cX12_tells 6 RX12 none) (hdx : dX X = 2) {r : Hp} (x1 : Int32) (x2 : Int32) (x3 : Int32) (x4 : Int32) (q_5 : Int32 → Hp → Option Hp) (hq_5 : ∀ (x5 : Int32) (h : Hp), q_5 x5 h = some r → J X ((.inl none, r)) 5 [(0, .ref 30), (1, .int x1), (2, .int x2), (3, .int x3), (4, .int x4), (5, .int x5)] [] h) (x5 : Int32) (h : Hp) (hf : S_X12_tells_5 x1 x2 x3 x4 q_5 x5 h = some r) : J X ((.inl none, r)) 5 [(0, .ref 30), (1, .int x1), (2, .int x2), (3, .int x3), (4, .int x4), (5, .int x5)] [] h := by
  unfold S_X12_tells_5 at hf
  refine J_iload hX 5 dX12_tells_5 rfl ?_
  refine J_bipush hX 6 dX12_tells_7 rfl ?_
  rcases ifE hf with ⟨c_1, hf⟩ | ⟨c_1, hf⟩
  · refine J_icmp_ltT hX 43 dX12_tells_9 rfl c_1 ?_
    refine J_aload_n hX 0 dX12_tells_43 rfl rfl ?_
    refine J_getR hX 31 dX12_tells_44 fl_X12_13 ob_30 rfl rfl ?_
    refine J_sipush hX 132 dX12_tells_47 rfl ?_
    refine J_aload_n hX 0 dX12_tells_50 rfl rfl ?_
    refine J_getR hX 31 dX12_tells_51 fl_X12_13 ob_30 rfl rfl ?_
    refine J_iconst hX 5 dX12_tells_54 rfl ?_
    refine J_ald hX 5 dX12_tells_55 ar_31 (Or.inl ⟨rfl, rfl⟩) (by decide) (by decide) ?_
    obtain ⟨h_2, e_3, hf⟩ := bndE hf
    refine J_ast hX 132 (h 31 5) dX12_tells_56 ar_31 (Or.inl ⟨rfl, rfl, rfl⟩) (by decide) (by decide) ?_
    refine J_nmh e_3 ?_
    refine J_aload_n hX 0 dX12_tells_57 rfl rfl ?_
    refine J_getR hX 31 dX12_tells_58 fl_X12_13 ob_30 rfl rfl ?_
    refine J_sipush hX 133 dX12_tells_61 rfl ?_
    refine J_aload_n hX 0 dX12_tells_64 rfl rfl ?_
    refine J_getR hX 31 dX12_tells_65 fl_X12_13 ob_30 rfl rfl ?_
    refine J_iconst hX 4 dX12_tells_68 rfl ?_
    refine J_ald hX 4 dX12_tells_69 ar_31 (Or.inl ⟨rfl, rfl⟩) (by decide) (by decide) ?_
    obtain ⟨h_4, e_5, hf⟩ := bndE hf
    refine J_ast hX 133 (h_2 31 4) dX12_tells_70 ar_31 (Or.inl ⟨rfl, rfl, rfl⟩) (by decide) (by decide) ?_
    refine J_nmh e_5 ?_
    refine J_aload_n hX 0 dX12_tells_71 rfl rfl ?_
    refine J_getR hX 31 dX12_tells_72 fl_X12_13 ob_30 rfl rfl ?_
    refine J_sipush hX 134 dX12_tells_75 rfl ?_
    refine J_iload_n hX 1 dX12_tells_78 rfl rfl ?_
    obtain ⟨h_6, e_7, hf⟩ := bndE hf
    refine J_ast hX 134 x1 dX12_tells_79 ar_31 (Or.inl ⟨rfl, rfl, rfl⟩) (by decide) (by decide) ?_
    refine J_nmh e_7 ?_
    refine J_aload_n hX 0 dX12_tells_80 rfl rfl ?_
    refine J_getR hX 31 dX12_tells_81 fl_X12_13 ob_30 rfl rfl ?_
    refine J_sipush hX 135 dX12_tells_84 rfl ?_
    refine J_iload_n hX 2 dX12_tells_87 rfl rfl ?_
    obtain ⟨h_8, e_9, hf⟩ := bndE hf
    refine J_ast hX 135 x2 dX12_tells_88 ar_31 (Or.inl ⟨rfl, rfl, rfl⟩) (by decide) (by decide) ?_
    refine J_nmh e_9 ?_
    refine J_aload_n hX 0 dX12_tells_89 rfl rfl ?_
    refine J_getR hX 31 dX12_tells_90 fl_X12_13 ob_30 rfl rfl ?_
    refine J_sipush hX 136 dX12_tells_93 rfl ?_
    refine J_iload_n hX 3 dX12_tells_96 rfl rfl ?_
    obtain ⟨h_10, e_11, hf⟩ := bndE hf
    refine J_ast hX 136 x3 dX12_tells_97 ar_31 (Or.inl ⟨rfl, rfl, rfl⟩) (by decide) (by decide) ?_
    refine J_nmh e_11 ?_
    refine J_aload_n hX 0 dX12_tells_98 rfl rfl ?_
    refine J_getR hX 31 dX12_tells_99 fl_X12_13 ob_30 rfl rfl ?_
    refine J_sipush hX 137 dX12_tells_102 rfl ?_
    refine J_iload hX 4 dX12_tells_105 rfl ?_
    obtain ⟨h_12, e_13, hf⟩ := bndE hf
    refine J_ast hX 137 x4 dX12_tells_107 ar_31 (Or.inl ⟨rfl, rfl, rfl⟩) (by decide) (by decide) ?_
    refine J_nmh e_13 ?_
    refine J_aload_n hX 0 dX12_tells_108 rfl rfl ?_
    refine J_getR hX 31 dX12_tells_109 fl_X12_13 ob_30 rfl rfl ?_
    refine J_bipush hX 8 dX12_tells_112 rfl ?_
    refine J_bipush hX 60 dX12_tells_114 rfl ?_
    refine J_aload_n hX 0 dX12_tells_116 rfl rfl ?_
    refine J_getR hX 31 dX12_tells_117 fl_X12_13 ob_30 rfl rfl ?_
    refine J_bipush hX 8 dX12_tells_120 rfl ?_
    refine J_ald hX 8 dX12_tells_122 ar_31 (Or.inl ⟨rfl, rfl⟩) (by decide) (by decide) ?_
    refine J_iconst hX 1 dX12_tells_123 rfl ?_
    refine J_iadd hX dX12_tells_124 ?_
    refine J_min hX dX12_tells_125 mw_X12_328 (ltD hdx rfl) rfl ?_
    obtain ⟨h_14, e_15, hf⟩ := bndE hf
    refine J_ast hX 8 (imin 60 ((h_12 31 8) + 1)) dX12_tells_128 ar_31 (Or.inl ⟨rfl, rfl, rfl⟩) (by decide) (by decide) ?_
    refine J_nmh e_15 ?_
    exact E_Vi hX dX12_tells_129 hf
  · refine J_icmp_ltF hX 43 dX12_tells_9 rfl c_1 ?_
    refine J_aload_n hX 0 dX12_tells_12 rfl rfl ?_
    refine J_getR hX 31 dX12_tells_13 fl_X12_13 ob_30 rfl rfl ?_
    refine J_sipush hX 132 dX12_tells_16 rfl ?_
    refine J_iload hX 5 dX12_tells_19 rfl ?_
    refine J_iadd hX dX12_tells_21 ?_
    refine J_aload_n hX 0 dX12_tells_22 rfl rfl ?_
    refine J_getR hX 31 dX12_tells_23 fl_X12_13 ob_30 rfl rfl ?_
    refine J_sipush hX 132 dX12_tells_26 rfl ?_
    refine J_iload hX 5 dX12_tells_29 rfl ?_
    refine J_iadd hX dX12_tells_31 ?_
    refine J_bipush hX 6 dX12_tells_32 rfl ?_
    refine J_isub hX dX12_tells_34 ?_
    obtain ⟨g_16, hf⟩ := gdE hf
    refine J_ald hX (((132 + x5) - 6).toNatClampNeg) dX12_tells_35 ar_31 (Or.inl ⟨rfl, rfl⟩) g_16 rfl ?_
    obtain ⟨g_17, hf⟩ := gdE hf
    obtain ⟨h_18, e_19, hf⟩ := bndE hf
    refine J_ast hX ((132 + x5).toNatClampNeg) (h 31 (((132 + x5) - 6).toNatClampNeg)) dX12_tells_36 ar_31 (Or.inl ⟨rfl, rfl, rfl⟩) g_17 rfl ?_
    refine J_nmh e_19 ?_
    refine J_iinc hX (x5 + (-1)) 5 [(5, .int (x5 + (-1))), (0, .ref 30), (1, .int x1), (2, .int x2), (3, .int x3), (4, .int x4)] dX12_tells_37 rfl rfl rfl rfl ?_
    refine J_goto hX 5 dX12_tells_40 rfl ?_
    refine J_sub [1, 2, 3, 4, 5, 0] [(0, .ref 30), (1, .int x1), (2, .int x2), (3, .int x3), (4, .int x4), (5, .int (x5 + (-1)))] rfl ?_
    exact hq_5 (x5 + (-1)) h_18 hf
set_option maxRecDepth 100000 in
set_option maxHeartbeats 200000 in
theorem T_X12_tells_5 {X : CX} (hX : Ok X cX12_tells 6 RX12 none) (hdx : dX X = 2) {r : Hp} (x1 : Int32) (x2 : Int32) (x3 : Int32) (x4 : Int32) : ∀ (n : Nat) (x5 : Int32) (h : Hp), F_X12_tells_5 x1 x2 x3 x4 n x5 h = some r → J X ((.inl none, r)) 5 [(0, .ref 30), (1, .int x1), (2, .int x2), (3, .int x3), (4, .int x4), (5, .int x5)] [] h := by
  intro n
  induction n with
  | zero => intro x5 h hf; exact nomatch hf
  | succ n ih => intro x5 h hf; exact T_X12_tells_5_s hX hdx x1 x2 x3 x4 _ (fun x5 h hf => ih x5 h hf) x5 h hf
set_option maxRecDepth 100000 in
set_option maxHeartbeats 200000 in
theorem T_X12_tells_0 {X : CX} (hX : Ok X cX12_tells 6 RX12 none) (hdx : dX X = 2) {r : Hp} (x1 : Int32) (x2 : Int32) (x3 : Int32) (x4 : Int32) (h : Hp) (hf : f_X12_tells x1 x2 x3 x4 h = some r) : J X ((.inl none, r)) 0 [(0, .ref 30), (1, .int x1), (2, .int x2), (3, .int x3), (4, .int x4)] [] h := by
  unfold f_X12_tells at hf
  refine J_sipush hX 359 dX12_tells_0 rfl ?_
  refine J_istore hX [(5, .int 359), (0, .ref 30), (1, .int x1), (2, .int x2), (3, .int x3), (4, .int x4)] dX12_tells_3 rfl rfl ?_
  refine J_sub [1, 2, 3, 4, 5, 0] [(0, .ref 30), (1, .int x1), (2, .int x2), (3, .int x3), (4, .int x4), (5, .int 359)] rfl ?_
  exact T_X12_tells_5 hX hdx x1 x2 x3 x4 FU 359 h hf
set_option maxRecDepth 100000 in
set_option maxHeartbeats 200000 in
theorem C_X12_tells {G : GX} (hG : GOk G) {x1 : Int32} {x2 : Int32} {x3 : Int32} {x4 : Int32} {h : Hp} {r : Hp} (hf : f_X12_tells x1 x2 x3 x4 h = some r) : Ctr G 2 yX12_tells cX12_tells 6 none [.ref 30, .int x1, .int x2, .int x3, .int x4] h ((.inl none, r)) :=
  Ctr_of hG RX12 rfl (by decide) rfl (fun X _ hdx hX => T_X12_tells_0 hX hdx x1 x2 x3 x4 h hf)
theorem dX12_isGone_0 : decode cX12_isGone 0 = .ok (.aload_n 0, 1) := by decide +kernel
theorem dX12_isGone_1 : decode cX12_isGone 1 = .ok (.getfield 13, 3) := by decide +kernel
theorem dX12_isGone_4 : decode cX12_isGone 4 = .ok (.iload_n 1, 1) := by decide +kernel
theorem dX12_isGone_5 : decode cX12_isGone 5 = .ok (.iconst 4, 1) := by decide +kernel
theorem dX12_isGone_6 : decode cX12_isGone 6 = .ok (.invokestatic 74, 3) := by decide +kernel
theorem dX12_isGone_9 : decode cX12_isGone 9 = .ok (.iconst 1, 1) := by decide +kernel
theorem dX12_isGone_10 : decode cX12_isGone 10 = .ok (.iastore, 1) := by decide +kernel
theorem dX12_isGone_11 : decode cX12_isGone 11 = .ok (.iconst 0, 1) := by decide +kernel
theorem dX12_isGone_12 : decode cX12_isGone 12 = .ok (.istore_n 2, 1) := by decide +kernel
theorem dX12_isGone_13 : decode cX12_isGone 13 = .ok (.iload_n 2, 1) := by decide +kernel
theorem dX12_isGone_14 : decode cX12_isGone 14 = .ok (.bipush 8, 2) := by decide +kernel
theorem dX12_isGone_16 : decode cX12_isGone 16 = .ok (.if_icmp .ge 31, 3) := by decide +kernel
theorem dX12_isGone_19 : decode cX12_isGone 19 = .ok (.aload_n 0, 1) := by decide +kernel
theorem dX12_isGone_20 : decode cX12_isGone 20 = .ok (.getfield 13, 3) := by decide +kernel
theorem dX12_isGone_23 : decode cX12_isGone 23 = .ok (.iload_n 1, 1) := by decide +kernel
theorem dX12_isGone_24 : decode cX12_isGone 24 = .ok (.iload_n 2, 1) := by decide +kernel
theorem dX12_isGone_25 : decode cX12_isGone 25 = .ok (.invokestatic 78, 3) := by decide +kernel
theorem dX12_isGone_28 : decode cX12_isGone 28 = .ok (.iconst 0, 1) := by decide +kernel
theorem dX12_isGone_29 : decode cX12_isGone 29 = .ok (.iastore, 1) := by decide +kernel
theorem dX12_isGone_30 : decode cX12_isGone 30 = .ok (.aload_n 0, 1) := by decide +kernel
theorem dX12_isGone_31 : decode cX12_isGone 31 = .ok (.getfield 13, 3) := by decide +kernel
theorem dX12_isGone_34 : decode cX12_isGone 34 = .ok (.iload_n 2, 1) := by decide +kernel
theorem dX12_isGone_35 : decode cX12_isGone 35 = .ok (.iload_n 1, 1) := by decide +kernel
theorem dX12_isGone_36 : decode cX12_isGone 36 = .ok (.invokestatic 78, 3) := by decide +kernel
theorem dX12_isGone_39 : decode cX12_isGone 39 = .ok (.iconst 0, 1) := by decide +kernel
theorem dX12_isGone_40 : decode cX12_isGone 40 = .ok (.iastore, 1) := by decide +kernel
theorem dX12_isGone_41 : decode cX12_isGone 41 = .ok (.iinc 2 1, 3) := by decide +kernel
theorem dX12_isGone_44 : decode cX12_isGone 44 = .ok (.goto (-31), 3) := by decide +kernel
theorem dX12_isGone_47 : decode cX12_isGone 47 = .ok (.iconst 0, 1) := by decide +kernel
theorem dX12_isGone_48 : decode cX12_isGone 48 = .ok (.istore_n 2, 1) := by decide +kernel
theorem dX12_isGone_49 : decode cX12_isGone 49 = .ok (.iload_n 2, 1) := by decide +kernel
theorem dX12_isGone_50 : decode cX12_isGone 50 = .ok (.aload_n 0, 1) := by decide +kernel
theorem dX12_isGone_51 : decode cX12_isGone 51 = .ok (.invokevirtual 99, 3) := by decide +kernel
theorem dX12_isGone_54 : decode cX12_isGone 54 = .ok (.if_icmp .ge 30, 3) := by decide +kernel
theorem dX12_isGone_57 : decode cX12_isGone 57 = .ok (.aload_n 0, 1) := by decide +kernel
theorem dX12_isGone_58 : decode cX12_isGone 58 = .ok (.iload_n 2, 1) := by decide +kernel
theorem dX12_isGone_59 : decode cX12_isGone 59 = .ok (.iconst 0, 1) := by decide +kernel
theorem dX12_isGone_60 : decode cX12_isGone 60 = .ok (.invokevirtual 283, 3) := by decide +kernel
theorem dX12_isGone_63 : decode cX12_isGone 63 = .ok (.iload_n 1, 1) := by decide +kernel
theorem dX12_isGone_64 : decode cX12_isGone 64 = .ok (.if_icmp .ne 14, 3) := by decide +kernel
theorem dX12_isGone_67 : decode cX12_isGone 67 = .ok (.aload_n 0, 1) := by decide +kernel
theorem dX12_isGone_68 : decode cX12_isGone 68 = .ok (.getfield 13, 3) := by decide +kernel
theorem dX12_isGone_71 : decode cX12_isGone 71 = .ok (.iload_n 2, 1) := by decide +kernel
theorem dX12_isGone_72 : decode cX12_isGone 72 = .ok (.iconst 0, 1) := by decide +kernel
theorem dX12_isGone_73 : decode cX12_isGone 73 = .ok (.invokestatic 81, 3) := by decide +kernel
theorem dX12_isGone_76 : decode cX12_isGone 76 = .ok (.iconst (-1), 1) := by decide +kernel
theorem dX12_isGone_77 : decode cX12_isGone 77 = .ok (.iastore, 1) := by decide +kernel
theorem dX12_isGone_78 : decode cX12_isGone 78 = .ok (.iinc 2 1, 3) := by decide +kernel
theorem dX12_isGone_81 : decode cX12_isGone 81 = .ok (.goto (-32), 3) := by decide +kernel
theorem dX12_isGone_84 : decode cX12_isGone 84 = .ok (.return_, 1) := by decide +kernel
set_option maxRecDepth 100000 in
set_option maxHeartbeats 200000 in
theorem T_X12_isGone_49_s {X : CX} (hX : Ok X cX12_isGone 3 RX12 none) (hdx : dX X = 4) {r : Hp} (x1 : Int32) (q_49 : Int32 → Hp → Option Hp) (hq_49 : ∀ (x2 : Int32) (h : Hp), q_49 x2 h = some r → J X ((.inl none, r)) 49 [(0, .ref 30), (1, .int x1), (2, .int x2)] [] h) (x2 : Int32) (h : Hp) (hf : S_X12_isGone_49 x1 q_49 x2 h = some r) : J X ((.inl none, r)) 49 [(0, .ref 30), (1, .int x1), (2, .int x2)] [] h := by
  unfold S_X12_isGone_49 at hf
  refine J_iload_n hX 2 dX12_isGone_49 rfl rfl ?_
  refine J_aload_n hX 0 dX12_isGone_50 rfl rfl ?_
  refine V_1 hX [] dX12_isGone_51 cw_X12_99 ob_30 rfl (C_X12_people (okG hX) rfl) (ltD hdx rfl) rfl rfl rfl rfl ?_
  rcases ifE hf with ⟨c_1, hf⟩ | ⟨c_1, hf⟩
  · refine J_icmp_geF hX 84 dX12_isGone_54 rfl c_1 ?_
    refine J_aload_n hX 0 dX12_isGone_57 rfl rfl ?_
    refine J_iload_n hX 2 dX12_isGone_58 rfl rfl ?_
    refine J_iconst hX 0 dX12_isGone_59 rfl ?_
    obtain ⟨r_2, e_3, hf⟩ := bdE hf
    refine V_1 hX [.int x2, .int 0] dX12_isGone_60 cw_X12_283 ob_30 rfl (C_X12_ofPerson (okG hX) e_3) (ltD hdx rfl) rfl rfl rfl rfl ?_
    refine J_iload_n hX 1 dX12_isGone_63 rfl rfl ?_
    rcases ifE hf with ⟨c_4, hf⟩ | ⟨c_4, hf⟩
    · refine J_icmp_neF hX 78 dX12_isGone_64 rfl c_4 ?_
      refine J_aload_n hX 0 dX12_isGone_67 rfl rfl ?_
      refine J_getR hX 31 dX12_isGone_68 fl_X12_13 ob_30 rfl rfl ?_
      refine J_iload_n hX 2 dX12_isGone_71 rfl rfl ?_
      refine J_iconst hX 0 dX12_isGone_72 rfl ?_
      refine S_1 hX [.int x2, .int 0] dX12_isGone_73 cw_X12_81 (C_X12_personAt (okG hX) rfl) (ltD hdx rfl) rfl rfl rfl rfl ?_
      refine J_iconst hX (-1) dX12_isGone_76 rfl ?_
      obtain ⟨g_5, hf⟩ := gdE hf
      obtain ⟨h_6, e_7, hf⟩ := bndE hf
      refine J_ast hX ((f_X12_personAt x2 0 h).toNatClampNeg) (-1) dX12_isGone_77 ar_31 (Or.inl ⟨rfl, rfl, rfl⟩) g_5 rfl ?_
      refine J_nmh e_7 ?_
      refine J_iinc hX (x2 + 1) 2 [(2, .int (x2 + 1)), (0, .ref 30), (1, .int x1)] dX12_isGone_78 rfl rfl rfl rfl ?_
      refine J_goto hX 49 dX12_isGone_81 rfl ?_
      refine J_sub [1, 2, 0] [(0, .ref 30), (1, .int x1), (2, .int (x2 + 1))] rfl ?_
      exact hq_49 (x2 + 1) h_6 hf
    · refine J_icmp_neT hX 78 dX12_isGone_64 rfl c_4 ?_
      refine J_iinc hX (x2 + 1) 2 [(2, .int (x2 + 1)), (0, .ref 30), (1, .int x1)] dX12_isGone_78 rfl rfl rfl rfl ?_
      refine J_goto hX 49 dX12_isGone_81 rfl ?_
      refine J_sub [1, 2, 0] [(0, .ref 30), (1, .int x1), (2, .int (x2 + 1))] rfl ?_
      exact hq_49 (x2 + 1) h hf
  · refine J_icmp_geT hX 84 dX12_isGone_54 rfl c_1 ?_
    exact E_Vi hX dX12_isGone_84 hf
set_option maxRecDepth 100000 in
set_option maxHeartbeats 200000 in
theorem T_X12_isGone_49 {X : CX} (hX : Ok X cX12_isGone 3 RX12 none) (hdx : dX X = 4) {r : Hp} (x1 : Int32) : ∀ (n : Nat) (x2 : Int32) (h : Hp), F_X12_isGone_49 x1 n x2 h = some r → J X ((.inl none, r)) 49 [(0, .ref 30), (1, .int x1), (2, .int x2)] [] h := by
  intro n
  induction n with
  | zero => intro x2 h hf; exact nomatch hf
  | succ n ih => intro x2 h hf; exact T_X12_isGone_49_s hX hdx x1 _ (fun x2 h hf => ih x2 h hf) x2 h hf
set_option maxRecDepth 100000 in
set_option maxHeartbeats 200000 in
theorem T_X12_isGone_13_s {X : CX} (hX : Ok X cX12_isGone 3 RX12 none) (hdx : dX X = 4) {r : Hp} (x1 : Int32) (q_13 : Int32 → Hp → Option Hp) (hq_13 : ∀ (x2 : Int32) (h : Hp), q_13 x2 h = some r → J X ((.inl none, r)) 13 [(0, .ref 30), (1, .int x1), (2, .int x2)] [] h) (x2 : Int32) (h : Hp) (hf : S_X12_isGone_13 x1 q_13 x2 h = some r) : J X ((.inl none, r)) 13 [(0, .ref 30), (1, .int x1), (2, .int x2)] [] h := by
  unfold S_X12_isGone_13 at hf
  refine J_iload_n hX 2 dX12_isGone_13 rfl rfl ?_
  refine J_bipush hX 8 dX12_isGone_14 rfl ?_
  rcases ifE hf with ⟨c_1, hf⟩ | ⟨c_1, hf⟩
  · refine J_icmp_geF hX 47 dX12_isGone_16 rfl c_1 ?_
    refine J_aload_n hX 0 dX12_isGone_19 rfl rfl ?_
    refine J_getR hX 31 dX12_isGone_20 fl_X12_13 ob_30 rfl rfl ?_
    refine J_iload_n hX 1 dX12_isGone_23 rfl rfl ?_
    refine J_iload_n hX 2 dX12_isGone_24 rfl rfl ?_
    refine S_1 hX [.int x1, .int x2] dX12_isGone_25 cw_X12_78 (C_X12_partAt (okG hX) rfl) (ltD hdx rfl) rfl rfl rfl rfl ?_
    refine J_iconst hX 0 dX12_isGone_28 rfl ?_
    obtain ⟨g_2, hf⟩ := gdE hf
    obtain ⟨h_3, e_4, hf⟩ := bndE hf
    refine J_ast hX ((f_X12_partAt x1 x2 h).toNatClampNeg) 0 dX12_isGone_29 ar_31 (Or.inl ⟨rfl, rfl, rfl⟩) g_2 rfl ?_
    refine J_nmh e_4 ?_
    refine J_aload_n hX 0 dX12_isGone_30 rfl rfl ?_
    refine J_getR hX 31 dX12_isGone_31 fl_X12_13 ob_30 rfl rfl ?_
    refine J_iload_n hX 2 dX12_isGone_34 rfl rfl ?_
    refine J_iload_n hX 1 dX12_isGone_35 rfl rfl ?_
    refine S_1 hX [.int x2, .int x1] dX12_isGone_36 cw_X12_78 (C_X12_partAt (okG hX) rfl) (ltD hdx rfl) rfl rfl rfl rfl ?_
    refine J_iconst hX 0 dX12_isGone_39 rfl ?_
    obtain ⟨g_5, hf⟩ := gdE hf
    obtain ⟨h_6, e_7, hf⟩ := bndE hf
    refine J_ast hX ((f_X12_partAt x2 x1 h_3).toNatClampNeg) 0 dX12_isGone_40 ar_31 (Or.inl ⟨rfl, rfl, rfl⟩) g_5 rfl ?_
    refine J_nmh e_7 ?_
    refine J_iinc hX (x2 + 1) 2 [(2, .int (x2 + 1)), (0, .ref 30), (1, .int x1)] dX12_isGone_41 rfl rfl rfl rfl ?_
    refine J_goto hX 13 dX12_isGone_44 rfl ?_
    refine J_sub [1, 2, 0] [(0, .ref 30), (1, .int x1), (2, .int (x2 + 1))] rfl ?_
    exact hq_13 (x2 + 1) h_6 hf
  · refine J_icmp_geT hX 47 dX12_isGone_16 rfl c_1 ?_
    refine J_iconst hX 0 dX12_isGone_47 rfl ?_
    refine J_istore_n hX [(2, .int 0), (0, .ref 30), (1, .int x1)] dX12_isGone_48 rfl rfl rfl ?_
    refine J_sub [1, 2, 0] [(0, .ref 30), (1, .int x1), (2, .int 0)] rfl ?_
    exact T_X12_isGone_49 hX hdx x1 FU 0 h hf
set_option maxRecDepth 100000 in
set_option maxHeartbeats 200000 in
theorem T_X12_isGone_13 {X : CX} (hX : Ok X cX12_isGone 3 RX12 none) (hdx : dX X = 4) {r : Hp} (x1 : Int32) : ∀ (n : Nat) (x2 : Int32) (h : Hp), F_X12_isGone_13 x1 n x2 h = some r → J X ((.inl none, r)) 13 [(0, .ref 30), (1, .int x1), (2, .int x2)] [] h := by
  intro n
  induction n with
  | zero => intro x2 h hf; exact nomatch hf
  | succ n ih => intro x2 h hf; exact T_X12_isGone_13_s hX hdx x1 _ (fun x2 h hf => ih x2 h hf) x2 h hf
set_option maxRecDepth 100000 in
set_option maxHeartbeats 200000 in
theorem T_X12_isGone_0 {X : CX} (hX : Ok X cX12_isGone 3 RX12 none) (hdx : dX X = 4) {r : Hp} (x1 : Int32) (h : Hp) (hf : f_X12_isGone x1 h = some r) : J X ((.inl none, r)) 0 [(0, .ref 30), (1, .int x1)] [] h := by
  unfold f_X12_isGone at hf
  refine J_aload_n hX 0 dX12_isGone_0 rfl rfl ?_
  refine J_getR hX 31 dX12_isGone_1 fl_X12_13 ob_30 rfl rfl ?_
  refine J_iload_n hX 1 dX12_isGone_4 rfl rfl ?_
  refine J_iconst hX 4 dX12_isGone_5 rfl ?_
  refine S_1 hX [.int x1, .int 4] dX12_isGone_6 cw_X12_74 (C_X12_at (okG hX) rfl) (ltD hdx rfl) rfl rfl rfl rfl ?_
  refine J_iconst hX 1 dX12_isGone_9 rfl ?_
  obtain ⟨g_1, hf⟩ := gdE hf
  obtain ⟨h_2, e_3, hf⟩ := bndE hf
  refine J_ast hX ((f_X12_at x1 4 h).toNatClampNeg) 1 dX12_isGone_10 ar_31 (Or.inl ⟨rfl, rfl, rfl⟩) g_1 rfl ?_
  refine J_nmh e_3 ?_
  refine J_iconst hX 0 dX12_isGone_11 rfl ?_
  refine J_istore_n hX [(2, .int 0), (0, .ref 30), (1, .int x1)] dX12_isGone_12 rfl rfl rfl ?_
  refine J_sub [1, 2, 0] [(0, .ref 30), (1, .int x1), (2, .int 0)] rfl ?_
  exact T_X12_isGone_13 hX hdx x1 FU 0 h_2 hf
set_option maxRecDepth 100000 in
set_option maxHeartbeats 200000 in
theorem C_X12_isGone {G : GX} (hG : GOk G) {x1 : Int32} {h : Hp} {r : Hp} (hf : f_X12_isGone x1 h = some r) : Ctr G 4 yX12_isGone cX12_isGone 3 none [.ref 30, .int x1] h ((.inl none, r)) :=
  Ctr_of hG RX12 rfl (by decide) rfl (fun X _ hdx hX => T_X12_isGone_0 hX hdx x1 h hf)
theorem dX12_thoseSagging_0 : decode cX12_thoseSagging 0 = .ok (.aload_n 0, 1) := by decide +kernel
theorem dX12_thoseSagging_1 : decode cX12_thoseSagging 1 = .ok (.invokevirtual 347, 3) := by decide +kernel
theorem dX12_thoseSagging_4 : decode cX12_thoseSagging 4 = .ok (.iconst 0, 1) := by decide +kernel
theorem dX12_thoseSagging_5 : decode cX12_thoseSagging 5 = .ok (.istore_n 1, 1) := by decide +kernel
theorem dX12_thoseSagging_6 : decode cX12_thoseSagging 6 = .ok (.iconst 0, 1) := by decide +kernel
theorem dX12_thoseSagging_7 : decode cX12_thoseSagging 7 = .ok (.istore_n 2, 1) := by decide +kernel
theorem dX12_thoseSagging_8 : decode cX12_thoseSagging 8 = .ok (.iload_n 2, 1) := by decide +kernel
theorem dX12_thoseSagging_9 : decode cX12_thoseSagging 9 = .ok (.aload_n 0, 1) := by decide +kernel
theorem dX12_thoseSagging_10 : decode cX12_thoseSagging 10 = .ok (.invokevirtual 87, 3) := by decide +kernel
theorem dX12_thoseSagging_13 : decode cX12_thoseSagging 13 = .ok (.if_icmp .ge 35, 3) := by decide +kernel
theorem dX12_thoseSagging_16 : decode cX12_thoseSagging 16 = .ok (.iload_n 1, 1) := by decide +kernel
theorem dX12_thoseSagging_17 : decode cX12_thoseSagging 17 = .ok (.aload_n 0, 1) := by decide +kernel
theorem dX12_thoseSagging_18 : decode cX12_thoseSagging 18 = .ok (.iload_n 2, 1) := by decide +kernel
theorem dX12_thoseSagging_19 : decode cX12_thoseSagging 19 = .ok (.invokevirtual 91, 3) := by decide +kernel
theorem dX12_thoseSagging_22 : decode cX12_thoseSagging 22 = .ok (.ifCond .ne 17, 3) := by decide +kernel
theorem dX12_thoseSagging_25 : decode cX12_thoseSagging 25 = .ok (.aload_n 0, 1) := by decide +kernel
theorem dX12_thoseSagging_26 : decode cX12_thoseSagging 26 = .ok (.iload_n 2, 1) := by decide +kernel
theorem dX12_thoseSagging_27 : decode cX12_thoseSagging 27 = .ok (.invokevirtual 337, 3) := by decide +kernel
theorem dX12_thoseSagging_30 : decode cX12_thoseSagging 30 = .ok (.ifCond .le 9, 3) := by decide +kernel
theorem dX12_thoseSagging_33 : decode cX12_thoseSagging 33 = .ok (.iconst 1, 1) := by decide +kernel
theorem dX12_thoseSagging_34 : decode cX12_thoseSagging 34 = .ok (.iload_n 2, 1) := by decide +kernel
theorem dX12_thoseSagging_35 : decode cX12_thoseSagging 35 = .ok (.ishl, 1) := by decide +kernel
theorem dX12_thoseSagging_36 : decode cX12_thoseSagging 36 = .ok (.goto 4, 3) := by decide +kernel
theorem dX12_thoseSagging_39 : decode cX12_thoseSagging 39 = .ok (.iconst 0, 1) := by decide +kernel
theorem dX12_thoseSagging_40 : decode cX12_thoseSagging 40 = .ok (.ior, 1) := by decide +kernel
theorem dX12_thoseSagging_41 : decode cX12_thoseSagging 41 = .ok (.istore_n 1, 1) := by decide +kernel
theorem dX12_thoseSagging_42 : decode cX12_thoseSagging 42 = .ok (.iinc 2 1, 3) := by decide +kernel
theorem dX12_thoseSagging_45 : decode cX12_thoseSagging 45 = .ok (.goto (-37), 3) := by decide +kernel
theorem dX12_thoseSagging_48 : decode cX12_thoseSagging 48 = .ok (.iload_n 1, 1) := by decide +kernel
theorem dX12_thoseSagging_49 : decode cX12_thoseSagging 49 = .ok (.ireturn, 1) := by decide +kernel
set_option maxRecDepth 100000 in
set_option maxHeartbeats 200000 in
theorem T_X12_thoseSagging_40 {X : CX} (hX : Ok X cX12_thoseSagging 3 RX12 (some .int)) (hdx : dX X = 11) {r : Int32 × Hp} (x2 : Int32) (t0 : Int32) (t1 : Int32) (q_8 : Int32 → Int32 → Hp → Option (Int32 × Hp)) (hq_8 : ∀ (x1 : Int32) (x2 : Int32) (h : Hp), q_8 x1 x2 h = some r → J X ((.inl (some (.int r.1)), r.2)) 8 [(0, .ref 30), (1, .int x1), (2, .int x2)] [] h) (h : Hp) (hf : F_X12_thoseSagging_40 q_8 x2 t0 t1 h = some r) : J X ((.inl (some (.int r.1)), r.2)) 40 [(0, .ref 30), (2, .int x2)] [.int t0, .int t1] h := by
  unfold F_X12_thoseSagging_40 at hf
  refine J_ior hX dX12_thoseSagging_40 ?_
  obtain ⟨x1_1, e_2, hf⟩ := bndE hf
  refine J_nm e_2 ?_
  refine J_istore_n hX [(1, .int x1_1), (0, .ref 30), (2, .int x2)] dX12_thoseSagging_41 rfl rfl rfl ?_
  refine J_iinc hX (x2 + 1) 2 [(2, .int (x2 + 1)), (1, .int x1_1), (0, .ref 30)] dX12_thoseSagging_42 rfl rfl rfl rfl ?_
  refine J_goto hX 8 dX12_thoseSagging_45 rfl ?_
  refine J_sub [2, 1, 0] [(0, .ref 30), (1, .int x1_1), (2, .int (x2 + 1))] rfl ?_
  exact hq_8 x1_1 (x2 + 1) h hf
set_option maxRecDepth 100000 in
set_option maxHeartbeats 200000 in
theorem T_X12_thoseSagging_8_s {X : CX} (hX : Ok X cX12_thoseSagging 3 RX12 (some .int)) (hdx : dX X = 11) {r : Int32 × Hp} (q_8 : Int32 → Int32 → Hp → Option (Int32 × Hp)) (hq_8 : ∀ (x1 : Int32) (x2 : Int32) (h : Hp), q_8 x1 x2 h = some r → J X ((.inl (some (.int r.1)), r.2)) 8 [(0, .ref 30), (1, .int x1), (2, .int x2)] [] h) (x1 : Int32) (x2 : Int32) (h : Hp) (hf : S_X12_thoseSagging_8 q_8 x1 x2 h = some r) : J X ((.inl (some (.int r.1)), r.2)) 8 [(0, .ref 30), (1, .int x1), (2, .int x2)] [] h := by
  unfold S_X12_thoseSagging_8 at hf
  refine J_iload_n hX 2 dX12_thoseSagging_8 rfl rfl ?_
  refine J_aload_n hX 0 dX12_thoseSagging_9 rfl rfl ?_
  refine V_1 hX [] dX12_thoseSagging_10 cw_X12_87 ob_30 rfl (C_X12_houses (okG hX) rfl) (ltD hdx rfl) rfl rfl rfl rfl ?_
  rcases ifE hf with ⟨c_1, hf⟩ | ⟨c_1, hf⟩
  · refine J_icmp_geF hX 48 dX12_thoseSagging_13 rfl c_1 ?_
    refine J_iload_n hX 1 dX12_thoseSagging_16 rfl rfl ?_
    refine J_aload_n hX 0 dX12_thoseSagging_17 rfl rfl ?_
    refine J_iload_n hX 2 dX12_thoseSagging_18 rfl rfl ?_
    obtain ⟨r_2, e_3, hf⟩ := bdE hf
    refine V_1 hX [.int x2] dX12_thoseSagging_19 cw_X12_91 ob_30 rfl (C_X12_isFallen (okG hX) e_3) (ltD hdx rfl) rfl rfl rfl rfl ?_
    rcases ifE hf with ⟨c_4, hf⟩ | ⟨c_4, hf⟩
    · refine J_if_neT hX 39 dX12_thoseSagging_22 rfl (b2iT c_4) ?_
      refine J_iconst hX 0 dX12_thoseSagging_39 rfl ?_
      refine J_sub [0, 2] [(0, .ref 30), (2, .int x2)] rfl ?_
      exact T_X12_thoseSagging_40 hX hdx x2 0 x1 q_8 hq_8 h hf
    · refine J_if_neF hX 39 dX12_thoseSagging_22 rfl (b2iF c_4) ?_
      refine J_aload_n hX 0 dX12_thoseSagging_25 rfl rfl ?_
      refine J_iload_n hX 2 dX12_thoseSagging_26 rfl rfl ?_
      obtain ⟨r_5, e_6, hf⟩ := bdE hf
      refine V_1 hX [.int x2] dX12_thoseSagging_27 cw_X12_337 ob_30 rfl (C_X12_sagsNow (okG hX) e_6) (ltD hdx rfl) rfl rfl rfl rfl ?_
      rcases ifE hf with ⟨c_7, hf⟩ | ⟨c_7, hf⟩
      · refine J_if_leF hX 39 dX12_thoseSagging_30 rfl c_7 ?_
        refine J_iconst hX 1 dX12_thoseSagging_33 rfl ?_
        refine J_iload_n hX 2 dX12_thoseSagging_34 rfl rfl ?_
        refine J_ishl hX dX12_thoseSagging_35 ?_
        refine J_goto hX 40 dX12_thoseSagging_36 rfl ?_
        refine J_sub [0, 2] [(0, .ref 30), (2, .int x2)] rfl ?_
        exact T_X12_thoseSagging_40 hX hdx x2 (shl 1 x2) x1 q_8 hq_8 r_5.2 hf
      · refine J_if_leT hX 39 dX12_thoseSagging_30 rfl c_7 ?_
        refine J_iconst hX 0 dX12_thoseSagging_39 rfl ?_
        refine J_sub [0, 2] [(0, .ref 30), (2, .int x2)] rfl ?_
        exact T_X12_thoseSagging_40 hX hdx x2 0 x1 q_8 hq_8 r_5.2 hf
  · refine J_icmp_geT hX 48 dX12_thoseSagging_13 rfl c_1 ?_
    refine J_iload_n hX 1 dX12_thoseSagging_48 rfl rfl ?_
    exact E_Ii hX dX12_thoseSagging_49 hf
set_option maxRecDepth 100000 in
set_option maxHeartbeats 200000 in
theorem T_X12_thoseSagging_8 {X : CX} (hX : Ok X cX12_thoseSagging 3 RX12 (some .int)) (hdx : dX X = 11) {r : Int32 × Hp} : ∀ (n : Nat) (x1 : Int32) (x2 : Int32) (h : Hp), F_X12_thoseSagging_8 n x1 x2 h = some r → J X ((.inl (some (.int r.1)), r.2)) 8 [(0, .ref 30), (1, .int x1), (2, .int x2)] [] h := by
  intro n
  induction n with
  | zero => intro x1 x2 h hf; exact nomatch hf
  | succ n ih => intro x1 x2 h hf; exact T_X12_thoseSagging_8_s hX hdx _ (fun x1 x2 h hf => ih x1 x2 h hf) x1 x2 h hf
set_option maxRecDepth 100000 in
set_option maxHeartbeats 200000 in
theorem T_X12_thoseSagging_0 {X : CX} (hX : Ok X cX12_thoseSagging 3 RX12 (some .int)) (hdx : dX X = 11) {r : Int32 × Hp} (h : Hp) (hf : f_X12_thoseSagging h = some r) : J X ((.inl (some (.int r.1)), r.2)) 0 [(0, .ref 30)] [] h := by
  unfold f_X12_thoseSagging at hf
  refine J_aload_n hX 0 dX12_thoseSagging_0 rfl rfl ?_
  obtain ⟨r_1, e_2, hf⟩ := bdE hf
  refine V_0 hX [] dX12_thoseSagging_1 cw_X12_347 ob_30 rfl (C_X12_lays (okG hX) e_2) (ltD hdx rfl) rfl rfl rfl rfl ?_
  refine J_iconst hX 0 dX12_thoseSagging_4 rfl ?_
  refine J_istore_n hX [(1, .int 0), (0, .ref 30)] dX12_thoseSagging_5 rfl rfl rfl ?_
  refine J_iconst hX 0 dX12_thoseSagging_6 rfl ?_
  refine J_istore_n hX [(2, .int 0), (1, .int 0), (0, .ref 30)] dX12_thoseSagging_7 rfl rfl rfl ?_
  refine J_sub [2, 1, 0] [(0, .ref 30), (1, .int 0), (2, .int 0)] rfl ?_
  exact T_X12_thoseSagging_8 hX hdx FU 0 0 r_1 hf
set_option maxRecDepth 100000 in
set_option maxHeartbeats 200000 in
theorem C_X12_thoseSagging {G : GX} (hG : GOk G) {h : Hp} {r : Int32 × Hp} (hf : f_X12_thoseSagging h = some r) : Ctr G 11 yX12_thoseSagging cX12_thoseSagging 3 (some .int) [.ref 30] h ((.inl (some (.int r.1)), r.2)) :=
  Ctr_of hG RX12 rfl (by decide) rfl (fun X _ hdx hX => T_X12_thoseSagging_0 hX hdx h hf)
theorem dX12_allFall_0 : decode cX12_allFall 0 = .ok (.aload_n 0, 1) := by decide +kernel
theorem dX12_allFall_1 : decode cX12_allFall 1 = .ok (.iload_n 1, 1) := by decide +kernel
theorem dX12_allFall_2 : decode cX12_allFall 2 = .ok (.putfield 286, 3) := by decide +kernel
theorem dX12_allFall_5 : decode cX12_allFall 5 = .ok (.iconst 0, 1) := by decide +kernel
theorem dX12_allFall_6 : decode cX12_allFall 6 = .ok (.istore_n 2, 1) := by decide +kernel
theorem dX12_allFall_7 : decode cX12_allFall 7 = .ok (.aload_n 0, 1) := by decide +kernel
theorem dX12_allFall_8 : decode cX12_allFall 8 = .ok (.iconst 0, 1) := by decide +kernel
theorem dX12_allFall_9 : decode cX12_allFall 9 = .ok (.putfield 331, 3) := by decide +kernel
theorem dX12_allFall_12 : decode cX12_allFall 12 = .ok (.aload_n 0, 1) := by decide +kernel
theorem dX12_allFall_13 : decode cX12_allFall 13 = .ok (.invokevirtual 334, 3) := by decide +kernel
theorem dX12_allFall_16 : decode cX12_allFall 16 = .ok (.istore_n 3, 1) := by decide +kernel
theorem dX12_allFall_17 : decode cX12_allFall 17 = .ok (.iload_n 3, 1) := by decide +kernel
theorem dX12_allFall_18 : decode cX12_allFall 18 = .ok (.ifCond .eq 102, 3) := by decide +kernel
theorem dX12_allFall_21 : decode cX12_allFall 21 = .ok (.aload_n 0, 1) := by decide +kernel
theorem dX12_allFall_22 : decode cX12_allFall 22 = .ok (.dup, 1) := by decide +kernel
theorem dX12_allFall_23 : decode cX12_allFall 23 = .ok (.getfield 331, 3) := by decide +kernel
theorem dX12_allFall_26 : decode cX12_allFall 26 = .ok (.iconst 1, 1) := by decide +kernel
theorem dX12_allFall_27 : decode cX12_allFall 27 = .ok (.iadd, 1) := by decide +kernel
theorem dX12_allFall_28 : decode cX12_allFall 28 = .ok (.putfield 331, 3) := by decide +kernel
theorem dX12_allFall_31 : decode cX12_allFall 31 = .ok (.iconst 0, 1) := by decide +kernel
theorem dX12_allFall_32 : decode cX12_allFall 32 = .ok (.istore 4, 2) := by decide +kernel
theorem dX12_allFall_34 : decode cX12_allFall 34 = .ok (.iload 4, 2) := by decide +kernel
theorem dX12_allFall_36 : decode cX12_allFall 36 = .ok (.aload_n 0, 1) := by decide +kernel
theorem dX12_allFall_37 : decode cX12_allFall 37 = .ok (.invokevirtual 87, 3) := by decide +kernel
theorem dX12_allFall_40 : decode cX12_allFall 40 = .ok (.if_icmp .ge 35, 3) := by decide +kernel
theorem dX12_allFall_43 : decode cX12_allFall 43 = .ok (.iload_n 3, 1) := by decide +kernel
theorem dX12_allFall_44 : decode cX12_allFall 44 = .ok (.iload 4, 2) := by decide +kernel
theorem dX12_allFall_46 : decode cX12_allFall 46 = .ok (.invokestatic 289, 3) := by decide +kernel
theorem dX12_allFall_49 : decode cX12_allFall 49 = .ok (.ifCond .eq 20, 3) := by decide +kernel
theorem dX12_allFall_52 : decode cX12_allFall 52 = .ok (.aload_n 0, 1) := by decide +kernel
theorem dX12_allFall_53 : decode cX12_allFall 53 = .ok (.iload 4, 2) := by decide +kernel
theorem dX12_allFall_55 : decode cX12_allFall 55 = .ok (.aload_n 0, 1) := by decide +kernel
theorem dX12_allFall_56 : decode cX12_allFall 56 = .ok (.getfield 331, 3) := by decide +kernel
theorem dX12_allFall_59 : decode cX12_allFall 59 = .ok (.aload_n 0, 1) := by decide +kernel
theorem dX12_allFall_60 : decode cX12_allFall 60 = .ok (.iload 4, 2) := by decide +kernel
theorem dX12_allFall_62 : decode cX12_allFall 62 = .ok (.invokevirtual 337, 3) := by decide +kernel
theorem dX12_allFall_65 : decode cX12_allFall 65 = .ok (.iconst 0, 1) := by decide +kernel
theorem dX12_allFall_66 : decode cX12_allFall 66 = .ok (.invokevirtual 340, 3) := by decide +kernel
theorem dX12_allFall_69 : decode cX12_allFall 69 = .ok (.iinc 4 1, 3) := by decide +kernel
theorem dX12_allFall_72 : decode cX12_allFall 72 = .ok (.goto (-38), 3) := by decide +kernel
theorem dX12_allFall_75 : decode cX12_allFall 75 = .ok (.iconst 0, 1) := by decide +kernel
theorem dX12_allFall_76 : decode cX12_allFall 76 = .ok (.istore 4, 2) := by decide +kernel
theorem dX12_allFall_78 : decode cX12_allFall 78 = .ok (.iload 4, 2) := by decide +kernel
theorem dX12_allFall_80 : decode cX12_allFall 80 = .ok (.aload_n 0, 1) := by decide +kernel
theorem dX12_allFall_81 : decode cX12_allFall 81 = .ok (.invokevirtual 87, 3) := by decide +kernel
theorem dX12_allFall_84 : decode cX12_allFall 84 = .ok (.if_icmp .ge 24, 3) := by decide +kernel
theorem dX12_allFall_87 : decode cX12_allFall 87 = .ok (.iload_n 3, 1) := by decide +kernel
theorem dX12_allFall_88 : decode cX12_allFall 88 = .ok (.iload 4, 2) := by decide +kernel
theorem dX12_allFall_90 : decode cX12_allFall 90 = .ok (.invokestatic 289, 3) := by decide +kernel
theorem dX12_allFall_93 : decode cX12_allFall 93 = .ok (.ifCond .eq 9, 3) := by decide +kernel
theorem dX12_allFall_96 : decode cX12_allFall 96 = .ok (.aload_n 0, 1) := by decide +kernel
theorem dX12_allFall_97 : decode cX12_allFall 97 = .ok (.iload 4, 2) := by decide +kernel
theorem dX12_allFall_99 : decode cX12_allFall 99 = .ok (.invokevirtual 344, 3) := by decide +kernel
theorem dX12_allFall_102 : decode cX12_allFall 102 = .ok (.iinc 4 1, 3) := by decide +kernel
theorem dX12_allFall_105 : decode cX12_allFall 105 = .ok (.goto (-27), 3) := by decide +kernel
theorem dX12_allFall_108 : decode cX12_allFall 108 = .ok (.iload_n 2, 1) := by decide +kernel
theorem dX12_allFall_109 : decode cX12_allFall 109 = .ok (.iload_n 3, 1) := by decide +kernel
theorem dX12_allFall_110 : decode cX12_allFall 110 = .ok (.ior, 1) := by decide +kernel
theorem dX12_allFall_111 : decode cX12_allFall 111 = .ok (.istore_n 2, 1) := by decide +kernel
theorem dX12_allFall_112 : decode cX12_allFall 112 = .ok (.aload_n 0, 1) := by decide +kernel
theorem dX12_allFall_113 : decode cX12_allFall 113 = .ok (.invokevirtual 334, 3) := by decide +kernel
theorem dX12_allFall_116 : decode cX12_allFall 116 = .ok (.istore_n 3, 1) := by decide +kernel
theorem dX12_allFall_117 : decode cX12_allFall 117 = .ok (.goto (-100), 3) := by decide +kernel
theorem dX12_allFall_120 : decode cX12_allFall 120 = .ok (.iload_n 2, 1) := by decide +kernel
theorem dX12_allFall_121 : decode cX12_allFall 121 = .ok (.ireturn, 1) := by decide +kernel
set_option maxRecDepth 100000 in
set_option maxHeartbeats 200000 in
theorem T_X12_allFall_78_s {X : CX} (hX : Ok X cX12_allFall 5 RX12 (some .int)) (hdx : dX X = 12) {r : Int32 × Hp} (x2 : Int32) (x3 : Int32) (q_17 : Int32 → Int32 → Hp → Option (Int32 × Hp)) (hq_17 : ∀ (x2 : Int32) (x3 : Int32) (h : Hp), q_17 x2 x3 h = some r → J X ((.inl (some (.int r.1)), r.2)) 17 [(0, .ref 30), (2, .int x2), (3, .int x3)] [] h) (q_78 : Int32 → Hp → Option (Int32 × Hp)) (hq_78 : ∀ (x4 : Int32) (h : Hp), q_78 x4 h = some r → J X ((.inl (some (.int r.1)), r.2)) 78 [(0, .ref 30), (2, .int x2), (3, .int x3), (4, .int x4)] [] h) (x4 : Int32) (h : Hp) (hf : S_X12_allFall_78 q_17 x2 x3 q_78 x4 h = some r) : J X ((.inl (some (.int r.1)), r.2)) 78 [(0, .ref 30), (2, .int x2), (3, .int x3), (4, .int x4)] [] h := by
  unfold S_X12_allFall_78 at hf
  refine J_iload hX 3 dX12_allFall_78 rfl ?_
  refine J_aload_n hX 0 dX12_allFall_80 rfl rfl ?_
  refine V_1 hX [] dX12_allFall_81 cw_X12_87 ob_30 rfl (C_X12_houses (okG hX) rfl) (ltD hdx rfl) rfl rfl rfl rfl ?_
  rcases ifE hf with ⟨c_1, hf⟩ | ⟨c_1, hf⟩
  · refine J_icmp_geF hX 108 dX12_allFall_84 rfl c_1 ?_
    refine J_iload_n hX 2 dX12_allFall_87 rfl rfl ?_
    refine J_iload hX 3 dX12_allFall_88 rfl ?_
    refine S_1 hX [.int x3, .int x4] dX12_allFall_90 cw_X12_289 (C_X12_has (okG hX) rfl) (ltD hdx rfl) rfl rfl rfl rfl ?_
    rcases ifE hf with ⟨c_2, hf⟩ | ⟨c_2, hf⟩
    · refine J_if_eqF hX 102 dX12_allFall_93 rfl (b2iT c_2) ?_
      refine J_aload_n hX 0 dX12_allFall_96 rfl rfl ?_
      refine J_iload hX 3 dX12_allFall_97 rfl ?_
      obtain ⟨r_3, e_4, hf⟩ := bdE hf
      refine V_0 hX [.int x4] dX12_allFall_99 cw_X12_344 ob_30 rfl (C_X12_isGone (okG hX) e_4) (ltD hdx rfl) rfl rfl rfl rfl ?_
      refine J_iinc hX (x4 + 1) 3 [(4, .int (x4 + 1)), (0, .ref 30), (2, .int x2), (3, .int x3)] dX12_allFall_102 rfl rfl rfl rfl ?_
      refine J_goto hX 78 dX12_allFall_105 rfl ?_
      refine J_sub [1, 2, 3, 0] [(0, .ref 30), (2, .int x2), (3, .int x3), (4, .int (x4 + 1))] rfl ?_
      exact hq_78 (x4 + 1) r_3 hf
    · refine J_if_eqT hX 102 dX12_allFall_93 rfl (b2iF c_2) ?_
      refine J_iinc hX (x4 + 1) 3 [(4, .int (x4 + 1)), (0, .ref 30), (2, .int x2), (3, .int x3)] dX12_allFall_102 rfl rfl rfl rfl ?_
      refine J_goto hX 78 dX12_allFall_105 rfl ?_
      refine J_sub [1, 2, 3, 0] [(0, .ref 30), (2, .int x2), (3, .int x3), (4, .int (x4 + 1))] rfl ?_
      exact hq_78 (x4 + 1) h hf
  · refine J_icmp_geT hX 108 dX12_allFall_84 rfl c_1 ?_
    refine J_iload_n hX 1 dX12_allFall_108 rfl rfl ?_
    refine J_iload_n hX 2 dX12_allFall_109 rfl rfl ?_
    refine J_ior hX dX12_allFall_110 ?_
    obtain ⟨x2_5, e_6, hf⟩ := bndE hf
    refine J_nm e_6 ?_
    refine J_istore_n hX [(2, .int x2_5), (0, .ref 30), (3, .int x3), (4, .int x4)] dX12_allFall_111 rfl rfl rfl ?_
    refine J_aload_n hX 1 dX12_allFall_112 rfl rfl ?_
    obtain ⟨r_7, e_8, hf⟩ := bdE hf
    refine V_1 hX [] dX12_allFall_113 cw_X12_334 ob_30 rfl (C_X12_thoseSagging (okG hX) e_8) (ltD hdx rfl) rfl rfl rfl rfl ?_
    refine J_istore_n hX [(3, .int r_7.1), (2, .int x2_5), (0, .ref 30), (4, .int x4)] dX12_allFall_116 rfl rfl rfl ?_
    refine J_goto hX 17 dX12_allFall_117 rfl ?_
    refine J_sub [2, 1, 0] [(0, .ref 30), (2, .int x2_5), (3, .int r_7.1)] rfl ?_
    exact hq_17 x2_5 r_7.1 r_7.2 hf
set_option maxRecDepth 100000 in
set_option maxHeartbeats 200000 in
theorem T_X12_allFall_78 {X : CX} (hX : Ok X cX12_allFall 5 RX12 (some .int)) (hdx : dX X = 12) {r : Int32 × Hp} (x2 : Int32) (x3 : Int32) (q_17 : Int32 → Int32 → Hp → Option (Int32 × Hp)) (hq_17 : ∀ (x2 : Int32) (x3 : Int32) (h : Hp), q_17 x2 x3 h = some r → J X ((.inl (some (.int r.1)), r.2)) 17 [(0, .ref 30), (2, .int x2), (3, .int x3)] [] h) : ∀ (n : Nat) (x4 : Int32) (h : Hp), F_X12_allFall_78 q_17 x2 x3 n x4 h = some r → J X ((.inl (some (.int r.1)), r.2)) 78 [(0, .ref 30), (2, .int x2), (3, .int x3), (4, .int x4)] [] h := by
  intro n
  induction n with
  | zero => intro x4 h hf; exact nomatch hf
  | succ n ih => intro x4 h hf; exact T_X12_allFall_78_s hX hdx x2 x3 q_17 hq_17 _ (fun x4 h hf => ih x4 h hf) x4 h hf
set_option maxRecDepth 100000 in
set_option maxHeartbeats 200000 in
theorem T_X12_allFall_34_s {X : CX} (hX : Ok X cX12_allFall 5 RX12 (some .int)) (hdx : dX X = 12) {r : Int32 × Hp} (x2 : Int32) (x3 : Int32) (q_17 : Int32 → Int32 → Hp → Option (Int32 × Hp)) (hq_17 : ∀ (x2 : Int32) (x3 : Int32) (h : Hp), q_17 x2 x3 h = some r → J X ((.inl (some (.int r.1)), r.2)) 17 [(0, .ref 30), (2, .int x2), (3, .int x3)] [] h) (q_34 : Int32 → Hp → Option (Int32 × Hp)) (hq_34 : ∀ (x4 : Int32) (h : Hp), q_34 x4 h = some r → J X ((.inl (some (.int r.1)), r.2)) 34 [(0, .ref 30), (2, .int x2), (3, .int x3), (4, .int x4)] [] h) (x4 : Int32) (h : Hp) (hf : S_X12_allFall_34 q_17 x2 x3 q_34 x4 h = some r) : J X ((.inl (some (.int r.1)), r.2)) 34 [(0, .ref 30), (2, .int x2), (3, .int x3), (4, .int x4)] [] h := by
  unfold S_X12_allFall_34 at hf
  refine J_iload hX 3 dX12_allFall_34 rfl ?_
  refine J_aload_n hX 0 dX12_allFall_36 rfl rfl ?_
  refine V_1 hX [] dX12_allFall_37 cw_X12_87 ob_30 rfl (C_X12_houses (okG hX) rfl) (ltD hdx rfl) rfl rfl rfl rfl ?_
  rcases ifE hf with ⟨c_1, hf⟩ | ⟨c_1, hf⟩
  · refine J_icmp_geF hX 75 dX12_allFall_40 rfl c_1 ?_
    refine J_iload_n hX 2 dX12_allFall_43 rfl rfl ?_
    refine J_iload hX 3 dX12_allFall_44 rfl ?_
    refine S_1 hX [.int x3, .int x4] dX12_allFall_46 cw_X12_289 (C_X12_has (okG hX) rfl) (ltD hdx rfl) rfl rfl rfl rfl ?_
    rcases ifE hf with ⟨c_2, hf⟩ | ⟨c_2, hf⟩
    · refine J_if_eqF hX 69 dX12_allFall_49 rfl (b2iT c_2) ?_
      refine J_aload_n hX 0 dX12_allFall_52 rfl rfl ?_
      refine J_iload hX 3 dX12_allFall_53 rfl ?_
      refine J_aload_n hX 0 dX12_allFall_55 rfl rfl ?_
      refine J_getI hX dX12_allFall_56 fl_X12_331 ob_30 rfl ?_
      refine J_aload_n hX 0 dX12_allFall_59 rfl rfl ?_
      refine J_iload hX 3 dX12_allFall_60 rfl ?_
      obtain ⟨r_3, e_4, hf⟩ := bdE hf
      refine V_1 hX [.int x4] dX12_allFall_62 cw_X12_337 ob_30 rfl (C_X12_sagsNow (okG hX) e_4) (ltD hdx rfl) rfl rfl rfl rfl ?_
      refine J_iconst hX 0 dX12_allFall_65 rfl ?_
      obtain ⟨r_5, e_6, hf⟩ := bdE hf
      refine V_0 hX [.int x4, .int (h 30 22), .int r_3.1, .int 0] dX12_allFall_66 cw_X12_340 ob_30 rfl (C_X12_tells (okG hX) e_6) (ltD hdx rfl) rfl rfl rfl rfl ?_
      refine J_iinc hX (x4 + 1) 3 [(4, .int (x4 + 1)), (0, .ref 30), (2, .int x2), (3, .int x3)] dX12_allFall_69 rfl rfl rfl rfl ?_
      refine J_goto hX 34 dX12_allFall_72 rfl ?_
      refine J_sub [1, 2, 3, 0] [(0, .ref 30), (2, .int x2), (3, .int x3), (4, .int (x4 + 1))] rfl ?_
      exact hq_34 (x4 + 1) r_5 hf
    · refine J_if_eqT hX 69 dX12_allFall_49 rfl (b2iF c_2) ?_
      refine J_iinc hX (x4 + 1) 3 [(4, .int (x4 + 1)), (0, .ref 30), (2, .int x2), (3, .int x3)] dX12_allFall_69 rfl rfl rfl rfl ?_
      refine J_goto hX 34 dX12_allFall_72 rfl ?_
      refine J_sub [1, 2, 3, 0] [(0, .ref 30), (2, .int x2), (3, .int x3), (4, .int (x4 + 1))] rfl ?_
      exact hq_34 (x4 + 1) h hf
  · refine J_icmp_geT hX 75 dX12_allFall_40 rfl c_1 ?_
    refine J_iconst hX 0 dX12_allFall_75 rfl ?_
    refine J_istore hX [(4, .int 0), (0, .ref 30), (2, .int x2), (3, .int x3)] dX12_allFall_76 rfl rfl ?_
    refine J_sub [1, 2, 3, 0] [(0, .ref 30), (2, .int x2), (3, .int x3), (4, .int 0)] rfl ?_
    exact T_X12_allFall_78 hX hdx x2 x3 q_17 hq_17 FU 0 h hf
set_option maxRecDepth 100000 in
set_option maxHeartbeats 200000 in
theorem T_X12_allFall_34 {X : CX} (hX : Ok X cX12_allFall 5 RX12 (some .int)) (hdx : dX X = 12) {r : Int32 × Hp} (x2 : Int32) (x3 : Int32) (q_17 : Int32 → Int32 → Hp → Option (Int32 × Hp)) (hq_17 : ∀ (x2 : Int32) (x3 : Int32) (h : Hp), q_17 x2 x3 h = some r → J X ((.inl (some (.int r.1)), r.2)) 17 [(0, .ref 30), (2, .int x2), (3, .int x3)] [] h) : ∀ (n : Nat) (x4 : Int32) (h : Hp), F_X12_allFall_34 q_17 x2 x3 n x4 h = some r → J X ((.inl (some (.int r.1)), r.2)) 34 [(0, .ref 30), (2, .int x2), (3, .int x3), (4, .int x4)] [] h := by
  intro n
  induction n with
  | zero => intro x4 h hf; exact nomatch hf
  | succ n ih => intro x4 h hf; exact T_X12_allFall_34_s hX hdx x2 x3 q_17 hq_17 _ (fun x4 h hf => ih x4 h hf) x4 h hf
set_option maxRecDepth 100000 in
set_option maxHeartbeats 200000 in
theorem T_X12_allFall_17_s {X : CX} (hX : Ok X cX12_allFall 5 RX12 (some .int)) (hdx : dX X = 12) {r : Int32 × Hp} (q_17 : Int32 → Int32 → Hp → Option (Int32 × Hp)) (hq_17 : ∀ (x2 : Int32) (x3 : Int32) (h : Hp), q_17 x2 x3 h = some r → J X ((.inl (some (.int r.1)), r.2)) 17 [(0, .ref 30), (2, .int x2), (3, .int x3)] [] h) (x2 : Int32) (x3 : Int32) (h : Hp) (hf : S_X12_allFall_17 q_17 x2 x3 h = some r) : J X ((.inl (some (.int r.1)), r.2)) 17 [(0, .ref 30), (2, .int x2), (3, .int x3)] [] h := by
  unfold S_X12_allFall_17 at hf
  refine J_iload_n hX 2 dX12_allFall_17 rfl rfl ?_
  rcases ifE hf with ⟨c_1, hf⟩ | ⟨c_1, hf⟩
  · refine J_if_eqT hX 120 dX12_allFall_18 rfl c_1 ?_
    refine J_iload_n hX 1 dX12_allFall_120 rfl rfl ?_
    exact E_Ii hX dX12_allFall_121 hf
  · refine J_if_eqF hX 120 dX12_allFall_18 rfl c_1 ?_
    refine J_aload_n hX 0 dX12_allFall_21 rfl rfl ?_
    refine J_dup hX dX12_allFall_22 rfl ?_
    refine J_getI hX dX12_allFall_23 fl_X12_331 ob_30 rfl ?_
    refine J_iconst hX 1 dX12_allFall_26 rfl ?_
    refine J_iadd hX dX12_allFall_27 ?_
    obtain ⟨h_2, e_3, hf⟩ := bndE hf
    refine J_putI hX dX12_allFall_28 fl_X12_331 fw_10_22 ob_30 rfl rfl rfl ?_
    refine J_nmh e_3 ?_
    refine J_iconst hX 0 dX12_allFall_31 rfl ?_
    refine J_istore hX [(4, .int 0), (0, .ref 30), (2, .int x2), (3, .int x3)] dX12_allFall_32 rfl rfl ?_
    refine J_sub [1, 2, 3, 0] [(0, .ref 30), (2, .int x2), (3, .int x3), (4, .int 0)] rfl ?_
    exact T_X12_allFall_34 hX hdx x2 x3 q_17 hq_17 FU 0 h_2 hf
set_option maxRecDepth 100000 in
set_option maxHeartbeats 200000 in
theorem T_X12_allFall_17 {X : CX} (hX : Ok X cX12_allFall 5 RX12 (some .int)) (hdx : dX X = 12) {r : Int32 × Hp} : ∀ (n : Nat) (x2 : Int32) (x3 : Int32) (h : Hp), F_X12_allFall_17 n x2 x3 h = some r → J X ((.inl (some (.int r.1)), r.2)) 17 [(0, .ref 30), (2, .int x2), (3, .int x3)] [] h := by
  intro n
  induction n with
  | zero => intro x2 x3 h hf; exact nomatch hf
  | succ n ih => intro x2 x3 h hf; exact T_X12_allFall_17_s hX hdx _ (fun x2 x3 h hf => ih x2 x3 h hf) x2 x3 h hf
set_option maxRecDepth 100000 in
set_option maxHeartbeats 200000 in
theorem T_X12_allFall_0 {X : CX} (hX : Ok X cX12_allFall 5 RX12 (some .int)) (hdx : dX X = 12) {r : Int32 × Hp} (x1 : Int32) (h : Hp) (hf : f_X12_allFall x1 h = some r) : J X ((.inl (some (.int r.1)), r.2)) 0 [(0, .ref 30), (1, .int x1)] [] h := by
  unfold f_X12_allFall at hf
  refine J_aload_n hX 0 dX12_allFall_0 rfl rfl ?_
  refine J_iload_n hX 1 dX12_allFall_1 rfl rfl ?_
  obtain ⟨h_1, e_2, hf⟩ := bndE hf
  refine J_putI hX dX12_allFall_2 fl_X12_286 fw_10_20 ob_30 rfl rfl rfl ?_
  refine J_nmh e_2 ?_
  refine J_iconst hX 0 dX12_allFall_5 rfl ?_
  refine J_istore_n hX [(2, .int 0), (0, .ref 30), (1, .int x1)] dX12_allFall_6 rfl rfl rfl ?_
  refine J_aload_n hX 1 dX12_allFall_7 rfl rfl ?_
  refine J_iconst hX 0 dX12_allFall_8 rfl ?_
  obtain ⟨h_3, e_4, hf⟩ := bndE hf
  refine J_putI hX dX12_allFall_9 fl_X12_331 fw_10_22 ob_30 rfl rfl rfl ?_
  refine J_nmh e_4 ?_
  refine J_aload_n hX 1 dX12_allFall_12 rfl rfl ?_
  obtain ⟨r_5, e_6, hf⟩ := bdE hf
  refine V_1 hX [] dX12_allFall_13 cw_X12_334 ob_30 rfl (C_X12_thoseSagging (okG hX) e_6) (ltD hdx rfl) rfl rfl rfl rfl ?_
  refine J_istore_n hX [(3, .int r_5.1), (2, .int 0), (0, .ref 30), (1, .int x1)] dX12_allFall_16 rfl rfl rfl ?_
  refine J_sub [2, 1, 0] [(0, .ref 30), (2, .int 0), (3, .int r_5.1)] rfl ?_
  exact T_X12_allFall_17 hX hdx FU 0 r_5.1 r_5.2 hf
set_option maxRecDepth 100000 in
set_option maxHeartbeats 200000 in
theorem C_X12_allFall {G : GX} (hG : GOk G) {x1 : Int32} {h : Hp} {r : Int32 × Hp} (hf : f_X12_allFall x1 h = some r) : Ctr G 12 yX12_allFall cX12_allFall 5 (some .int) [.ref 30, .int x1] h ((.inl (some (.int r.1)), r.2)) :=
  Ctr_of hG RX12 rfl (by decide) rfl (fun X _ hdx hX => T_X12_allFall_0 hX hdx x1 h hf)
theorem dX12_wouldFall_0 : decode cX12_wouldFall 0 = .ok (.aload_n 0, 1) := by decide +kernel
theorem dX12_wouldFall_1 : decode cX12_wouldFall 1 = .ok (.iload_n 1, 1) := by decide +kernel
theorem dX12_wouldFall_2 : decode cX12_wouldFall 2 = .ok (.invokevirtual 350, 3) := by decide +kernel
theorem dX12_wouldFall_5 : decode cX12_wouldFall 5 = .ok (.istore_n 2, 1) := by decide +kernel
theorem dX12_wouldFall_6 : decode cX12_wouldFall 6 = .ok (.aload_n 0, 1) := by decide +kernel
theorem dX12_wouldFall_7 : decode cX12_wouldFall 7 = .ok (.invokevirtual 353, 3) := by decide +kernel
theorem dX12_wouldFall_10 : decode cX12_wouldFall 10 = .ok (.iload_n 2, 1) := by decide +kernel
theorem dX12_wouldFall_11 : decode cX12_wouldFall 11 = .ok (.ireturn, 1) := by decide +kernel
set_option maxRecDepth 100000 in
set_option maxHeartbeats 200000 in
theorem T_X12_wouldFall_0 {X : CX} (hX : Ok X cX12_wouldFall 3 RX12 (some .int)) (hdx : dX X = 13) {r : Int32 × Hp} (x1 : Int32) (h : Hp) (hf : f_X12_wouldFall x1 h = some r) : J X ((.inl (some (.int r.1)), r.2)) 0 [(0, .ref 30), (1, .int x1)] [] h := by
  unfold f_X12_wouldFall at hf
  refine J_aload_n hX 0 dX12_wouldFall_0 rfl rfl ?_
  refine J_iload_n hX 1 dX12_wouldFall_1 rfl rfl ?_
  obtain ⟨r_1, e_2, hf⟩ := bdE hf
  refine V_1 hX [.int x1] dX12_wouldFall_2 cw_X12_350 ob_30 rfl (C_X12_allFall (okG hX) e_2) (ltD hdx rfl) rfl rfl rfl rfl ?_
  refine J_istore_n hX [(2, .int r_1.1), (0, .ref 30), (1, .int x1)] dX12_wouldFall_5 rfl rfl rfl ?_
  refine J_aload_n hX 1 dX12_wouldFall_6 rfl rfl ?_
  obtain ⟨r_3, e_4, hf⟩ := bdE hf
  refine V_0 hX [] dX12_wouldFall_7 cw_X12_353 ob_30 rfl (C_X12_bringsBack (okG hX) e_4) (ltD hdx rfl) rfl rfl rfl rfl ?_
  refine J_iload_n hX 0 dX12_wouldFall_10 rfl rfl ?_
  exact E_Ii hX dX12_wouldFall_11 hf
set_option maxRecDepth 100000 in
set_option maxHeartbeats 200000 in
theorem C_X12_wouldFall {G : GX} (hG : GOk G) {x1 : Int32} {h : Hp} {r : Int32 × Hp} (hf : f_X12_wouldFall x1 h = some r) : Ctr G 13 yX12_wouldFall cX12_wouldFall 3 (some .int) [.ref 30, .int x1] h ((.inl (some (.int r.1)), r.2)) :=
  Ctr_of hG RX12 rfl (by decide) rfl (fun X _ hdx hX => T_X12_wouldFall_0 hX hdx x1 h hf)
theorem dX12_fallsIn_0 : decode cX12_fallsIn 0 = .ok (.aload_n 0, 1) := by decide +kernel
theorem dX12_fallsIn_1 : decode cX12_fallsIn 1 = .ok (.invokevirtual 356, 3) := by decide +kernel
theorem dX12_fallsIn_4 : decode cX12_fallsIn 4 = .ok (.aload_n 0, 1) := by decide +kernel
theorem dX12_fallsIn_5 : decode cX12_fallsIn 5 = .ok (.iload_n 1, 1) := by decide +kernel
theorem dX12_fallsIn_6 : decode cX12_fallsIn 6 = .ok (.invokevirtual 359, 3) := by decide +kernel
theorem dX12_fallsIn_9 : decode cX12_fallsIn 9 = .ok (.ireturn, 1) := by decide +kernel
set_option maxRecDepth 100000 in
set_option maxHeartbeats 200000 in
theorem T_X12_fallsIn_0 {X : CX} (hX : Ok X cX12_fallsIn 2 RX12 (some .int)) (hdx : dX X = 14) {r : Int32 × Hp} (x1 : Int32) (h : Hp) (hf : f_X12_fallsIn x1 h = some r) : J X ((.inl (some (.int r.1)), r.2)) 0 [(0, .ref 30), (1, .int x1)] [] h := by
  unfold f_X12_fallsIn at hf
  refine J_aload_n hX 0 dX12_fallsIn_0 rfl rfl ?_
  obtain ⟨r_1, e_2, hf⟩ := bdE hf
  refine V_0 hX [] dX12_fallsIn_1 cw_X12_356 ob_30 rfl (C_X12_keepsAll (okG hX) e_2) (ltD hdx rfl) rfl rfl rfl rfl ?_
  refine J_aload_n hX 0 dX12_fallsIn_4 rfl rfl ?_
  refine J_iload_n hX 1 dX12_fallsIn_5 rfl rfl ?_
  obtain ⟨r_3, e_4, hf⟩ := bdE hf
  refine V_1 hX [.int x1] dX12_fallsIn_6 cw_X12_359 ob_30 rfl (C_X12_wouldFall (okG hX) e_4) (ltD hdx rfl) rfl rfl rfl rfl ?_
  exact E_Ii hX dX12_fallsIn_9 hf
set_option maxRecDepth 100000 in
set_option maxHeartbeats 200000 in
theorem C_X12_fallsIn {G : GX} (hG : GOk G) {x1 : Int32} {h : Hp} {r : Int32 × Hp} (hf : f_X12_fallsIn x1 h = some r) : Ctr G 14 yX12_fallsIn cX12_fallsIn 2 (some .int) [.ref 30, .int x1] h ((.inl (some (.int r.1)), r.2)) :=
  Ctr_of hG RX12 rfl (by decide) rfl (fun X _ hdx hX => T_X12_fallsIn_0 hX hdx x1 h hf)
theorem dX12_wanders_0 : decode cX12_wanders 0 = .ok (.aload_n 0, 1) := by decide +kernel
theorem dX12_wanders_1 : decode cX12_wanders 1 = .ok (.invokevirtual 362, 3) := by decide +kernel
theorem dX12_wanders_4 : decode cX12_wanders 4 = .ok (.istore_n 2, 1) := by decide +kernel
theorem dX12_wanders_5 : decode cX12_wanders 5 = .ok (.aload_n 0, 1) := by decide +kernel
theorem dX12_wanders_6 : decode cX12_wanders 6 = .ok (.iload_n 1, 1) := by decide +kernel
theorem dX12_wanders_7 : decode cX12_wanders 7 = .ok (.iconst 0, 1) := by decide +kernel
theorem dX12_wanders_8 : decode cX12_wanders 8 = .ok (.invokevirtual 283, 3) := by decide +kernel
theorem dX12_wanders_11 : decode cX12_wanders 11 = .ok (.iconst (-1), 1) := by decide +kernel
theorem dX12_wanders_12 : decode cX12_wanders 12 = .ok (.if_icmp .eq 23, 3) := by decide +kernel
theorem dX12_wanders_15 : decode cX12_wanders 15 = .ok (.aload_n 0, 1) := by decide +kernel
theorem dX12_wanders_16 : decode cX12_wanders 16 = .ok (.bipush 100, 2) := by decide +kernel
theorem dX12_wanders_18 : decode cX12_wanders 18 = .ok (.invokevirtual 365, 3) := by decide +kernel
theorem dX12_wanders_21 : decode cX12_wanders 21 = .ok (.aload_n 0, 1) := by decide +kernel
theorem dX12_wanders_22 : decode cX12_wanders 22 = .ok (.getfield 13, 3) := by decide +kernel
theorem dX12_wanders_25 : decode cX12_wanders 25 = .ok (.bipush 6, 2) := by decide +kernel
theorem dX12_wanders_27 : decode cX12_wanders 27 = .ok (.iaload, 1) := by decide +kernel
theorem dX12_wanders_28 : decode cX12_wanders 28 = .ok (.if_icmp .ge 7, 3) := by decide +kernel
theorem dX12_wanders_31 : decode cX12_wanders 31 = .ok (.iload_n 2, 1) := by decide +kernel
theorem dX12_wanders_32 : decode cX12_wanders 32 = .ok (.ifCond .ne 4, 3) := by decide +kernel
theorem dX12_wanders_35 : decode cX12_wanders 35 = .ok (.return_, 1) := by decide +kernel
theorem dX12_wanders_36 : decode cX12_wanders 36 = .ok (.aload_n 0, 1) := by decide +kernel
theorem dX12_wanders_37 : decode cX12_wanders 37 = .ok (.iload_n 2, 1) := by decide +kernel
theorem dX12_wanders_38 : decode cX12_wanders 38 = .ok (.invokestatic 368, 3) := by decide +kernel
theorem dX12_wanders_41 : decode cX12_wanders 41 = .ok (.invokevirtual 365, 3) := by decide +kernel
theorem dX12_wanders_44 : decode cX12_wanders 44 = .ok (.istore_n 3, 1) := by decide +kernel
theorem dX12_wanders_45 : decode cX12_wanders 45 = .ok (.iconst 0, 1) := by decide +kernel
theorem dX12_wanders_46 : decode cX12_wanders 46 = .ok (.istore 4, 2) := by decide +kernel
theorem dX12_wanders_48 : decode cX12_wanders 48 = .ok (.iload_n 2, 1) := by decide +kernel
theorem dX12_wanders_49 : decode cX12_wanders 49 = .ok (.iload 4, 2) := by decide +kernel
theorem dX12_wanders_51 : decode cX12_wanders 51 = .ok (.invokestatic 289, 3) := by decide +kernel
theorem dX12_wanders_54 : decode cX12_wanders 54 = .ok (.ifCond .eq 7, 3) := by decide +kernel
theorem dX12_wanders_57 : decode cX12_wanders 57 = .ok (.iload_n 3, 1) := by decide +kernel
theorem dX12_wanders_58 : decode cX12_wanders 58 = .ok (.ifCond .le 26, 3) := by decide +kernel
theorem dX12_wanders_61 : decode cX12_wanders 61 = .ok (.iload_n 3, 1) := by decide +kernel
theorem dX12_wanders_62 : decode cX12_wanders 62 = .ok (.iload_n 2, 1) := by decide +kernel
theorem dX12_wanders_63 : decode cX12_wanders 63 = .ok (.iload 4, 2) := by decide +kernel
theorem dX12_wanders_65 : decode cX12_wanders 65 = .ok (.invokestatic 289, 3) := by decide +kernel
theorem dX12_wanders_68 : decode cX12_wanders 68 = .ok (.ifCond .eq 7, 3) := by decide +kernel
theorem dX12_wanders_71 : decode cX12_wanders 71 = .ok (.iconst 1, 1) := by decide +kernel
theorem dX12_wanders_72 : decode cX12_wanders 72 = .ok (.goto 4, 3) := by decide +kernel
theorem dX12_wanders_75 : decode cX12_wanders 75 = .ok (.iconst 0, 1) := by decide +kernel
theorem dX12_wanders_76 : decode cX12_wanders 76 = .ok (.isub, 1) := by decide +kernel
theorem dX12_wanders_77 : decode cX12_wanders 77 = .ok (.istore_n 3, 1) := by decide +kernel
theorem dX12_wanders_78 : decode cX12_wanders 78 = .ok (.iinc 4 1, 3) := by decide +kernel
theorem dX12_wanders_81 : decode cX12_wanders 81 = .ok (.goto (-33), 3) := by decide +kernel
theorem dX12_wanders_84 : decode cX12_wanders 84 = .ok (.aload_n 0, 1) := by decide +kernel
theorem dX12_wanders_85 : decode cX12_wanders 85 = .ok (.getfield 13, 3) := by decide +kernel
theorem dX12_wanders_88 : decode cX12_wanders 88 = .ok (.iload_n 1, 1) := by decide +kernel
theorem dX12_wanders_89 : decode cX12_wanders 89 = .ok (.iconst 0, 1) := by decide +kernel
theorem dX12_wanders_90 : decode cX12_wanders 90 = .ok (.invokestatic 81, 3) := by decide +kernel
theorem dX12_wanders_93 : decode cX12_wanders 93 = .ok (.iload 4, 2) := by decide +kernel
theorem dX12_wanders_95 : decode cX12_wanders 95 = .ok (.iastore, 1) := by decide +kernel
theorem dX12_wanders_96 : decode cX12_wanders 96 = .ok (.return_, 1) := by decide +kernel
set_option maxRecDepth 100000 in
set_option maxHeartbeats 200000 in
theorem T_X12_wanders_76 {X : CX} (hX : Ok X cX12_wanders 5 RX12 none) (hdx : dX X = 6) {r : Hp} (x1 : Int32) (x2 : Int32) (x4 : Int32) (t0 : Int32) (t1 : Int32) (q_48 : Int32 → Int32 → Hp → Option Hp) (hq_48 : ∀ (x3 : Int32) (x4 : Int32) (h : Hp), q_48 x3 x4 h = some r → J X ((.inl none, r)) 48 [(0, .ref 30), (1, .int x1), (2, .int x2), (3, .int x3), (4, .int x4)] [] h) (h : Hp) (hf : F_X12_wanders_76 q_48 x1 x2 x4 t0 t1 h = some r) : J X ((.inl none, r)) 76 [(0, .ref 30), (1, .int x1), (2, .int x2), (4, .int x4)] [.int t0, .int t1] h := by
  unfold F_X12_wanders_76 at hf
  refine J_isub hX dX12_wanders_76 ?_
  refine J_istore_n hX [(3, .int (t1 - t0)), (0, .ref 30), (1, .int x1), (2, .int x2), (4, .int x4)] dX12_wanders_77 rfl rfl rfl ?_
  refine J_iinc hX (x4 + 1) 4 [(4, .int (x4 + 1)), (3, .int (t1 - t0)), (0, .ref 30), (1, .int x1), (2, .int x2)] dX12_wanders_78 rfl rfl rfl rfl ?_
  refine J_goto hX 48 dX12_wanders_81 rfl ?_
  refine J_sub [2, 3, 4, 1, 0] [(0, .ref 30), (1, .int x1), (2, .int x2), (3, .int (t1 - t0)), (4, .int (x4 + 1))] rfl ?_
  exact hq_48 (t1 - t0) (x4 + 1) h hf
set_option maxRecDepth 100000 in
set_option maxHeartbeats 200000 in
theorem T_X12_wanders_61 {X : CX} (hX : Ok X cX12_wanders 5 RX12 none) (hdx : dX X = 6) {r : Hp} (x1 : Int32) (x2 : Int32) (x3 : Int32) (x4 : Int32) (q_48 : Int32 → Int32 → Hp → Option Hp) (hq_48 : ∀ (x3 : Int32) (x4 : Int32) (h : Hp), q_48 x3 x4 h = some r → J X ((.inl none, r)) 48 [(0, .ref 30), (1, .int x1), (2, .int x2), (3, .int x3), (4, .int x4)] [] h) (h : Hp) (hf : F_X12_wanders_61 q_48 x1 x2 x3 x4 h = some r) : J X ((.inl none, r)) 61 [(0, .ref 30), (1, .int x1), (2, .int x2), (3, .int x3), (4, .int x4)] [] h := by
  unfold F_X12_wanders_61 at hf
  refine J_iload_n hX 3 dX12_wanders_61 rfl rfl ?_
  refine J_iload_n hX 2 dX12_wanders_62 rfl rfl ?_
  refine J_iload hX 4 dX12_wanders_63 rfl ?_
  refine S_1 hX [.int x2, .int x4] dX12_wanders_65 cw_X12_289 (C_X12_has (okG hX) rfl) (ltD hdx rfl) rfl rfl rfl rfl ?_
  rcases ifE hf with ⟨c_1, hf⟩ | ⟨c_1, hf⟩
  · refine J_if_eqF hX 75 dX12_wanders_68 rfl (b2iT c_1) ?_
    refine J_iconst hX 1 dX12_wanders_71 rfl ?_
    refine J_goto hX 76 dX12_wanders_72 rfl ?_
    refine J_sub [0, 1, 2, 4] [(0, .ref 30), (1, .int x1), (2, .int x2), (4, .int x4)] rfl ?_
    exact T_X12_wanders_76 hX hdx x1 x2 x4 1 x3 q_48 hq_48 h hf
  · refine J_if_eqT hX 75 dX12_wanders_68 rfl (b2iF c_1) ?_
    refine J_iconst hX 0 dX12_wanders_75 rfl ?_
    refine J_sub [0, 1, 2, 4] [(0, .ref 30), (1, .int x1), (2, .int x2), (4, .int x4)] rfl ?_
    exact T_X12_wanders_76 hX hdx x1 x2 x4 0 x3 q_48 hq_48 h hf
set_option maxRecDepth 100000 in
set_option maxHeartbeats 200000 in
theorem T_X12_wanders_48_s {X : CX} (hX : Ok X cX12_wanders 5 RX12 none) (hdx : dX X = 6) {r : Hp} (x1 : Int32) (x2 : Int32) (q_48 : Int32 → Int32 → Hp → Option Hp) (hq_48 : ∀ (x3 : Int32) (x4 : Int32) (h : Hp), q_48 x3 x4 h = some r → J X ((.inl none, r)) 48 [(0, .ref 30), (1, .int x1), (2, .int x2), (3, .int x3), (4, .int x4)] [] h) (x3 : Int32) (x4 : Int32) (h : Hp) (hf : S_X12_wanders_48 x1 x2 q_48 x3 x4 h = some r) : J X ((.inl none, r)) 48 [(0, .ref 30), (1, .int x1), (2, .int x2), (3, .int x3), (4, .int x4)] [] h := by
  unfold S_X12_wanders_48 at hf
  refine J_iload_n hX 2 dX12_wanders_48 rfl rfl ?_
  refine J_iload hX 4 dX12_wanders_49 rfl ?_
  refine S_1 hX [.int x2, .int x4] dX12_wanders_51 cw_X12_289 (C_X12_has (okG hX) rfl) (ltD hdx rfl) rfl rfl rfl rfl ?_
  rcases ifE hf with ⟨c_1, hf⟩ | ⟨c_1, hf⟩
  · refine J_if_eqF hX 61 dX12_wanders_54 rfl (b2iT c_1) ?_
    refine J_iload_n hX 3 dX12_wanders_57 rfl rfl ?_
    rcases ifE hf with ⟨c_2, hf⟩ | ⟨c_2, hf⟩
    · refine J_if_leF hX 84 dX12_wanders_58 rfl c_2 ?_
      exact T_X12_wanders_61 hX hdx x1 x2 x3 x4 q_48 hq_48 h hf
    · refine J_if_leT hX 84 dX12_wanders_58 rfl c_2 ?_
      refine J_aload_n hX 0 dX12_wanders_84 rfl rfl ?_
      refine J_getR hX 31 dX12_wanders_85 fl_X12_13 ob_30 rfl rfl ?_
      refine J_iload_n hX 1 dX12_wanders_88 rfl rfl ?_
      refine J_iconst hX 0 dX12_wanders_89 rfl ?_
      refine S_1 hX [.int x1, .int 0] dX12_wanders_90 cw_X12_81 (C_X12_personAt (okG hX) rfl) (ltD hdx rfl) rfl rfl rfl rfl ?_
      refine J_iload hX 4 dX12_wanders_93 rfl ?_
      obtain ⟨g_3, hf⟩ := gdE hf
      obtain ⟨h_4, e_5, hf⟩ := bndE hf
      refine J_ast hX ((f_X12_personAt x1 0 h).toNatClampNeg) x4 dX12_wanders_95 ar_31 (Or.inl ⟨rfl, rfl, rfl⟩) g_3 rfl ?_
      refine J_nmh e_5 ?_
      exact E_Vi hX dX12_wanders_96 hf
  · refine J_if_eqT hX 61 dX12_wanders_54 rfl (b2iF c_1) ?_
    exact T_X12_wanders_61 hX hdx x1 x2 x3 x4 q_48 hq_48 h hf
set_option maxRecDepth 100000 in
set_option maxHeartbeats 200000 in
theorem T_X12_wanders_48 {X : CX} (hX : Ok X cX12_wanders 5 RX12 none) (hdx : dX X = 6) {r : Hp} (x1 : Int32) (x2 : Int32) : ∀ (n : Nat) (x3 : Int32) (x4 : Int32) (h : Hp), F_X12_wanders_48 x1 x2 n x3 x4 h = some r → J X ((.inl none, r)) 48 [(0, .ref 30), (1, .int x1), (2, .int x2), (3, .int x3), (4, .int x4)] [] h := by
  intro n
  induction n with
  | zero => intro x3 x4 h hf; exact nomatch hf
  | succ n ih => intro x3 x4 h hf; exact T_X12_wanders_48_s hX hdx x1 x2 _ (fun x3 x4 h hf => ih x3 x4 h hf) x3 x4 h hf
set_option maxRecDepth 100000 in
set_option maxHeartbeats 200000 in
theorem T_X12_wanders_0 {X : CX} (hX : Ok X cX12_wanders 5 RX12 none) (hdx : dX X = 6) {r : Hp} (x1 : Int32) (h : Hp) (hf : f_X12_wanders x1 h = some r) : J X ((.inl none, r)) 0 [(0, .ref 30), (1, .int x1)] [] h := by
  unfold f_X12_wanders at hf
  refine J_aload_n hX 0 dX12_wanders_0 rfl rfl ?_
  obtain ⟨r_1, e_2, hf⟩ := bdE hf
  refine V_1 hX [] dX12_wanders_1 cw_X12_362 ob_30 rfl (C_X12_standing (okG hX) e_2) (ltD hdx rfl) rfl rfl rfl rfl ?_
  refine J_istore_n hX [(2, .int r_1), (0, .ref 30), (1, .int x1)] dX12_wanders_4 rfl rfl rfl ?_
  refine J_aload_n hX 1 dX12_wanders_5 rfl rfl ?_
  refine J_iload_n hX 2 dX12_wanders_6 rfl rfl ?_
  refine J_iconst hX 0 dX12_wanders_7 rfl ?_
  obtain ⟨r_3, e_4, hf⟩ := bdE hf
  refine V_1 hX [.int x1, .int 0] dX12_wanders_8 cw_X12_283 ob_30 rfl (C_X12_ofPerson (okG hX) e_4) (ltD hdx rfl) rfl rfl rfl rfl ?_
  refine J_iconst hX (-1) dX12_wanders_11 rfl ?_
  rcases ifE hf with ⟨c_5, hf⟩ | ⟨c_5, hf⟩
  · refine J_icmp_eqT hX 35 dX12_wanders_12 rfl c_5 ?_
    exact E_Vi hX dX12_wanders_35 hf
  · refine J_icmp_eqF hX 35 dX12_wanders_12 rfl c_5 ?_
    refine J_aload_n hX 1 dX12_wanders_15 rfl rfl ?_
    refine J_bipush hX 100 dX12_wanders_16 rfl ?_
    obtain ⟨r_6, e_7, hf⟩ := bdE hf
    refine V_1 hX [.int 100] dX12_wanders_18 cw_X12_365 ob_30 rfl (C_X12_drawn (okG hX) e_7) (ltD hdx rfl) rfl rfl rfl rfl ?_
    refine J_aload_n hX 1 dX12_wanders_21 rfl rfl ?_
    refine J_getR hX 31 dX12_wanders_22 fl_X12_13 ob_30 rfl rfl ?_
    refine J_bipush hX 6 dX12_wanders_25 rfl ?_
    refine J_ald hX 6 dX12_wanders_27 ar_31 (Or.inl ⟨rfl, rfl⟩) (by decide) (by decide) ?_
    rcases ifE hf with ⟨c_8, hf⟩ | ⟨c_8, hf⟩
    · refine J_icmp_geF hX 35 dX12_wanders_28 rfl c_8 ?_
      refine J_iload_n hX 0 dX12_wanders_31 rfl rfl ?_
      rcases ifE hf with ⟨c_9, hf⟩ | ⟨c_9, hf⟩
      · refine J_if_neF hX 36 dX12_wanders_32 rfl c_9 ?_
        exact E_Vi hX dX12_wanders_35 hf
      · refine J_if_neT hX 36 dX12_wanders_32 rfl c_9 ?_
        refine J_aload_n hX 1 dX12_wanders_36 rfl rfl ?_
        refine J_iload_n hX 0 dX12_wanders_37 rfl rfl ?_
        refine S_1 hX [.int r_1] dX12_wanders_38 cw_X12_368 (C_J6_bitCount_0f7a4 (okG hX) rfl) (ltD hdx rfl) rfl rfl rfl rfl ?_
        obtain ⟨r_10, e_11, hf⟩ := bdE hf
        refine V_1 hX [.int (f_J6_bitCount_0f7a4 r_1 r_6.2)] dX12_wanders_41 cw_X12_365 ob_30 rfl (C_X12_drawn (okG hX) e_11) (ltD hdx rfl) rfl rfl rfl rfl ?_
        refine J_istore_n hX [(3, .int r_10.1), (2, .int r_1), (0, .ref 30), (1, .int x1)] dX12_wanders_44 rfl rfl rfl ?_
        refine J_iconst hX 0 dX12_wanders_45 rfl ?_
        refine J_istore hX [(4, .int 0), (3, .int r_10.1), (2, .int r_1), (0, .ref 30), (1, .int x1)] dX12_wanders_46 rfl rfl ?_
        refine J_sub [3, 4, 2, 1, 0] [(0, .ref 30), (1, .int x1), (2, .int r_1), (3, .int r_10.1), (4, .int 0)] rfl ?_
        exact T_X12_wanders_48 hX hdx x1 r_1 FU r_10.1 0 r_10.2 hf
    · refine J_icmp_geT hX 35 dX12_wanders_28 rfl c_8 ?_
      exact E_Vi hX dX12_wanders_35 hf
set_option maxRecDepth 100000 in
set_option maxHeartbeats 200000 in
theorem C_X12_wanders {G : GX} (hG : GOk G) {x1 : Int32} {h : Hp} {r : Hp} (hf : f_X12_wanders x1 h = some r) : Ctr G 6 yX12_wanders cX12_wanders 5 none [.ref 30, .int x1] h ((.inl none, r)) :=
  Ctr_of hG RX12 rfl (by decide) rfl (fun X _ hdx hX => T_X12_wanders_0 hX hdx x1 h hf)
theorem dX12_ages_0 : decode cX12_ages 0 = .ok (.aload_n 0, 1) := by decide +kernel
theorem dX12_ages_1 : decode cX12_ages 1 = .ok (.iload_n 1, 1) := by decide +kernel
theorem dX12_ages_2 : decode cX12_ages 2 = .ok (.invokevirtual 91, 3) := by decide +kernel
theorem dX12_ages_5 : decode cX12_ages 5 = .ok (.ifCond .eq 4, 3) := by decide +kernel
theorem dX12_ages_8 : decode cX12_ages 8 = .ok (.return_, 1) := by decide +kernel
theorem dX12_ages_9 : decode cX12_ages 9 = .ok (.aload_n 0, 1) := by decide +kernel
theorem dX12_ages_10 : decode cX12_ages 10 = .ok (.getfield 13, 3) := by decide +kernel
theorem dX12_ages_13 : decode cX12_ages 13 = .ok (.iload_n 1, 1) := by decide +kernel
theorem dX12_ages_14 : decode cX12_ages 14 = .ok (.iconst 2, 1) := by decide +kernel
theorem dX12_ages_15 : decode cX12_ages 15 = .ok (.invokestatic 74, 3) := by decide +kernel
theorem dX12_ages_18 : decode cX12_ages 18 = .ok (.bipush 9, 2) := by decide +kernel
theorem dX12_ages_20 : decode cX12_ages 20 = .ok (.aload_n 0, 1) := by decide +kernel
theorem dX12_ages_21 : decode cX12_ages 21 = .ok (.iload_n 1, 1) := by decide +kernel
theorem dX12_ages_22 : decode cX12_ages 22 = .ok (.iconst 2, 1) := by decide +kernel
theorem dX12_ages_23 : decode cX12_ages 23 = .ok (.invokevirtual 84, 3) := by decide +kernel
theorem dX12_ages_26 : decode cX12_ages 26 = .ok (.aload_n 0, 1) := by decide +kernel
theorem dX12_ages_27 : decode cX12_ages 27 = .ok (.iconst 2, 1) := by decide +kernel
theorem dX12_ages_28 : decode cX12_ages 28 = .ok (.iload_n 1, 1) := by decide +kernel
theorem dX12_ages_29 : decode cX12_ages 29 = .ok (.invokevirtual 311, 3) := by decide +kernel
theorem dX12_ages_32 : decode cX12_ages 32 = .ok (.iadd, 1) := by decide +kernel
theorem dX12_ages_33 : decode cX12_ages 33 = .ok (.invokestatic 328, 3) := by decide +kernel
theorem dX12_ages_36 : decode cX12_ages 36 = .ok (.iastore, 1) := by decide +kernel
theorem dX12_ages_37 : decode cX12_ages 37 = .ok (.aload_n 0, 1) := by decide +kernel
theorem dX12_ages_38 : decode cX12_ages 38 = .ok (.getfield 13, 3) := by decide +kernel
theorem dX12_ages_41 : decode cX12_ages 41 = .ok (.iconst 4, 1) := by decide +kernel
theorem dX12_ages_42 : decode cX12_ages 42 = .ok (.iaload, 1) := by decide +kernel
theorem dX12_ages_43 : decode cX12_ages 43 = .ok (.ifCond .ne 26, 3) := by decide +kernel
theorem dX12_ages_46 : decode cX12_ages 46 = .ok (.aload_n 0, 1) := by decide +kernel
theorem dX12_ages_47 : decode cX12_ages 47 = .ok (.getfield 13, 3) := by decide +kernel
theorem dX12_ages_50 : decode cX12_ages 50 = .ok (.iload_n 1, 1) := by decide +kernel
theorem dX12_ages_51 : decode cX12_ages 51 = .ok (.iconst 3, 1) := by decide +kernel
theorem dX12_ages_52 : decode cX12_ages 52 = .ok (.invokestatic 74, 3) := by decide +kernel
theorem dX12_ages_55 : decode cX12_ages 55 = .ok (.bipush 99, 2) := by decide +kernel
theorem dX12_ages_57 : decode cX12_ages 57 = .ok (.aload_n 0, 1) := by decide +kernel
theorem dX12_ages_58 : decode cX12_ages 58 = .ok (.iload_n 1, 1) := by decide +kernel
theorem dX12_ages_59 : decode cX12_ages 59 = .ok (.iconst 3, 1) := by decide +kernel
theorem dX12_ages_60 : decode cX12_ages 60 = .ok (.invokevirtual 84, 3) := by decide +kernel
theorem dX12_ages_63 : decode cX12_ages 63 = .ok (.iconst 1, 1) := by decide +kernel
theorem dX12_ages_64 : decode cX12_ages 64 = .ok (.iadd, 1) := by decide +kernel
theorem dX12_ages_65 : decode cX12_ages 65 = .ok (.invokestatic 328, 3) := by decide +kernel
theorem dX12_ages_68 : decode cX12_ages 68 = .ok (.iastore, 1) := by decide +kernel
theorem dX12_ages_69 : decode cX12_ages 69 = .ok (.return_, 1) := by decide +kernel
set_option maxRecDepth 100000 in
set_option maxHeartbeats 200000 in
theorem T_X12_ages_0 {X : CX} (hX : Ok X cX12_ages 2 RX12 none) (hdx : dX X = 9) {r : Hp} (x1 : Int32) (h : Hp) (hf : f_X12_ages x1 h = some r) : J X ((.inl none, r)) 0 [(0, .ref 30), (1, .int x1)] [] h := by
  unfold f_X12_ages at hf
  refine J_aload_n hX 0 dX12_ages_0 rfl rfl ?_
  refine J_iload_n hX 1 dX12_ages_1 rfl rfl ?_
  obtain ⟨r_1, e_2, hf⟩ := bdE hf
  refine V_1 hX [.int x1] dX12_ages_2 cw_X12_91 ob_30 rfl (C_X12_isFallen (okG hX) e_2) (ltD hdx rfl) rfl rfl rfl rfl ?_
  rcases ifE hf with ⟨c_3, hf⟩ | ⟨c_3, hf⟩
  · refine J_if_eqF hX 9 dX12_ages_5 rfl (b2iT c_3) ?_
    exact E_Vi hX dX12_ages_8 hf
  · refine J_if_eqT hX 9 dX12_ages_5 rfl (b2iF c_3) ?_
    refine J_aload_n hX 0 dX12_ages_9 rfl rfl ?_
    refine J_getR hX 31 dX12_ages_10 fl_X12_13 ob_30 rfl rfl ?_
    refine J_iload_n hX 1 dX12_ages_13 rfl rfl ?_
    refine J_iconst hX 2 dX12_ages_14 rfl ?_
    refine S_1 hX [.int x1, .int 2] dX12_ages_15 cw_X12_74 (C_X12_at (okG hX) rfl) (ltD hdx rfl) rfl rfl rfl rfl ?_
    refine J_bipush hX 9 dX12_ages_18 rfl ?_
    refine J_aload_n hX 0 dX12_ages_20 rfl rfl ?_
    refine J_iload_n hX 1 dX12_ages_21 rfl rfl ?_
    refine J_iconst hX 2 dX12_ages_22 rfl ?_
    obtain ⟨r_4, e_5, hf⟩ := bdE hf
    refine V_1 hX [.int x1, .int 2] dX12_ages_23 cw_X12_84 ob_30 rfl (C_X12_of (okG hX) e_5) (ltD hdx rfl) rfl rfl rfl rfl ?_
    refine J_aload_n hX 0 dX12_ages_26 rfl rfl ?_
    refine J_iconst hX 2 dX12_ages_27 rfl ?_
    refine J_iload_n hX 1 dX12_ages_28 rfl rfl ?_
    obtain ⟨r_6, e_7, hf⟩ := bdE hf
    refine V_1 hX [.int 2, .int x1] dX12_ages_29 cw_X12_311 ob_30 rfl (C_X12_sumOf (okG hX) e_7) (ltD hdx rfl) rfl rfl rfl rfl ?_
    refine J_iadd hX dX12_ages_32 ?_
    refine J_min hX dX12_ages_33 mw_X12_328 (ltD hdx rfl) rfl ?_
    obtain ⟨g_8, hf⟩ := gdE hf
    obtain ⟨h_9, e_10, hf⟩ := bndE hf
    refine J_ast hX ((f_X12_at x1 2 h).toNatClampNeg) (imin 9 (r_4 + r_6.1)) dX12_ages_36 ar_31 (Or.inl ⟨rfl, rfl, rfl⟩) g_8 rfl ?_
    refine J_nmh e_10 ?_
    refine J_aload_n hX 0 dX12_ages_37 rfl rfl ?_
    refine J_getR hX 31 dX12_ages_38 fl_X12_13 ob_30 rfl rfl ?_
    refine J_iconst hX 4 dX12_ages_41 rfl ?_
    refine J_ald hX 4 dX12_ages_42 ar_31 (Or.inl ⟨rfl, rfl⟩) (by decide) (by decide) ?_
    rcases ifE hf with ⟨c_11, hf⟩ | ⟨c_11, hf⟩
    · refine J_if_neF hX 69 dX12_ages_43 rfl c_11 ?_
      refine J_aload_n hX 0 dX12_ages_46 rfl rfl ?_
      refine J_getR hX 31 dX12_ages_47 fl_X12_13 ob_30 rfl rfl ?_
      refine J_iload_n hX 1 dX12_ages_50 rfl rfl ?_
      refine J_iconst hX 3 dX12_ages_51 rfl ?_
      refine S_1 hX [.int x1, .int 3] dX12_ages_52 cw_X12_74 (C_X12_at (okG hX) rfl) (ltD hdx rfl) rfl rfl rfl rfl ?_
      refine J_bipush hX 99 dX12_ages_55 rfl ?_
      refine J_aload_n hX 0 dX12_ages_57 rfl rfl ?_
      refine J_iload_n hX 1 dX12_ages_58 rfl rfl ?_
      refine J_iconst hX 3 dX12_ages_59 rfl ?_
      obtain ⟨r_12, e_13, hf⟩ := bdE hf
      refine V_1 hX [.int x1, .int 3] dX12_ages_60 cw_X12_84 ob_30 rfl (C_X12_of (okG hX) e_13) (ltD hdx rfl) rfl rfl rfl rfl ?_
      refine J_iconst hX 1 dX12_ages_63 rfl ?_
      refine J_iadd hX dX12_ages_64 ?_
      refine J_min hX dX12_ages_65 mw_X12_328 (ltD hdx rfl) rfl ?_
      obtain ⟨g_14, hf⟩ := gdE hf
      obtain ⟨h_15, e_16, hf⟩ := bndE hf
      refine J_ast hX ((f_X12_at x1 3 h_9).toNatClampNeg) (imin 99 (r_12 + 1)) dX12_ages_68 ar_31 (Or.inl ⟨rfl, rfl, rfl⟩) g_14 rfl ?_
      refine J_nmh e_16 ?_
      exact E_Vi hX dX12_ages_69 hf
    · refine J_if_neT hX 69 dX12_ages_43 rfl c_11 ?_
      exact E_Vi hX dX12_ages_69 hf
set_option maxRecDepth 100000 in
set_option maxHeartbeats 200000 in
theorem C_X12_ages {G : GX} (hG : GOk G) {x1 : Int32} {h : Hp} {r : Hp} (hf : f_X12_ages x1 h = some r) : Ctr G 9 yX12_ages cX12_ages 2 none [.ref 30, .int x1] h ((.inl none, r)) :=
  Ctr_of hG RX12 rfl (by decide) rfl (fun X _ hdx hX => T_X12_ages_0 hX hdx x1 h hf)
theorem dX12_oneEvening_0 : decode cX12_oneEvening 0 = .ok (.aload_n 0, 1) := by decide +kernel
theorem dX12_oneEvening_1 : decode cX12_oneEvening 1 = .ok (.aload_n 0, 1) := by decide +kernel
theorem dX12_oneEvening_2 : decode cX12_oneEvening 2 = .ok (.getfield 13, 3) := by decide +kernel
theorem dX12_oneEvening_5 : decode cX12_oneEvening 5 = .ok (.iconst 4, 1) := by decide +kernel
theorem dX12_oneEvening_6 : decode cX12_oneEvening 6 = .ok (.iaload, 1) := by decide +kernel
theorem dX12_oneEvening_7 : decode cX12_oneEvening 7 = .ok (.invokevirtual 350, 3) := by decide +kernel
theorem dX12_oneEvening_10 : decode cX12_oneEvening 10 = .ok (.istore_n 2, 1) := by decide +kernel
theorem dX12_oneEvening_11 : decode cX12_oneEvening 11 = .ok (.aload_n 0, 1) := by decide +kernel
theorem dX12_oneEvening_12 : decode cX12_oneEvening 12 = .ok (.invokevirtual 347, 3) := by decide +kernel
theorem dX12_oneEvening_15 : decode cX12_oneEvening 15 = .ok (.iconst 0, 1) := by decide +kernel
theorem dX12_oneEvening_16 : decode cX12_oneEvening 16 = .ok (.istore_n 3, 1) := by decide +kernel
theorem dX12_oneEvening_17 : decode cX12_oneEvening 17 = .ok (.iload_n 3, 1) := by decide +kernel
theorem dX12_oneEvening_18 : decode cX12_oneEvening 18 = .ok (.aload_n 0, 1) := by decide +kernel
theorem dX12_oneEvening_19 : decode cX12_oneEvening 19 = .ok (.invokevirtual 87, 3) := by decide +kernel
theorem dX12_oneEvening_22 : decode cX12_oneEvening 22 = .ok (.if_icmp .ge 14, 3) := by decide +kernel
theorem dX12_oneEvening_25 : decode cX12_oneEvening 25 = .ok (.aload_n 0, 1) := by decide +kernel
theorem dX12_oneEvening_26 : decode cX12_oneEvening 26 = .ok (.iload_n 3, 1) := by decide +kernel
theorem dX12_oneEvening_27 : decode cX12_oneEvening 27 = .ok (.invokevirtual 373, 3) := by decide +kernel
theorem dX12_oneEvening_30 : decode cX12_oneEvening 30 = .ok (.iinc 3 1, 3) := by decide +kernel
theorem dX12_oneEvening_33 : decode cX12_oneEvening 33 = .ok (.goto (-16), 3) := by decide +kernel
theorem dX12_oneEvening_36 : decode cX12_oneEvening 36 = .ok (.iconst 0, 1) := by decide +kernel
theorem dX12_oneEvening_37 : decode cX12_oneEvening 37 = .ok (.istore_n 3, 1) := by decide +kernel
theorem dX12_oneEvening_38 : decode cX12_oneEvening 38 = .ok (.iload_n 3, 1) := by decide +kernel
theorem dX12_oneEvening_39 : decode cX12_oneEvening 39 = .ok (.aload_n 0, 1) := by decide +kernel
theorem dX12_oneEvening_40 : decode cX12_oneEvening 40 = .ok (.invokevirtual 99, 3) := by decide +kernel
theorem dX12_oneEvening_43 : decode cX12_oneEvening 43 = .ok (.if_icmp .ge 18, 3) := by decide +kernel
theorem dX12_oneEvening_46 : decode cX12_oneEvening 46 = .ok (.iload_n 1, 1) := by decide +kernel
theorem dX12_oneEvening_47 : decode cX12_oneEvening 47 = .ok (.ifCond .ne 14, 3) := by decide +kernel
theorem dX12_oneEvening_50 : decode cX12_oneEvening 50 = .ok (.aload_n 0, 1) := by decide +kernel
theorem dX12_oneEvening_51 : decode cX12_oneEvening 51 = .ok (.iload_n 3, 1) := by decide +kernel
theorem dX12_oneEvening_52 : decode cX12_oneEvening 52 = .ok (.invokevirtual 376, 3) := by decide +kernel
theorem dX12_oneEvening_55 : decode cX12_oneEvening 55 = .ok (.iinc 3 1, 3) := by decide +kernel
theorem dX12_oneEvening_58 : decode cX12_oneEvening 58 = .ok (.goto (-20), 3) := by decide +kernel
theorem dX12_oneEvening_61 : decode cX12_oneEvening 61 = .ok (.aload_n 0, 1) := by decide +kernel
theorem dX12_oneEvening_62 : decode cX12_oneEvening 62 = .ok (.getfield 13, 3) := by decide +kernel
theorem dX12_oneEvening_65 : decode cX12_oneEvening 65 = .ok (.iconst 4, 1) := by decide +kernel
theorem dX12_oneEvening_66 : decode cX12_oneEvening 66 = .ok (.dup2, 1) := by decide +kernel
theorem dX12_oneEvening_67 : decode cX12_oneEvening 67 = .ok (.iaload, 1) := by decide +kernel
theorem dX12_oneEvening_68 : decode cX12_oneEvening 68 = .ok (.iconst 1, 1) := by decide +kernel
theorem dX12_oneEvening_69 : decode cX12_oneEvening 69 = .ok (.iadd, 1) := by decide +kernel
theorem dX12_oneEvening_70 : decode cX12_oneEvening 70 = .ok (.iastore, 1) := by decide +kernel
theorem dX12_oneEvening_71 : decode cX12_oneEvening 71 = .ok (.aload_n 0, 1) := by decide +kernel
theorem dX12_oneEvening_72 : decode cX12_oneEvening 72 = .ok (.getfield 13, 3) := by decide +kernel
theorem dX12_oneEvening_75 : decode cX12_oneEvening 75 = .ok (.iconst 4, 1) := by decide +kernel
theorem dX12_oneEvening_76 : decode cX12_oneEvening 76 = .ok (.iaload, 1) := by decide +kernel
theorem dX12_oneEvening_77 : decode cX12_oneEvening 77 = .ok (.bipush 7, 2) := by decide +kernel
theorem dX12_oneEvening_79 : decode cX12_oneEvening 79 = .ok (.if_icmp .ne 30, 3) := by decide +kernel
theorem dX12_oneEvening_82 : decode cX12_oneEvening 82 = .ok (.aload_n 0, 1) := by decide +kernel
theorem dX12_oneEvening_83 : decode cX12_oneEvening 83 = .ok (.getfield 13, 3) := by decide +kernel
theorem dX12_oneEvening_86 : decode cX12_oneEvening 86 = .ok (.iconst 4, 1) := by decide +kernel
theorem dX12_oneEvening_87 : decode cX12_oneEvening 87 = .ok (.iconst 0, 1) := by decide +kernel
theorem dX12_oneEvening_88 : decode cX12_oneEvening 88 = .ok (.iastore, 1) := by decide +kernel
theorem dX12_oneEvening_89 : decode cX12_oneEvening 89 = .ok (.aload_n 0, 1) := by decide +kernel
theorem dX12_oneEvening_90 : decode cX12_oneEvening 90 = .ok (.getfield 13, 3) := by decide +kernel
theorem dX12_oneEvening_93 : decode cX12_oneEvening 93 = .ok (.iconst 5, 1) := by decide +kernel
theorem dX12_oneEvening_94 : decode cX12_oneEvening 94 = .ok (.sipush 9999, 3) := by decide +kernel
theorem dX12_oneEvening_97 : decode cX12_oneEvening 97 = .ok (.aload_n 0, 1) := by decide +kernel
theorem dX12_oneEvening_98 : decode cX12_oneEvening 98 = .ok (.getfield 13, 3) := by decide +kernel
theorem dX12_oneEvening_101 : decode cX12_oneEvening 101 = .ok (.iconst 5, 1) := by decide +kernel
theorem dX12_oneEvening_102 : decode cX12_oneEvening 102 = .ok (.iaload, 1) := by decide +kernel
theorem dX12_oneEvening_103 : decode cX12_oneEvening 103 = .ok (.iconst 1, 1) := by decide +kernel
theorem dX12_oneEvening_104 : decode cX12_oneEvening 104 = .ok (.iadd, 1) := by decide +kernel
theorem dX12_oneEvening_105 : decode cX12_oneEvening 105 = .ok (.invokestatic 328, 3) := by decide +kernel
theorem dX12_oneEvening_108 : decode cX12_oneEvening 108 = .ok (.iastore, 1) := by decide +kernel
theorem dX12_oneEvening_109 : decode cX12_oneEvening 109 = .ok (.iload_n 2, 1) := by decide +kernel
theorem dX12_oneEvening_110 : decode cX12_oneEvening 110 = .ok (.invokestatic 368, 3) := by decide +kernel
theorem dX12_oneEvening_113 : decode cX12_oneEvening 113 = .ok (.ireturn, 1) := by decide +kernel
set_option maxRecDepth 100000 in
set_option maxHeartbeats 200000 in
theorem T_X12_oneEvening_109 {X : CX} (hX : Ok X cX12_oneEvening 4 RX12 (some .int)) (hdx : dX X = 13) {r : Int32 × Hp} (x2 : Int32) (h : Hp) (hf : F_X12_oneEvening_109 x2 h = some r) : J X ((.inl (some (.int r.1)), r.2)) 109 [(2, .int x2)] [] h := by
  unfold F_X12_oneEvening_109 at hf
  refine J_iload_n hX 0 dX12_oneEvening_109 rfl rfl ?_
  refine S_1 hX [.int x2] dX12_oneEvening_110 cw_X12_368 (C_J6_bitCount_0f7a4 (okG hX) rfl) (ltD hdx rfl) rfl rfl rfl rfl ?_
  exact E_Ii hX dX12_oneEvening_113 hf
set_option maxRecDepth 100000 in
set_option maxHeartbeats 200000 in
theorem T_X12_oneEvening_61 {X : CX} (hX : Ok X cX12_oneEvening 4 RX12 (some .int)) (hdx : dX X = 13) {r : Int32 × Hp} (x2 : Int32) (h : Hp) (hf : F_X12_oneEvening_61 x2 h = some r) : J X ((.inl (some (.int r.1)), r.2)) 61 [(0, .ref 30), (2, .int x2)] [] h := by
  unfold F_X12_oneEvening_61 at hf
  refine J_aload_n hX 0 dX12_oneEvening_61 rfl rfl ?_
  refine J_getR hX 31 dX12_oneEvening_62 fl_X12_13 ob_30 rfl rfl ?_
  refine J_iconst hX 4 dX12_oneEvening_65 rfl ?_
  refine J_dup2 hX dX12_oneEvening_66 rfl rfl ?_
  refine J_ald hX 4 dX12_oneEvening_67 ar_31 (Or.inl ⟨rfl, rfl⟩) (by decide) (by decide) ?_
  refine J_iconst hX 1 dX12_oneEvening_68 rfl ?_
  refine J_iadd hX dX12_oneEvening_69 ?_
  obtain ⟨h_1, e_2, hf⟩ := bndE hf
  refine J_ast hX 4 ((h 31 4) + 1) dX12_oneEvening_70 ar_31 (Or.inl ⟨rfl, rfl, rfl⟩) (by decide) (by decide) ?_
  refine J_nmh e_2 ?_
  refine J_aload_n hX 0 dX12_oneEvening_71 rfl rfl ?_
  refine J_getR hX 31 dX12_oneEvening_72 fl_X12_13 ob_30 rfl rfl ?_
  refine J_iconst hX 4 dX12_oneEvening_75 rfl ?_
  refine J_ald hX 4 dX12_oneEvening_76 ar_31 (Or.inl ⟨rfl, rfl⟩) (by decide) (by decide) ?_
  refine J_bipush hX 7 dX12_oneEvening_77 rfl ?_
  rcases ifE hf with ⟨c_3, hf⟩ | ⟨c_3, hf⟩
  · refine J_icmp_neF hX 109 dX12_oneEvening_79 rfl c_3 ?_
    refine J_aload_n hX 0 dX12_oneEvening_82 rfl rfl ?_
    refine J_getR hX 31 dX12_oneEvening_83 fl_X12_13 ob_30 rfl rfl ?_
    refine J_iconst hX 4 dX12_oneEvening_86 rfl ?_
    refine J_iconst hX 0 dX12_oneEvening_87 rfl ?_
    obtain ⟨h_4, e_5, hf⟩ := bndE hf
    refine J_ast hX 4 0 dX12_oneEvening_88 ar_31 (Or.inl ⟨rfl, rfl, rfl⟩) (by decide) (by decide) ?_
    refine J_nmh e_5 ?_
    refine J_aload_n hX 0 dX12_oneEvening_89 rfl rfl ?_
    refine J_getR hX 31 dX12_oneEvening_90 fl_X12_13 ob_30 rfl rfl ?_
    refine J_iconst hX 5 dX12_oneEvening_93 rfl ?_
    refine J_sipush hX 9999 dX12_oneEvening_94 rfl ?_
    refine J_aload_n hX 0 dX12_oneEvening_97 rfl rfl ?_
    refine J_getR hX 31 dX12_oneEvening_98 fl_X12_13 ob_30 rfl rfl ?_
    refine J_iconst hX 5 dX12_oneEvening_101 rfl ?_
    refine J_ald hX 5 dX12_oneEvening_102 ar_31 (Or.inl ⟨rfl, rfl⟩) (by decide) (by decide) ?_
    refine J_iconst hX 1 dX12_oneEvening_103 rfl ?_
    refine J_iadd hX dX12_oneEvening_104 ?_
    refine J_min hX dX12_oneEvening_105 mw_X12_328 (ltD hdx rfl) rfl ?_
    obtain ⟨h_6, e_7, hf⟩ := bndE hf
    refine J_ast hX 5 (imin 9999 ((h_4 31 5) + 1)) dX12_oneEvening_108 ar_31 (Or.inl ⟨rfl, rfl, rfl⟩) (by decide) (by decide) ?_
    refine J_nmh e_7 ?_
    refine J_sub [1] [(2, .int x2)] rfl ?_
    exact T_X12_oneEvening_109 hX hdx x2 h_6 hf
  · refine J_icmp_neT hX 109 dX12_oneEvening_79 rfl c_3 ?_
    refine J_sub [1] [(2, .int x2)] rfl ?_
    exact T_X12_oneEvening_109 hX hdx x2 h_1 hf
set_option maxRecDepth 100000 in
set_option maxHeartbeats 200000 in
theorem T_X12_oneEvening_38_s {X : CX} (hX : Ok X cX12_oneEvening 4 RX12 (some .int)) (hdx : dX X = 13) {r : Int32 × Hp} (x1 : Int32) (x2 : Int32) (q_38 : Int32 → Hp → Option (Int32 × Hp)) (hq_38 : ∀ (x3 : Int32) (h : Hp), q_38 x3 h = some r → J X ((.inl (some (.int r.1)), r.2)) 38 [(0, .ref 30), (1, .int x1), (2, .int x2), (3, .int x3)] [] h) (x3 : Int32) (h : Hp) (hf : S_X12_oneEvening_38 x1 x2 q_38 x3 h = some r) : J X ((.inl (some (.int r.1)), r.2)) 38 [(0, .ref 30), (1, .int x1), (2, .int x2), (3, .int x3)] [] h := by
  unfold S_X12_oneEvening_38 at hf
  refine J_iload_n hX 3 dX12_oneEvening_38 rfl rfl ?_
  refine J_aload_n hX 0 dX12_oneEvening_39 rfl rfl ?_
  refine V_1 hX [] dX12_oneEvening_40 cw_X12_99 ob_30 rfl (C_X12_people (okG hX) rfl) (ltD hdx rfl) rfl rfl rfl rfl ?_
  rcases ifE hf with ⟨c_1, hf⟩ | ⟨c_1, hf⟩
  · refine J_icmp_geF hX 61 dX12_oneEvening_43 rfl c_1 ?_
    refine J_iload_n hX 1 dX12_oneEvening_46 rfl rfl ?_
    rcases ifE hf with ⟨c_2, hf⟩ | ⟨c_2, hf⟩
    · refine J_if_neF hX 61 dX12_oneEvening_47 rfl c_2 ?_
      refine J_aload_n hX 0 dX12_oneEvening_50 rfl rfl ?_
      refine J_iload_n hX 3 dX12_oneEvening_51 rfl rfl ?_
      obtain ⟨r_3, e_4, hf⟩ := bdE hf
      refine V_0 hX [.int x3] dX12_oneEvening_52 cw_X12_376 ob_30 rfl (C_X12_wanders (okG hX) e_4) (ltD hdx rfl) rfl rfl rfl rfl ?_
      refine J_iinc hX (x3 + 1) 3 [(3, .int (x3 + 1)), (0, .ref 30), (1, .int x1), (2, .int x2)] dX12_oneEvening_55 rfl rfl rfl rfl ?_
      refine J_goto hX 38 dX12_oneEvening_58 rfl ?_
      refine J_sub [1, 2, 3, 0] [(0, .ref 30), (1, .int x1), (2, .int x2), (3, .int (x3 + 1))] rfl ?_
      exact hq_38 (x3 + 1) r_3 hf
    · refine J_if_neT hX 61 dX12_oneEvening_47 rfl c_2 ?_
      refine J_sub [0, 2] [(0, .ref 30), (2, .int x2)] rfl ?_
      exact T_X12_oneEvening_61 hX hdx x2 h hf
  · refine J_icmp_geT hX 61 dX12_oneEvening_43 rfl c_1 ?_
    refine J_sub [0, 2] [(0, .ref 30), (2, .int x2)] rfl ?_
    exact T_X12_oneEvening_61 hX hdx x2 h hf
set_option maxRecDepth 100000 in
set_option maxHeartbeats 200000 in
theorem T_X12_oneEvening_38 {X : CX} (hX : Ok X cX12_oneEvening 4 RX12 (some .int)) (hdx : dX X = 13) {r : Int32 × Hp} (x1 : Int32) (x2 : Int32) : ∀ (n : Nat) (x3 : Int32) (h : Hp), F_X12_oneEvening_38 x1 x2 n x3 h = some r → J X ((.inl (some (.int r.1)), r.2)) 38 [(0, .ref 30), (1, .int x1), (2, .int x2), (3, .int x3)] [] h := by
  intro n
  induction n with
  | zero => intro x3 h hf; exact nomatch hf
  | succ n ih => intro x3 h hf; exact T_X12_oneEvening_38_s hX hdx x1 x2 _ (fun x3 h hf => ih x3 h hf) x3 h hf
set_option maxRecDepth 100000 in
set_option maxHeartbeats 200000 in
theorem T_X12_oneEvening_17_s {X : CX} (hX : Ok X cX12_oneEvening 4 RX12 (some .int)) (hdx : dX X = 13) {r : Int32 × Hp} (x1 : Int32) (x2 : Int32) (q_17 : Int32 → Hp → Option (Int32 × Hp)) (hq_17 : ∀ (x3 : Int32) (h : Hp), q_17 x3 h = some r → J X ((.inl (some (.int r.1)), r.2)) 17 [(0, .ref 30), (1, .int x1), (2, .int x2), (3, .int x3)] [] h) (x3 : Int32) (h : Hp) (hf : S_X12_oneEvening_17 x1 x2 q_17 x3 h = some r) : J X ((.inl (some (.int r.1)), r.2)) 17 [(0, .ref 30), (1, .int x1), (2, .int x2), (3, .int x3)] [] h := by
  unfold S_X12_oneEvening_17 at hf
  refine J_iload_n hX 3 dX12_oneEvening_17 rfl rfl ?_
  refine J_aload_n hX 0 dX12_oneEvening_18 rfl rfl ?_
  refine V_1 hX [] dX12_oneEvening_19 cw_X12_87 ob_30 rfl (C_X12_houses (okG hX) rfl) (ltD hdx rfl) rfl rfl rfl rfl ?_
  rcases ifE hf with ⟨c_1, hf⟩ | ⟨c_1, hf⟩
  · refine J_icmp_geF hX 36 dX12_oneEvening_22 rfl c_1 ?_
    refine J_aload_n hX 0 dX12_oneEvening_25 rfl rfl ?_
    refine J_iload_n hX 3 dX12_oneEvening_26 rfl rfl ?_
    obtain ⟨r_2, e_3, hf⟩ := bdE hf
    refine V_0 hX [.int x3] dX12_oneEvening_27 cw_X12_373 ob_30 rfl (C_X12_ages (okG hX) e_3) (ltD hdx rfl) rfl rfl rfl rfl ?_
    refine J_iinc hX (x3 + 1) 3 [(3, .int (x3 + 1)), (0, .ref 30), (1, .int x1), (2, .int x2)] dX12_oneEvening_30 rfl rfl rfl rfl ?_
    refine J_goto hX 17 dX12_oneEvening_33 rfl ?_
    refine J_sub [1, 2, 3, 0] [(0, .ref 30), (1, .int x1), (2, .int x2), (3, .int (x3 + 1))] rfl ?_
    exact hq_17 (x3 + 1) r_2 hf
  · refine J_icmp_geT hX 36 dX12_oneEvening_22 rfl c_1 ?_
    refine J_iconst hX 0 dX12_oneEvening_36 rfl ?_
    refine J_istore_n hX [(3, .int 0), (0, .ref 30), (1, .int x1), (2, .int x2)] dX12_oneEvening_37 rfl rfl rfl ?_
    refine J_sub [1, 2, 3, 0] [(0, .ref 30), (1, .int x1), (2, .int x2), (3, .int 0)] rfl ?_
    exact T_X12_oneEvening_38 hX hdx x1 x2 FU 0 h hf
set_option maxRecDepth 100000 in
set_option maxHeartbeats 200000 in
theorem T_X12_oneEvening_17 {X : CX} (hX : Ok X cX12_oneEvening 4 RX12 (some .int)) (hdx : dX X = 13) {r : Int32 × Hp} (x1 : Int32) (x2 : Int32) : ∀ (n : Nat) (x3 : Int32) (h : Hp), F_X12_oneEvening_17 x1 x2 n x3 h = some r → J X ((.inl (some (.int r.1)), r.2)) 17 [(0, .ref 30), (1, .int x1), (2, .int x2), (3, .int x3)] [] h := by
  intro n
  induction n with
  | zero => intro x3 h hf; exact nomatch hf
  | succ n ih => intro x3 h hf; exact T_X12_oneEvening_17_s hX hdx x1 x2 _ (fun x3 h hf => ih x3 h hf) x3 h hf
set_option maxRecDepth 100000 in
set_option maxHeartbeats 200000 in
theorem T_X12_oneEvening_0 {X : CX} (hX : Ok X cX12_oneEvening 4 RX12 (some .int)) (hdx : dX X = 13) {r : Int32 × Hp} (x1 : Int32) (h : Hp) (hf : f_X12_oneEvening x1 h = some r) : J X ((.inl (some (.int r.1)), r.2)) 0 [(0, .ref 30), (1, .int x1)] [] h := by
  unfold f_X12_oneEvening at hf
  refine J_aload_n hX 0 dX12_oneEvening_0 rfl rfl ?_
  refine J_aload_n hX 0 dX12_oneEvening_1 rfl rfl ?_
  refine J_getR hX 31 dX12_oneEvening_2 fl_X12_13 ob_30 rfl rfl ?_
  refine J_iconst hX 4 dX12_oneEvening_5 rfl ?_
  refine J_ald hX 4 dX12_oneEvening_6 ar_31 (Or.inl ⟨rfl, rfl⟩) (by decide) (by decide) ?_
  obtain ⟨r_1, e_2, hf⟩ := bdE hf
  refine V_1 hX [.int (h 31 4)] dX12_oneEvening_7 cw_X12_350 ob_30 rfl (C_X12_allFall (okG hX) e_2) (ltD hdx rfl) rfl rfl rfl rfl ?_
  refine J_istore_n hX [(2, .int r_1.1), (0, .ref 30), (1, .int x1)] dX12_oneEvening_10 rfl rfl rfl ?_
  refine J_aload_n hX 1 dX12_oneEvening_11 rfl rfl ?_
  obtain ⟨r_3, e_4, hf⟩ := bdE hf
  refine V_0 hX [] dX12_oneEvening_12 cw_X12_347 ob_30 rfl (C_X12_lays (okG hX) e_4) (ltD hdx rfl) rfl rfl rfl rfl ?_
  refine J_iconst hX 0 dX12_oneEvening_15 rfl ?_
  refine J_istore_n hX [(3, .int 0), (2, .int r_1.1), (0, .ref 30), (1, .int x1)] dX12_oneEvening_16 rfl rfl rfl ?_
  refine J_sub [2, 3, 1, 0] [(0, .ref 30), (1, .int x1), (2, .int r_1.1), (3, .int 0)] rfl ?_
  exact T_X12_oneEvening_17 hX hdx x1 r_1.1 FU 0 r_3 hf
set_option maxRecDepth 100000 in
set_option maxHeartbeats 200000 in
theorem C_X12_oneEvening {G : GX} (hG : GOk G) {x1 : Int32} {h : Hp} {r : Int32 × Hp} (hf : f_X12_oneEvening x1 h = some r) : Ctr G 13 yX12_oneEvening cX12_oneEvening 4 (some .int) [.ref 30, .int x1] h ((.inl (some (.int r.1)), r.2)) :=
  Ctr_of hG RX12 rfl (by decide) rfl (fun X _ hdx hX => T_X12_oneEvening_0 hX hdx x1 h hf)
theorem dX12_goesOn_0 : decode cX12_goesOn 0 = .ok (.iconst 0, 1) := by decide +kernel
theorem dX12_goesOn_1 : decode cX12_goesOn 1 = .ok (.istore_n 3, 1) := by decide +kernel
theorem dX12_goesOn_2 : decode cX12_goesOn 2 = .ok (.iconst 0, 1) := by decide +kernel
theorem dX12_goesOn_3 : decode cX12_goesOn 3 = .ok (.istore 4, 2) := by decide +kernel
theorem dX12_goesOn_5 : decode cX12_goesOn 5 = .ok (.iload 4, 2) := by decide +kernel
theorem dX12_goesOn_7 : decode cX12_goesOn 7 = .ok (.iload_n 1, 1) := by decide +kernel
theorem dX12_goesOn_8 : decode cX12_goesOn 8 = .ok (.if_icmp .ge 17, 3) := by decide +kernel
theorem dX12_goesOn_11 : decode cX12_goesOn 11 = .ok (.iload_n 3, 1) := by decide +kernel
theorem dX12_goesOn_12 : decode cX12_goesOn 12 = .ok (.aload_n 0, 1) := by decide +kernel
theorem dX12_goesOn_13 : decode cX12_goesOn 13 = .ok (.iload_n 2, 1) := by decide +kernel
theorem dX12_goesOn_14 : decode cX12_goesOn 14 = .ok (.invokevirtual 379, 3) := by decide +kernel
theorem dX12_goesOn_17 : decode cX12_goesOn 17 = .ok (.iadd, 1) := by decide +kernel
theorem dX12_goesOn_18 : decode cX12_goesOn 18 = .ok (.istore_n 3, 1) := by decide +kernel
theorem dX12_goesOn_19 : decode cX12_goesOn 19 = .ok (.iinc 4 1, 3) := by decide +kernel
theorem dX12_goesOn_22 : decode cX12_goesOn 22 = .ok (.goto (-17), 3) := by decide +kernel
theorem dX12_goesOn_25 : decode cX12_goesOn 25 = .ok (.iload_n 3, 1) := by decide +kernel
theorem dX12_goesOn_26 : decode cX12_goesOn 26 = .ok (.ireturn, 1) := by decide +kernel
set_option maxRecDepth 100000 in
set_option maxHeartbeats 200000 in
theorem T_X12_goesOn_5_s {X : CX} (hX : Ok X cX12_goesOn 5 RX12 (some .int)) (hdx : dX X = 14) {r : Int32 × Hp} (x1 : Int32) (x2 : Int32) (q_5 : Int32 → Int32 → Hp → Option (Int32 × Hp)) (hq_5 : ∀ (x3 : Int32) (x4 : Int32) (h : Hp), q_5 x3 x4 h = some r → J X ((.inl (some (.int r.1)), r.2)) 5 [(0, .ref 30), (1, .int x1), (2, .int x2), (3, .int x3), (4, .int x4)] [] h) (x3 : Int32) (x4 : Int32) (h : Hp) (hf : S_X12_goesOn_5 x1 x2 q_5 x3 x4 h = some r) : J X ((.inl (some (.int r.1)), r.2)) 5 [(0, .ref 30), (1, .int x1), (2, .int x2), (3, .int x3), (4, .int x4)] [] h := by
  unfold S_X12_goesOn_5 at hf
  refine J_iload hX 4 dX12_goesOn_5 rfl ?_
  refine J_iload_n hX 1 dX12_goesOn_7 rfl rfl ?_
  rcases ifE hf with ⟨c_1, hf⟩ | ⟨c_1, hf⟩
  · refine J_icmp_geF hX 25 dX12_goesOn_8 rfl c_1 ?_
    refine J_iload_n hX 3 dX12_goesOn_11 rfl rfl ?_
    refine J_aload_n hX 0 dX12_goesOn_12 rfl rfl ?_
    refine J_iload_n hX 2 dX12_goesOn_13 rfl rfl ?_
    obtain ⟨r_2, e_3, hf⟩ := bdE hf
    refine V_1 hX [.int x2] dX12_goesOn_14 cw_X12_379 ob_30 rfl (C_X12_oneEvening (okG hX) e_3) (ltD hdx rfl) rfl rfl rfl rfl ?_
    refine J_iadd hX dX12_goesOn_17 ?_
    obtain ⟨x3_4, e_5, hf⟩ := bndE hf
    refine J_nm e_5 ?_
    refine J_istore_n hX [(3, .int x3_4), (0, .ref 30), (1, .int x1), (2, .int x2), (4, .int x4)] dX12_goesOn_18 rfl rfl rfl ?_
    refine J_iinc hX (x4 + 1) 4 [(4, .int (x4 + 1)), (3, .int x3_4), (0, .ref 30), (1, .int x1), (2, .int x2)] dX12_goesOn_19 rfl rfl rfl rfl ?_
    refine J_goto hX 5 dX12_goesOn_22 rfl ?_
    refine J_sub [2, 3, 4, 1, 0] [(0, .ref 30), (1, .int x1), (2, .int x2), (3, .int x3_4), (4, .int (x4 + 1))] rfl ?_
    exact hq_5 x3_4 (x4 + 1) r_2.2 hf
  · refine J_icmp_geT hX 25 dX12_goesOn_8 rfl c_1 ?_
    refine J_iload_n hX 3 dX12_goesOn_25 rfl rfl ?_
    exact E_Ii hX dX12_goesOn_26 hf
set_option maxRecDepth 100000 in
set_option maxHeartbeats 200000 in
theorem T_X12_goesOn_5 {X : CX} (hX : Ok X cX12_goesOn 5 RX12 (some .int)) (hdx : dX X = 14) {r : Int32 × Hp} (x1 : Int32) (x2 : Int32) : ∀ (n : Nat) (x3 : Int32) (x4 : Int32) (h : Hp), F_X12_goesOn_5 x1 x2 n x3 x4 h = some r → J X ((.inl (some (.int r.1)), r.2)) 5 [(0, .ref 30), (1, .int x1), (2, .int x2), (3, .int x3), (4, .int x4)] [] h := by
  intro n
  induction n with
  | zero => intro x3 x4 h hf; exact nomatch hf
  | succ n ih => intro x3 x4 h hf; exact T_X12_goesOn_5_s hX hdx x1 x2 _ (fun x3 x4 h hf => ih x3 x4 h hf) x3 x4 h hf
set_option maxRecDepth 100000 in
set_option maxHeartbeats 200000 in
theorem T_X12_goesOn_0 {X : CX} (hX : Ok X cX12_goesOn 5 RX12 (some .int)) (hdx : dX X = 14) {r : Int32 × Hp} (x1 : Int32) (x2 : Int32) (h : Hp) (hf : f_X12_goesOn x1 x2 h = some r) : J X ((.inl (some (.int r.1)), r.2)) 0 [(0, .ref 30), (1, .int x1), (2, .int x2)] [] h := by
  unfold f_X12_goesOn at hf
  refine J_iconst hX 0 dX12_goesOn_0 rfl ?_
  refine J_istore_n hX [(3, .int 0), (0, .ref 30), (1, .int x1), (2, .int x2)] dX12_goesOn_1 rfl rfl rfl ?_
  refine J_iconst hX 0 dX12_goesOn_2 rfl ?_
  refine J_istore hX [(4, .int 0), (3, .int 0), (0, .ref 30), (1, .int x1), (2, .int x2)] dX12_goesOn_3 rfl rfl ?_
  refine J_sub [2, 3, 4, 1, 0] [(0, .ref 30), (1, .int x1), (2, .int x2), (3, .int 0), (4, .int 0)] rfl ?_
  exact T_X12_goesOn_5 hX hdx x1 x2 FU 0 0 h hf
set_option maxRecDepth 100000 in
set_option maxHeartbeats 200000 in
theorem C_X12_goesOn {G : GX} (hG : GOk G) {x1 : Int32} {x2 : Int32} {h : Hp} {r : Int32 × Hp} (hf : f_X12_goesOn x1 x2 h = some r) : Ctr G 14 yX12_goesOn cX12_goesOn 5 (some .int) [.ref 30, .int x1, .int x2] h ((.inl (some (.int r.1)), r.2)) :=
  Ctr_of hG RX12 rfl (by decide) rfl (fun X _ hdx hX => T_X12_goesOn_0 hX hdx x1 x2 h hf)
theorem dX12_evenings_0 : decode cX12_evenings 0 = .ok (.aload_n 0, 1) := by decide +kernel
theorem dX12_evenings_1 : decode cX12_evenings 1 = .ok (.iconst 0, 1) := by decide +kernel
theorem dX12_evenings_2 : decode cX12_evenings 2 = .ok (.putfield 3, 3) := by decide +kernel
theorem dX12_evenings_5 : decode cX12_evenings 5 = .ok (.aload_n 0, 1) := by decide +kernel
theorem dX12_evenings_6 : decode cX12_evenings 6 = .ok (.iload_n 1, 1) := by decide +kernel
theorem dX12_evenings_7 : decode cX12_evenings 7 = .ok (.iconst 1, 1) := by decide +kernel
theorem dX12_evenings_8 : decode cX12_evenings 8 = .ok (.bipush 70, 2) := by decide +kernel
theorem dX12_evenings_10 : decode cX12_evenings 10 = .ok (.invokestatic 95, 3) := by decide +kernel
theorem dX12_evenings_13 : decode cX12_evenings 13 = .ok (.ifCond .ne 7, 3) := by decide +kernel
theorem dX12_evenings_16 : decode cX12_evenings 16 = .ok (.iconst 1, 1) := by decide +kernel
theorem dX12_evenings_17 : decode cX12_evenings 17 = .ok (.goto 4, 3) := by decide +kernel
theorem dX12_evenings_20 : decode cX12_evenings 20 = .ok (.iconst 0, 1) := by decide +kernel
theorem dX12_evenings_21 : decode cX12_evenings 21 = .ok (.iconst 1, 1) := by decide +kernel
theorem dX12_evenings_22 : decode cX12_evenings 22 = .ok (.invokevirtual 280, 3) := by decide +kernel
theorem dX12_evenings_25 : decode cX12_evenings 25 = .ok (.ifCond .eq 5, 3) := by decide +kernel
theorem dX12_evenings_28 : decode cX12_evenings 28 = .ok (.iconst 0, 1) := by decide +kernel
theorem dX12_evenings_29 : decode cX12_evenings 29 = .ok (.ireturn, 1) := by decide +kernel
theorem dX12_evenings_30 : decode cX12_evenings 30 = .ok (.aload_n 0, 1) := by decide +kernel
theorem dX12_evenings_31 : decode cX12_evenings 31 = .ok (.invokevirtual 382, 3) := by decide +kernel
theorem dX12_evenings_34 : decode cX12_evenings 34 = .ok (.aload_n 0, 1) := by decide +kernel
theorem dX12_evenings_35 : decode cX12_evenings 35 = .ok (.iload_n 1, 1) := by decide +kernel
theorem dX12_evenings_36 : decode cX12_evenings 36 = .ok (.iconst 0, 1) := by decide +kernel
theorem dX12_evenings_37 : decode cX12_evenings 37 = .ok (.invokevirtual 385, 3) := by decide +kernel
theorem dX12_evenings_40 : decode cX12_evenings 40 = .ok (.ireturn, 1) := by decide +kernel
set_option maxRecDepth 100000 in
set_option maxHeartbeats 200000 in
theorem T_X12_evenings_21 {X : CX} (hX : Ok X cX12_evenings 2 RX12 (some .int)) (hdx : dX X = 15) {r : Int32 × Hp} (x1 : Int32) (t0 : Int32) (h : Hp) (hf : F_X12_evenings_21 x1 t0 h = some r) : J X ((.inl (some (.int r.1)), r.2)) 21 [(0, .ref 30), (1, .int x1)] [.int t0, .ref 30] h := by
  unfold F_X12_evenings_21 at hf
  refine J_iconst hX 1 dX12_evenings_21 rfl ?_
  obtain ⟨r_1, e_2, hf⟩ := bdE hf
  refine V_1 hX [.int t0, .int 1] dX12_evenings_22 cw_X12_280 ob_30 rfl (C_X12_throwsIf (okG hX) e_2) (ltD hdx rfl) rfl rfl rfl rfl ?_
  rcases ifE hf with ⟨c_3, hf⟩ | ⟨c_3, hf⟩
  · refine J_if_eqF hX 30 dX12_evenings_25 rfl (b2iT c_3) ?_
    refine J_iconst hX 0 dX12_evenings_28 rfl ?_
    exact E_Ii hX dX12_evenings_29 hf
  · refine J_if_eqT hX 30 dX12_evenings_25 rfl (b2iF c_3) ?_
    refine J_aload_n hX 0 dX12_evenings_30 rfl rfl ?_
    obtain ⟨r_4, e_5, hf⟩ := bdE hf
    refine V_0 hX [] dX12_evenings_31 cw_X12_382 ob_30 rfl (C_X12_remembers (okG hX) e_5) (ltD hdx rfl) rfl rfl rfl rfl ?_
    refine J_aload_n hX 0 dX12_evenings_34 rfl rfl ?_
    refine J_iload_n hX 1 dX12_evenings_35 rfl rfl ?_
    refine J_iconst hX 0 dX12_evenings_36 rfl ?_
    obtain ⟨r_6, e_7, hf⟩ := bdE hf
    refine V_1 hX [.int x1, .int 0] dX12_evenings_37 cw_X12_385 ob_30 rfl (C_X12_goesOn (okG hX) e_7) (ltD hdx rfl) rfl rfl rfl rfl ?_
    exact E_Ii hX dX12_evenings_40 hf
set_option maxRecDepth 100000 in
set_option maxHeartbeats 200000 in
theorem T_X12_evenings_0 {X : CX} (hX : Ok X cX12_evenings 2 RX12 (some .int)) (hdx : dX X = 15) {r : Int32 × Hp} (x1 : Int32) (h : Hp) (hf : f_X12_evenings x1 h = some r) : J X ((.inl (some (.int r.1)), r.2)) 0 [(0, .ref 30), (1, .int x1)] [] h := by
  unfold f_X12_evenings at hf
  refine J_aload_n hX 0 dX12_evenings_0 rfl rfl ?_
  refine J_iconst hX 0 dX12_evenings_1 rfl ?_
  obtain ⟨h_1, e_2, hf⟩ := bndE hf
  refine J_putI hX dX12_evenings_2 fl_X12_3 fw_10_0 ob_30 rfl rfl rfl ?_
  refine J_nmh e_2 ?_
  refine J_aload_n hX 0 dX12_evenings_5 rfl rfl ?_
  refine J_iload_n hX 1 dX12_evenings_6 rfl rfl ?_
  refine J_iconst hX 1 dX12_evenings_7 rfl ?_
  refine J_bipush hX 70 dX12_evenings_8 rfl ?_
  refine S_1 hX [.int x1, .int 1, .int 70] dX12_evenings_10 cw_X12_95 (C_X12_in (okG hX) rfl) (ltD hdx rfl) rfl rfl rfl rfl ?_
  rcases ifE hf with ⟨c_3, hf⟩ | ⟨c_3, hf⟩
  · refine J_if_neT hX 20 dX12_evenings_13 rfl (b2iT c_3) ?_
    refine J_iconst hX 0 dX12_evenings_20 rfl ?_
    exact T_X12_evenings_21 hX hdx x1 0 h_1 hf
  · refine J_if_neF hX 20 dX12_evenings_13 rfl (b2iF c_3) ?_
    refine J_iconst hX 1 dX12_evenings_16 rfl ?_
    refine J_goto hX 21 dX12_evenings_17 rfl ?_
    exact T_X12_evenings_21 hX hdx x1 1 h_1 hf
set_option maxRecDepth 100000 in
set_option maxHeartbeats 200000 in
theorem C_X12_evenings {G : GX} (hG : GOk G) {x1 : Int32} {h : Hp} {r : Int32 × Hp} (hf : f_X12_evenings x1 h = some r) : Ctr G 15 yX12_evenings cX12_evenings 2 (some .int) [.ref 30, .int x1] h ((.inl (some (.int r.1)), r.2)) :=
  Ctr_of hG RX12 rfl (by decide) rfl (fun X _ hdx hX => T_X12_evenings_0 hX hdx x1 h hf)
theorem dX12_laysNow_0 : decode cX12_laysNow 0 = .ok (.aload_n 0, 1) := by decide +kernel
theorem dX12_laysNow_1 : decode cX12_laysNow 1 = .ok (.aload_n 0, 1) := by decide +kernel
theorem dX12_laysNow_2 : decode cX12_laysNow 2 = .ok (.getfield 13, 3) := by decide +kernel
theorem dX12_laysNow_5 : decode cX12_laysNow 5 = .ok (.iconst 4, 1) := by decide +kernel
theorem dX12_laysNow_6 : decode cX12_laysNow 6 = .ok (.iaload, 1) := by decide +kernel
theorem dX12_laysNow_7 : decode cX12_laysNow 7 = .ok (.putfield 286, 3) := by decide +kernel
theorem dX12_laysNow_10 : decode cX12_laysNow 10 = .ok (.aload_n 0, 1) := by decide +kernel
theorem dX12_laysNow_11 : decode cX12_laysNow 11 = .ok (.invokevirtual 347, 3) := by decide +kernel
theorem dX12_laysNow_14 : decode cX12_laysNow 14 = .ok (.return_, 1) := by decide +kernel
set_option maxRecDepth 100000 in
set_option maxHeartbeats 200000 in
theorem T_X12_laysNow_0 {X : CX} (hX : Ok X cX12_laysNow 1 RX12 none) (hdx : dX X = 7) {r : Hp} (h : Hp) (hf : f_X12_laysNow h = some r) : J X ((.inl none, r)) 0 [(0, .ref 30)] [] h := by
  unfold f_X12_laysNow at hf
  refine J_aload_n hX 0 dX12_laysNow_0 rfl rfl ?_
  refine J_aload_n hX 0 dX12_laysNow_1 rfl rfl ?_
  refine J_getR hX 31 dX12_laysNow_2 fl_X12_13 ob_30 rfl rfl ?_
  refine J_iconst hX 4 dX12_laysNow_5 rfl ?_
  refine J_ald hX 4 dX12_laysNow_6 ar_31 (Or.inl ⟨rfl, rfl⟩) (by decide) (by decide) ?_
  obtain ⟨h_1, e_2, hf⟩ := bndE hf
  refine J_putI hX dX12_laysNow_7 fl_X12_286 fw_10_20 ob_30 rfl rfl rfl ?_
  refine J_nmh e_2 ?_
  refine J_aload_n hX 0 dX12_laysNow_10 rfl rfl ?_
  obtain ⟨r_3, e_4, hf⟩ := bdE hf
  refine V_0 hX [] dX12_laysNow_11 cw_X12_347 ob_30 rfl (C_X12_lays (okG hX) e_4) (ltD hdx rfl) rfl rfl rfl rfl ?_
  exact E_Vi hX dX12_laysNow_14 hf
set_option maxRecDepth 100000 in
set_option maxHeartbeats 200000 in
theorem C_X12_laysNow {G : GX} (hG : GOk G) {h : Hp} {r : Hp} (hf : f_X12_laysNow h = some r) : Ctr G 7 yX12_laysNow cX12_laysNow 1 none [.ref 30] h ((.inl none, r)) :=
  Ctr_of hG RX12 rfl (by decide) rfl (fun X _ hdx hX => T_X12_laysNow_0 hX hdx h hf)
theorem dX12_bearsAll_0 : decode cX12_bearsAll 0 = .ok (.iconst 0, 1) := by decide +kernel
theorem dX12_bearsAll_1 : decode cX12_bearsAll 1 = .ok (.istore_n 1, 1) := by decide +kernel
theorem dX12_bearsAll_2 : decode cX12_bearsAll 2 = .ok (.iconst 0, 1) := by decide +kernel
theorem dX12_bearsAll_3 : decode cX12_bearsAll 3 = .ok (.istore_n 2, 1) := by decide +kernel
theorem dX12_bearsAll_4 : decode cX12_bearsAll 4 = .ok (.iload_n 2, 1) := by decide +kernel
theorem dX12_bearsAll_5 : decode cX12_bearsAll 5 = .ok (.aload_n 0, 1) := by decide +kernel
theorem dX12_bearsAll_6 : decode cX12_bearsAll 6 = .ok (.invokevirtual 87, 3) := by decide +kernel
theorem dX12_bearsAll_9 : decode cX12_bearsAll 9 = .ok (.if_icmp .ge 29, 3) := by decide +kernel
theorem dX12_bearsAll_12 : decode cX12_bearsAll 12 = .ok (.iload_n 1, 1) := by decide +kernel
theorem dX12_bearsAll_13 : decode cX12_bearsAll 13 = .ok (.aload_n 0, 1) := by decide +kernel
theorem dX12_bearsAll_14 : decode cX12_bearsAll 14 = .ok (.iload_n 2, 1) := by decide +kernel
theorem dX12_bearsAll_15 : decode cX12_bearsAll 15 = .ok (.invokevirtual 91, 3) := by decide +kernel
theorem dX12_bearsAll_18 : decode cX12_bearsAll 18 = .ok (.ifCond .eq 7, 3) := by decide +kernel
theorem dX12_bearsAll_21 : decode cX12_bearsAll 21 = .ok (.iconst 0, 1) := by decide +kernel
theorem dX12_bearsAll_22 : decode cX12_bearsAll 22 = .ok (.goto 8, 3) := by decide +kernel
theorem dX12_bearsAll_25 : decode cX12_bearsAll 25 = .ok (.aload_n 0, 1) := by decide +kernel
theorem dX12_bearsAll_26 : decode cX12_bearsAll 26 = .ok (.iload_n 2, 1) := by decide +kernel
theorem dX12_bearsAll_27 : decode cX12_bearsAll 27 = .ok (.invokevirtual 322, 3) := by decide +kernel
theorem dX12_bearsAll_30 : decode cX12_bearsAll 30 = .ok (.iadd, 1) := by decide +kernel
theorem dX12_bearsAll_31 : decode cX12_bearsAll 31 = .ok (.istore_n 1, 1) := by decide +kernel
theorem dX12_bearsAll_32 : decode cX12_bearsAll 32 = .ok (.iinc 2 1, 3) := by decide +kernel
theorem dX12_bearsAll_35 : decode cX12_bearsAll 35 = .ok (.goto (-31), 3) := by decide +kernel
theorem dX12_bearsAll_38 : decode cX12_bearsAll 38 = .ok (.iload_n 1, 1) := by decide +kernel
theorem dX12_bearsAll_39 : decode cX12_bearsAll 39 = .ok (.ireturn, 1) := by decide +kernel
set_option maxRecDepth 100000 in
set_option maxHeartbeats 200000 in
theorem T_X12_bearsAll_30 {X : CX} (hX : Ok X cX12_bearsAll 3 RX12 (some .int)) (hdx : dX X = 6) {r : Int32} (h : Hp) (x2 : Int32) (t0 : Int32) (t1 : Int32) (q_4 : Int32 → Int32 → Option Int32) (hq_4 : ∀ (x1 : Int32) (x2 : Int32), q_4 x1 x2 = some r → J X ((.inl (some (.int r)), h)) 4 [(0, .ref 30), (1, .int x1), (2, .int x2)] [] h) (hf : F_X12_bearsAll_30 q_4 h x2 t0 t1 = some r) : J X ((.inl (some (.int r)), h)) 30 [(0, .ref 30), (2, .int x2)] [.int t0, .int t1] h := by
  unfold F_X12_bearsAll_30 at hf
  refine J_iadd hX dX12_bearsAll_30 ?_
  refine J_istore_n hX [(1, .int (t1 + t0)), (0, .ref 30), (2, .int x2)] dX12_bearsAll_31 rfl rfl rfl ?_
  refine J_iinc hX (x2 + 1) 2 [(2, .int (x2 + 1)), (1, .int (t1 + t0)), (0, .ref 30)] dX12_bearsAll_32 rfl rfl rfl rfl ?_
  refine J_goto hX 4 dX12_bearsAll_35 rfl ?_
  refine J_sub [2, 1, 0] [(0, .ref 30), (1, .int (t1 + t0)), (2, .int (x2 + 1))] rfl ?_
  exact hq_4 (t1 + t0) (x2 + 1) hf
set_option maxRecDepth 100000 in
set_option maxHeartbeats 200000 in
theorem T_X12_bearsAll_4_s {X : CX} (hX : Ok X cX12_bearsAll 3 RX12 (some .int)) (hdx : dX X = 6) {r : Int32} (h : Hp) (q_4 : Int32 → Int32 → Option Int32) (hq_4 : ∀ (x1 : Int32) (x2 : Int32), q_4 x1 x2 = some r → J X ((.inl (some (.int r)), h)) 4 [(0, .ref 30), (1, .int x1), (2, .int x2)] [] h) (x1 : Int32) (x2 : Int32) (hf : S_X12_bearsAll_4 h q_4 x1 x2 = some r) : J X ((.inl (some (.int r)), h)) 4 [(0, .ref 30), (1, .int x1), (2, .int x2)] [] h := by
  unfold S_X12_bearsAll_4 at hf
  refine J_iload_n hX 2 dX12_bearsAll_4 rfl rfl ?_
  refine J_aload_n hX 0 dX12_bearsAll_5 rfl rfl ?_
  refine V_1 hX [] dX12_bearsAll_6 cw_X12_87 ob_30 rfl (C_X12_houses (okG hX) rfl) (ltD hdx rfl) rfl rfl rfl rfl ?_
  rcases ifE hf with ⟨c_1, hf⟩ | ⟨c_1, hf⟩
  · refine J_icmp_geF hX 38 dX12_bearsAll_9 rfl c_1 ?_
    refine J_iload_n hX 1 dX12_bearsAll_12 rfl rfl ?_
    refine J_aload_n hX 0 dX12_bearsAll_13 rfl rfl ?_
    refine J_iload_n hX 2 dX12_bearsAll_14 rfl rfl ?_
    obtain ⟨r_2, e_3, hf⟩ := bdE hf
    refine V_1 hX [.int x2] dX12_bearsAll_15 cw_X12_91 ob_30 rfl (C_X12_isFallen (okG hX) e_3) (ltD hdx rfl) rfl rfl rfl rfl ?_
    rcases ifE hf with ⟨c_4, hf⟩ | ⟨c_4, hf⟩
    · refine J_if_eqF hX 25 dX12_bearsAll_18 rfl (b2iT c_4) ?_
      refine J_iconst hX 0 dX12_bearsAll_21 rfl ?_
      refine J_goto hX 30 dX12_bearsAll_22 rfl ?_
      refine J_sub [0, 2] [(0, .ref 30), (2, .int x2)] rfl ?_
      exact T_X12_bearsAll_30 hX hdx h x2 0 x1 q_4 hq_4 hf
    · refine J_if_eqT hX 25 dX12_bearsAll_18 rfl (b2iF c_4) ?_
      refine J_aload_n hX 0 dX12_bearsAll_25 rfl rfl ?_
      refine J_iload_n hX 2 dX12_bearsAll_26 rfl rfl ?_
      obtain ⟨r_5, e_6, hf⟩ := bdE hf
      refine V_1 hX [.int x2] dX12_bearsAll_27 cw_X12_322 ob_30 rfl (C_X12_bearsNow (okG hX) e_6) (ltD hdx rfl) rfl rfl rfl rfl ?_
      refine J_sub [0, 2] [(0, .ref 30), (2, .int x2)] rfl ?_
      exact T_X12_bearsAll_30 hX hdx h x2 r_5 x1 q_4 hq_4 hf
  · refine J_icmp_geT hX 38 dX12_bearsAll_9 rfl c_1 ?_
    refine J_iload_n hX 1 dX12_bearsAll_38 rfl rfl ?_
    exact E_Ip hX dX12_bearsAll_39 hf
set_option maxRecDepth 100000 in
set_option maxHeartbeats 200000 in
theorem T_X12_bearsAll_4 {X : CX} (hX : Ok X cX12_bearsAll 3 RX12 (some .int)) (hdx : dX X = 6) {r : Int32} (h : Hp) : ∀ (n : Nat) (x1 : Int32) (x2 : Int32), F_X12_bearsAll_4 h n x1 x2 = some r → J X ((.inl (some (.int r)), h)) 4 [(0, .ref 30), (1, .int x1), (2, .int x2)] [] h := by
  intro n
  induction n with
  | zero => intro x1 x2 hf; exact nomatch hf
  | succ n ih => intro x1 x2 hf; exact T_X12_bearsAll_4_s hX hdx h _ (fun x1 x2 hf => ih x1 x2 hf) x1 x2 hf
set_option maxRecDepth 100000 in
set_option maxHeartbeats 200000 in
theorem T_X12_bearsAll_0 {X : CX} (hX : Ok X cX12_bearsAll 3 RX12 (some .int)) (hdx : dX X = 6) {r : Int32} (h : Hp) (hf : f_X12_bearsAll h = some r) : J X ((.inl (some (.int r)), h)) 0 [(0, .ref 30)] [] h := by
  unfold f_X12_bearsAll at hf
  refine J_iconst hX 0 dX12_bearsAll_0 rfl ?_
  refine J_istore_n hX [(1, .int 0), (0, .ref 30)] dX12_bearsAll_1 rfl rfl rfl ?_
  refine J_iconst hX 0 dX12_bearsAll_2 rfl ?_
  refine J_istore_n hX [(2, .int 0), (1, .int 0), (0, .ref 30)] dX12_bearsAll_3 rfl rfl rfl ?_
  refine J_sub [2, 1, 0] [(0, .ref 30), (1, .int 0), (2, .int 0)] rfl ?_
  exact T_X12_bearsAll_4 hX hdx h FU 0 0 hf
set_option maxRecDepth 100000 in
set_option maxHeartbeats 200000 in
theorem C_X12_bearsAll {G : GX} (hG : GOk G) {h : Hp} {r : Int32} (hf : f_X12_bearsAll h = some r) : Ctr G 6 yX12_bearsAll cX12_bearsAll 3 (some .int) [.ref 30] h ((.inl (some (.int r)), h)) :=
  Ctr_of hG RX12 rfl (by decide) rfl (fun X _ hdx hX => T_X12_bearsAll_0 hX hdx h hf)
theorem dX12_shareOf_0 : decode cX12_shareOf 0 = .ok (.aload_n 0, 1) := by decide +kernel
theorem dX12_shareOf_1 : decode cX12_shareOf 1 = .ok (.invokevirtual 389, 3) := by decide +kernel
theorem dX12_shareOf_4 : decode cX12_shareOf 4 = .ok (.istore_n 2, 1) := by decide +kernel
theorem dX12_shareOf_5 : decode cX12_shareOf 5 = .ok (.iload_n 2, 1) := by decide +kernel
theorem dX12_shareOf_6 : decode cX12_shareOf 6 = .ok (.ifCond .ne 7, 3) := by decide +kernel
theorem dX12_shareOf_9 : decode cX12_shareOf 9 = .ok (.iconst 0, 1) := by decide +kernel
theorem dX12_shareOf_10 : decode cX12_shareOf 10 = .ok (.goto 13, 3) := by decide +kernel
theorem dX12_shareOf_13 : decode cX12_shareOf 13 = .ok (.bipush 100, 2) := by decide +kernel
theorem dX12_shareOf_15 : decode cX12_shareOf 15 = .ok (.aload_n 0, 1) := by decide +kernel
theorem dX12_shareOf_16 : decode cX12_shareOf 16 = .ok (.iload_n 1, 1) := by decide +kernel
theorem dX12_shareOf_17 : decode cX12_shareOf 17 = .ok (.invokevirtual 322, 3) := by decide +kernel
theorem dX12_shareOf_20 : decode cX12_shareOf 20 = .ok (.imul, 1) := by decide +kernel
theorem dX12_shareOf_21 : decode cX12_shareOf 21 = .ok (.iload_n 2, 1) := by decide +kernel
theorem dX12_shareOf_22 : decode cX12_shareOf 22 = .ok (.idiv, 1) := by decide +kernel
theorem dX12_shareOf_23 : decode cX12_shareOf 23 = .ok (.ireturn, 1) := by decide +kernel
set_option maxRecDepth 100000 in
set_option maxHeartbeats 200000 in
theorem T_X12_shareOf_0 {X : CX} (hX : Ok X cX12_shareOf 3 RX12 (some .int)) (hdx : dX X = 7) {r : Int32} (x1 : Int32) (h : Hp) (hf : f_X12_shareOf x1 h = some r) : J X ((.inl (some (.int r)), h)) 0 [(0, .ref 30), (1, .int x1)] [] h := by
  unfold f_X12_shareOf at hf
  refine J_aload_n hX 0 dX12_shareOf_0 rfl rfl ?_
  obtain ⟨r_1, e_2, hf⟩ := bdE hf
  refine V_1 hX [] dX12_shareOf_1 cw_X12_389 ob_30 rfl (C_X12_bearsAll (okG hX) e_2) (ltD hdx rfl) rfl rfl rfl rfl ?_
  refine J_istore_n hX [(2, .int r_1), (0, .ref 30), (1, .int x1)] dX12_shareOf_4 rfl rfl rfl ?_
  refine J_iload_n hX 0 dX12_shareOf_5 rfl rfl ?_
  rcases ifE hf with ⟨c_3, hf⟩ | ⟨c_3, hf⟩
  · refine J_if_neF hX 13 dX12_shareOf_6 rfl c_3 ?_
    refine J_iconst hX 0 dX12_shareOf_9 rfl ?_
    refine J_goto hX 23 dX12_shareOf_10 rfl ?_
    exact E_Ip hX dX12_shareOf_23 hf
  · refine J_if_neT hX 13 dX12_shareOf_6 rfl c_3 ?_
    refine J_bipush hX 100 dX12_shareOf_13 rfl ?_
    refine J_aload_n hX 1 dX12_shareOf_15 rfl rfl ?_
    refine J_iload_n hX 2 dX12_shareOf_16 rfl rfl ?_
    obtain ⟨r_4, e_5, hf⟩ := bdE hf
    refine V_1 hX [.int x1] dX12_shareOf_17 cw_X12_322 ob_30 rfl (C_X12_bearsNow (okG hX) e_5) (ltD hdx rfl) rfl rfl rfl rfl ?_
    refine J_imul hX dX12_shareOf_20 ?_
    refine J_iload_n hX 0 dX12_shareOf_21 rfl rfl ?_
    obtain ⟨g_6, hf⟩ := gdE hf
    refine J_idiv hX g_6 dX12_shareOf_22 ?_
    exact E_Ip hX dX12_shareOf_23 hf
set_option maxRecDepth 100000 in
set_option maxHeartbeats 200000 in
theorem C_X12_shareOf {G : GX} (hG : GOk G) {x1 : Int32} {h : Hp} {r : Int32} (hf : f_X12_shareOf x1 h = some r) : Ctr G 7 yX12_shareOf cX12_shareOf 3 (some .int) [.ref 30, .int x1] h ((.inl (some (.int r)), h)) :=
  Ctr_of hG RX12 rfl (by decide) rfl (fun X _ hdx hX => T_X12_shareOf_0 hX hdx x1 h hf)
theorem dX12_gateOf_0 : decode cX12_gateOf 0 = .ok (.iconst 0, 1) := by decide +kernel
theorem dX12_gateOf_1 : decode cX12_gateOf 1 = .ok (.istore_n 2, 1) := by decide +kernel
theorem dX12_gateOf_2 : decode cX12_gateOf 2 = .ok (.iconst 0, 1) := by decide +kernel
theorem dX12_gateOf_3 : decode cX12_gateOf 3 = .ok (.istore_n 3, 1) := by decide +kernel
theorem dX12_gateOf_4 : decode cX12_gateOf 4 = .ok (.iload_n 3, 1) := by decide +kernel
theorem dX12_gateOf_5 : decode cX12_gateOf 5 = .ok (.aload_n 0, 1) := by decide +kernel
theorem dX12_gateOf_6 : decode cX12_gateOf 6 = .ok (.invokevirtual 99, 3) := by decide +kernel
theorem dX12_gateOf_9 : decode cX12_gateOf 9 = .ok (.if_icmp .ge 29, 3) := by decide +kernel
theorem dX12_gateOf_12 : decode cX12_gateOf 12 = .ok (.iload_n 2, 1) := by decide +kernel
theorem dX12_gateOf_13 : decode cX12_gateOf 13 = .ok (.aload_n 0, 1) := by decide +kernel
theorem dX12_gateOf_14 : decode cX12_gateOf 14 = .ok (.iload_n 3, 1) := by decide +kernel
theorem dX12_gateOf_15 : decode cX12_gateOf 15 = .ok (.iconst 0, 1) := by decide +kernel
theorem dX12_gateOf_16 : decode cX12_gateOf 16 = .ok (.invokevirtual 283, 3) := by decide +kernel
theorem dX12_gateOf_19 : decode cX12_gateOf 19 = .ok (.iload_n 1, 1) := by decide +kernel
theorem dX12_gateOf_20 : decode cX12_gateOf 20 = .ok (.if_icmp .ne 9, 3) := by decide +kernel
theorem dX12_gateOf_23 : decode cX12_gateOf 23 = .ok (.iconst 1, 1) := by decide +kernel
theorem dX12_gateOf_24 : decode cX12_gateOf 24 = .ok (.iload_n 3, 1) := by decide +kernel
theorem dX12_gateOf_25 : decode cX12_gateOf 25 = .ok (.ishl, 1) := by decide +kernel
theorem dX12_gateOf_26 : decode cX12_gateOf 26 = .ok (.goto 4, 3) := by decide +kernel
theorem dX12_gateOf_29 : decode cX12_gateOf 29 = .ok (.iconst 0, 1) := by decide +kernel
theorem dX12_gateOf_30 : decode cX12_gateOf 30 = .ok (.ior, 1) := by decide +kernel
theorem dX12_gateOf_31 : decode cX12_gateOf 31 = .ok (.istore_n 2, 1) := by decide +kernel
theorem dX12_gateOf_32 : decode cX12_gateOf 32 = .ok (.iinc 3 1, 3) := by decide +kernel
theorem dX12_gateOf_35 : decode cX12_gateOf 35 = .ok (.goto (-31), 3) := by decide +kernel
theorem dX12_gateOf_38 : decode cX12_gateOf 38 = .ok (.iload_n 2, 1) := by decide +kernel
theorem dX12_gateOf_39 : decode cX12_gateOf 39 = .ok (.ireturn, 1) := by decide +kernel
set_option maxRecDepth 100000 in
set_option maxHeartbeats 200000 in
theorem T_X12_gateOf_30 {X : CX} (hX : Ok X cX12_gateOf 4 RX12 (some .int)) (hdx : dX X = 4) {r : Int32} (h : Hp) (x1 : Int32) (x3 : Int32) (t0 : Int32) (t1 : Int32) (q_4 : Int32 → Int32 → Option Int32) (hq_4 : ∀ (x2 : Int32) (x3 : Int32), q_4 x2 x3 = some r → J X ((.inl (some (.int r)), h)) 4 [(0, .ref 30), (1, .int x1), (2, .int x2), (3, .int x3)] [] h) (hf : F_X12_gateOf_30 q_4 h x1 x3 t0 t1 = some r) : J X ((.inl (some (.int r)), h)) 30 [(0, .ref 30), (1, .int x1), (3, .int x3)] [.int t0, .int t1] h := by
  unfold F_X12_gateOf_30 at hf
  refine J_ior hX dX12_gateOf_30 ?_
  obtain ⟨x2_1, e_2, hf⟩ := bndE hf
  refine J_nm e_2 ?_
  refine J_istore_n hX [(2, .int x2_1), (0, .ref 30), (1, .int x1), (3, .int x3)] dX12_gateOf_31 rfl rfl rfl ?_
  refine J_iinc hX (x3 + 1) 3 [(3, .int (x3 + 1)), (2, .int x2_1), (0, .ref 30), (1, .int x1)] dX12_gateOf_32 rfl rfl rfl rfl ?_
  refine J_goto hX 4 dX12_gateOf_35 rfl ?_
  refine J_sub [2, 3, 1, 0] [(0, .ref 30), (1, .int x1), (2, .int x2_1), (3, .int (x3 + 1))] rfl ?_
  exact hq_4 x2_1 (x3 + 1) hf
set_option maxRecDepth 100000 in
set_option maxHeartbeats 200000 in
theorem T_X12_gateOf_4_s {X : CX} (hX : Ok X cX12_gateOf 4 RX12 (some .int)) (hdx : dX X = 4) {r : Int32} (h : Hp) (x1 : Int32) (q_4 : Int32 → Int32 → Option Int32) (hq_4 : ∀ (x2 : Int32) (x3 : Int32), q_4 x2 x3 = some r → J X ((.inl (some (.int r)), h)) 4 [(0, .ref 30), (1, .int x1), (2, .int x2), (3, .int x3)] [] h) (x2 : Int32) (x3 : Int32) (hf : S_X12_gateOf_4 h x1 q_4 x2 x3 = some r) : J X ((.inl (some (.int r)), h)) 4 [(0, .ref 30), (1, .int x1), (2, .int x2), (3, .int x3)] [] h := by
  unfold S_X12_gateOf_4 at hf
  refine J_iload_n hX 3 dX12_gateOf_4 rfl rfl ?_
  refine J_aload_n hX 0 dX12_gateOf_5 rfl rfl ?_
  refine V_1 hX [] dX12_gateOf_6 cw_X12_99 ob_30 rfl (C_X12_people (okG hX) rfl) (ltD hdx rfl) rfl rfl rfl rfl ?_
  rcases ifE hf with ⟨c_1, hf⟩ | ⟨c_1, hf⟩
  · refine J_icmp_geF hX 38 dX12_gateOf_9 rfl c_1 ?_
    refine J_iload_n hX 2 dX12_gateOf_12 rfl rfl ?_
    refine J_aload_n hX 0 dX12_gateOf_13 rfl rfl ?_
    refine J_iload_n hX 3 dX12_gateOf_14 rfl rfl ?_
    refine J_iconst hX 0 dX12_gateOf_15 rfl ?_
    obtain ⟨r_2, e_3, hf⟩ := bdE hf
    refine V_1 hX [.int x3, .int 0] dX12_gateOf_16 cw_X12_283 ob_30 rfl (C_X12_ofPerson (okG hX) e_3) (ltD hdx rfl) rfl rfl rfl rfl ?_
    refine J_iload_n hX 1 dX12_gateOf_19 rfl rfl ?_
    rcases ifE hf with ⟨c_4, hf⟩ | ⟨c_4, hf⟩
    · refine J_icmp_neF hX 29 dX12_gateOf_20 rfl c_4 ?_
      refine J_iconst hX 1 dX12_gateOf_23 rfl ?_
      refine J_iload_n hX 3 dX12_gateOf_24 rfl rfl ?_
      refine J_ishl hX dX12_gateOf_25 ?_
      refine J_goto hX 30 dX12_gateOf_26 rfl ?_
      refine J_sub [0, 1, 3] [(0, .ref 30), (1, .int x1), (3, .int x3)] rfl ?_
      exact T_X12_gateOf_30 hX hdx h x1 x3 (shl 1 x3) x2 q_4 hq_4 hf
    · refine J_icmp_neT hX 29 dX12_gateOf_20 rfl c_4 ?_
      refine J_iconst hX 0 dX12_gateOf_29 rfl ?_
      refine J_sub [0, 1, 3] [(0, .ref 30), (1, .int x1), (3, .int x3)] rfl ?_
      exact T_X12_gateOf_30 hX hdx h x1 x3 0 x2 q_4 hq_4 hf
  · refine J_icmp_geT hX 38 dX12_gateOf_9 rfl c_1 ?_
    refine J_iload_n hX 2 dX12_gateOf_38 rfl rfl ?_
    exact E_Ip hX dX12_gateOf_39 hf
set_option maxRecDepth 100000 in
set_option maxHeartbeats 200000 in
theorem T_X12_gateOf_4 {X : CX} (hX : Ok X cX12_gateOf 4 RX12 (some .int)) (hdx : dX X = 4) {r : Int32} (h : Hp) (x1 : Int32) : ∀ (n : Nat) (x2 : Int32) (x3 : Int32), F_X12_gateOf_4 h x1 n x2 x3 = some r → J X ((.inl (some (.int r)), h)) 4 [(0, .ref 30), (1, .int x1), (2, .int x2), (3, .int x3)] [] h := by
  intro n
  induction n with
  | zero => intro x2 x3 hf; exact nomatch hf
  | succ n ih => intro x2 x3 hf; exact T_X12_gateOf_4_s hX hdx h x1 _ (fun x2 x3 hf => ih x2 x3 hf) x2 x3 hf
set_option maxRecDepth 100000 in
set_option maxHeartbeats 200000 in
theorem T_X12_gateOf_0 {X : CX} (hX : Ok X cX12_gateOf 4 RX12 (some .int)) (hdx : dX X = 4) {r : Int32} (x1 : Int32) (h : Hp) (hf : f_X12_gateOf x1 h = some r) : J X ((.inl (some (.int r)), h)) 0 [(0, .ref 30), (1, .int x1)] [] h := by
  unfold f_X12_gateOf at hf
  refine J_iconst hX 0 dX12_gateOf_0 rfl ?_
  refine J_istore_n hX [(2, .int 0), (0, .ref 30), (1, .int x1)] dX12_gateOf_1 rfl rfl rfl ?_
  refine J_iconst hX 0 dX12_gateOf_2 rfl ?_
  refine J_istore_n hX [(3, .int 0), (2, .int 0), (0, .ref 30), (1, .int x1)] dX12_gateOf_3 rfl rfl rfl ?_
  refine J_sub [2, 3, 1, 0] [(0, .ref 30), (1, .int x1), (2, .int 0), (3, .int 0)] rfl ?_
  exact T_X12_gateOf_4 hX hdx h x1 FU 0 0 hf
set_option maxRecDepth 100000 in
set_option maxHeartbeats 200000 in
theorem C_X12_gateOf {G : GX} (hG : GOk G) {x1 : Int32} {h : Hp} {r : Int32} (hf : f_X12_gateOf x1 h = some r) : Ctr G 4 yX12_gateOf cX12_gateOf 4 (some .int) [.ref 30, .int x1] h ((.inl (some (.int r)), h)) :=
  Ctr_of hG RX12 rfl (by decide) rfl (fun X _ hdx hX => T_X12_gateOf_0 hX hdx x1 h hf)
theorem dX12_house_0 : decode cX12_house 0 = .ok (.aload_n 0, 1) := by decide +kernel
theorem dX12_house_1 : decode cX12_house 1 = .ok (.iconst 0, 1) := by decide +kernel
theorem dX12_house_2 : decode cX12_house 2 = .ok (.putfield 3, 3) := by decide +kernel
theorem dX12_house_5 : decode cX12_house 5 = .ok (.aload_n 0, 1) := by decide +kernel
theorem dX12_house_6 : decode cX12_house 6 = .ok (.aload_n 0, 1) := by decide +kernel
theorem dX12_house_7 : decode cX12_house 7 = .ok (.iload_n 1, 1) := by decide +kernel
theorem dX12_house_8 : decode cX12_house 8 = .ok (.invokevirtual 392, 3) := by decide +kernel
theorem dX12_house_11 : decode cX12_house 11 = .ok (.iconst 1, 1) := by decide +kernel
theorem dX12_house_12 : decode cX12_house 12 = .ok (.invokevirtual 280, 3) := by decide +kernel
theorem dX12_house_15 : decode cX12_house 15 = .ok (.ifCond .ne 26, 3) := by decide +kernel
theorem dX12_house_18 : decode cX12_house 18 = .ok (.aload_n 0, 1) := by decide +kernel
theorem dX12_house_19 : decode cX12_house 19 = .ok (.iload_n 2, 1) := by decide +kernel
theorem dX12_house_20 : decode cX12_house 20 = .ok (.iconst 0, 1) := by decide +kernel
theorem dX12_house_21 : decode cX12_house 21 = .ok (.bipush 12, 2) := by decide +kernel
theorem dX12_house_23 : decode cX12_house 23 = .ok (.invokestatic 95, 3) := by decide +kernel
theorem dX12_house_26 : decode cX12_house 26 = .ok (.ifCond .ne 7, 3) := by decide +kernel
theorem dX12_house_29 : decode cX12_house 29 = .ok (.iconst 1, 1) := by decide +kernel
theorem dX12_house_30 : decode cX12_house 30 = .ok (.goto 4, 3) := by decide +kernel
theorem dX12_house_33 : decode cX12_house 33 = .ok (.iconst 0, 1) := by decide +kernel
theorem dX12_house_34 : decode cX12_house 34 = .ok (.iconst 2, 1) := by decide +kernel
theorem dX12_house_35 : decode cX12_house 35 = .ok (.invokevirtual 280, 3) := by decide +kernel
theorem dX12_house_38 : decode cX12_house 38 = .ok (.ifCond .eq 5, 3) := by decide +kernel
theorem dX12_house_41 : decode cX12_house 41 = .ok (.iconst 0, 1) := by decide +kernel
theorem dX12_house_42 : decode cX12_house 42 = .ok (.ireturn, 1) := by decide +kernel
theorem dX12_house_43 : decode cX12_house 43 = .ok (.iload_n 2, 1) := by decide +kernel
theorem dX12_house_44 : decode cX12_house 44 = .ok (.iconst 4, 1) := by decide +kernel
theorem dX12_house_45 : decode cX12_house 45 = .ok (.if_icmp .gt 10, 3) := by decide +kernel
theorem dX12_house_48 : decode cX12_house 48 = .ok (.aload_n 0, 1) := by decide +kernel
theorem dX12_house_49 : decode cX12_house 49 = .ok (.iload_n 1, 1) := by decide +kernel
theorem dX12_house_50 : decode cX12_house 50 = .ok (.iload_n 2, 1) := by decide +kernel
theorem dX12_house_51 : decode cX12_house 51 = .ok (.invokevirtual 84, 3) := by decide +kernel
theorem dX12_house_54 : decode cX12_house 54 = .ok (.ireturn, 1) := by decide +kernel
theorem dX12_house_55 : decode cX12_house 55 = .ok (.aload_n 0, 1) := by decide +kernel
theorem dX12_house_56 : decode cX12_house 56 = .ok (.iload_n 1, 1) := by decide +kernel
theorem dX12_house_57 : decode cX12_house 57 = .ok (.invokevirtual 91, 3) := by decide +kernel
theorem dX12_house_60 : decode cX12_house 60 = .ok (.ifCond .eq 5, 3) := by decide +kernel
theorem dX12_house_63 : decode cX12_house 63 = .ok (.iconst 0, 1) := by decide +kernel
theorem dX12_house_64 : decode cX12_house 64 = .ok (.ireturn, 1) := by decide +kernel
theorem dX12_house_65 : decode cX12_house 65 = .ok (.aload_n 0, 1) := by decide +kernel
theorem dX12_house_66 : decode cX12_house 66 = .ok (.invokevirtual 395, 3) := by decide +kernel
theorem dX12_house_69 : decode cX12_house 69 = .ok (.iload_n 2, 1) := by decide +kernel
theorem dX12_house_70 : decode cX12_house 70 = .ok (.tableswitch 110 5 11 #[42, 49, 55, 61, 67, 74, 80], 42) := by decide +kernel
theorem dX12_house_112 : decode cX12_house 112 = .ok (.aload_n 0, 1) := by decide +kernel
theorem dX12_house_113 : decode cX12_house 113 = .ok (.getfield 29, 3) := by decide +kernel
theorem dX12_house_116 : decode cX12_house 116 = .ok (.iload_n 1, 1) := by decide +kernel
theorem dX12_house_117 : decode cX12_house 117 = .ok (.iaload, 1) := by decide +kernel
theorem dX12_house_118 : decode cX12_house 118 = .ok (.ireturn, 1) := by decide +kernel
theorem dX12_house_119 : decode cX12_house 119 = .ok (.aload_n 0, 1) := by decide +kernel
theorem dX12_house_120 : decode cX12_house 120 = .ok (.iload_n 1, 1) := by decide +kernel
theorem dX12_house_121 : decode cX12_house 121 = .ok (.invokevirtual 322, 3) := by decide +kernel
theorem dX12_house_124 : decode cX12_house 124 = .ok (.ireturn, 1) := by decide +kernel
theorem dX12_house_125 : decode cX12_house 125 = .ok (.aload_n 0, 1) := by decide +kernel
theorem dX12_house_126 : decode cX12_house 126 = .ok (.iload_n 1, 1) := by decide +kernel
theorem dX12_house_127 : decode cX12_house 127 = .ok (.invokevirtual 325, 3) := by decide +kernel
theorem dX12_house_130 : decode cX12_house 130 = .ok (.ireturn, 1) := by decide +kernel
theorem dX12_house_131 : decode cX12_house 131 = .ok (.aload_n 0, 1) := by decide +kernel
theorem dX12_house_132 : decode cX12_house 132 = .ok (.iload_n 1, 1) := by decide +kernel
theorem dX12_house_133 : decode cX12_house 133 = .ok (.invokevirtual 337, 3) := by decide +kernel
theorem dX12_house_136 : decode cX12_house 136 = .ok (.ireturn, 1) := by decide +kernel
theorem dX12_house_137 : decode cX12_house 137 = .ok (.aload_n 0, 1) := by decide +kernel
theorem dX12_house_138 : decode cX12_house 138 = .ok (.iconst 2, 1) := by decide +kernel
theorem dX12_house_139 : decode cX12_house 139 = .ok (.iload_n 1, 1) := by decide +kernel
theorem dX12_house_140 : decode cX12_house 140 = .ok (.invokevirtual 311, 3) := by decide +kernel
theorem dX12_house_143 : decode cX12_house 143 = .ok (.ireturn, 1) := by decide +kernel
theorem dX12_house_144 : decode cX12_house 144 = .ok (.aload_n 0, 1) := by decide +kernel
theorem dX12_house_145 : decode cX12_house 145 = .ok (.iload_n 1, 1) := by decide +kernel
theorem dX12_house_146 : decode cX12_house 146 = .ok (.invokevirtual 398, 3) := by decide +kernel
theorem dX12_house_149 : decode cX12_house 149 = .ok (.ireturn, 1) := by decide +kernel
theorem dX12_house_150 : decode cX12_house 150 = .ok (.iconst 0, 1) := by decide +kernel
theorem dX12_house_151 : decode cX12_house 151 = .ok (.aload_n 0, 1) := by decide +kernel
theorem dX12_house_152 : decode cX12_house 152 = .ok (.iload_n 1, 1) := by decide +kernel
theorem dX12_house_153 : decode cX12_house 153 = .ok (.iconst 1, 1) := by decide +kernel
theorem dX12_house_154 : decode cX12_house 154 = .ok (.invokevirtual 84, 3) := by decide +kernel
theorem dX12_house_157 : decode cX12_house 157 = .ok (.bipush 10, 2) := by decide +kernel
theorem dX12_house_159 : decode cX12_house 159 = .ok (.idiv, 1) := by decide +kernel
theorem dX12_house_160 : decode cX12_house 160 = .ok (.aload_n 0, 1) := by decide +kernel
theorem dX12_house_161 : decode cX12_house 161 = .ok (.iload_n 1, 1) := by decide +kernel
theorem dX12_house_162 : decode cX12_house 162 = .ok (.iconst 2, 1) := by decide +kernel
theorem dX12_house_163 : decode cX12_house 163 = .ok (.invokevirtual 84, 3) := by decide +kernel
theorem dX12_house_166 : decode cX12_house 166 = .ok (.iadd, 1) := by decide +kernel
theorem dX12_house_167 : decode cX12_house 167 = .ok (.aload_n 0, 1) := by decide +kernel
theorem dX12_house_168 : decode cX12_house 168 = .ok (.iload_n 1, 1) := by decide +kernel
theorem dX12_house_169 : decode cX12_house 169 = .ok (.iconst 3, 1) := by decide +kernel
theorem dX12_house_170 : decode cX12_house 170 = .ok (.invokevirtual 84, 3) := by decide +kernel
theorem dX12_house_173 : decode cX12_house 173 = .ok (.iconst 5, 1) := by decide +kernel
theorem dX12_house_174 : decode cX12_house 174 = .ok (.idiv, 1) := by decide +kernel
theorem dX12_house_175 : decode cX12_house 175 = .ok (.isub, 1) := by decide +kernel
theorem dX12_house_176 : decode cX12_house 176 = .ok (.invokestatic 314, 3) := by decide +kernel
theorem dX12_house_179 : decode cX12_house 179 = .ok (.ireturn, 1) := by decide +kernel
theorem dX12_house_180 : decode cX12_house 180 = .ok (.aload_n 0, 1) := by decide +kernel
theorem dX12_house_181 : decode cX12_house 181 = .ok (.iload_n 1, 1) := by decide +kernel
theorem dX12_house_182 : decode cX12_house 182 = .ok (.invokevirtual 401, 3) := by decide +kernel
theorem dX12_house_185 : decode cX12_house 185 = .ok (.ireturn, 1) := by decide +kernel
set_option maxRecDepth 100000 in
set_option maxHeartbeats 200000 in
theorem T_X12_house_34 {X : CX} (hX : Ok X cX12_house 3 RX12 (some .int)) (hdx : dX X = 11) {r : Int32 × Hp} (x1 : Int32) (x2 : Int32) (t0 : Int32) (h : Hp) (hf : F_X12_house_34 x1 x2 t0 h = some r) : J X ((.inl (some (.int r.1)), r.2)) 34 [(0, .ref 30), (1, .int x1), (2, .int x2)] [.int t0, .ref 30] h := by
  unfold F_X12_house_34 at hf
  refine J_iconst hX 2 dX12_house_34 rfl ?_
  obtain ⟨r_1, e_2, hf⟩ := bdE hf
  refine V_1 hX [.int t0, .int 2] dX12_house_35 cw_X12_280 ob_30 rfl (C_X12_throwsIf (okG hX) e_2) (ltD hdx rfl) rfl rfl rfl rfl ?_
  rcases ifE hf with ⟨c_3, hf⟩ | ⟨c_3, hf⟩
  · refine J_if_eqF hX 43 dX12_house_38 rfl (b2iT c_3) ?_
    refine J_iconst hX 0 dX12_house_41 rfl ?_
    exact E_Ii hX dX12_house_42 hf
  · refine J_if_eqT hX 43 dX12_house_38 rfl (b2iF c_3) ?_
    refine J_iload_n hX 2 dX12_house_43 rfl rfl ?_
    refine J_iconst hX 4 dX12_house_44 rfl ?_
    rcases ifE hf with ⟨c_4, hf⟩ | ⟨c_4, hf⟩
    · refine J_icmp_gtT hX 55 dX12_house_45 rfl c_4 ?_
      refine J_aload_n hX 0 dX12_house_55 rfl rfl ?_
      refine J_iload_n hX 1 dX12_house_56 rfl rfl ?_
      obtain ⟨r_5, e_6, hf⟩ := bdE hf
      refine V_1 hX [.int x1] dX12_house_57 cw_X12_91 ob_30 rfl (C_X12_isFallen (okG hX) e_6) (ltD hdx rfl) rfl rfl rfl rfl ?_
      rcases ifE hf with ⟨c_7, hf⟩ | ⟨c_7, hf⟩
      · refine J_if_eqF hX 65 dX12_house_60 rfl (b2iT c_7) ?_
        refine J_iconst hX 0 dX12_house_63 rfl ?_
        exact E_Ii hX dX12_house_64 hf
      · refine J_if_eqT hX 65 dX12_house_60 rfl (b2iF c_7) ?_
        refine J_aload_n hX 0 dX12_house_65 rfl rfl ?_
        obtain ⟨r_8, e_9, hf⟩ := bdE hf
        refine V_0 hX [] dX12_house_66 cw_X12_395 ob_30 rfl (C_X12_laysNow (okG hX) e_9) (ltD hdx rfl) rfl rfl rfl rfl ?_
        refine J_iload_n hX 2 dX12_house_69 rfl rfl ?_
        rcases ifE hf with ⟨c_10, hf⟩ | ⟨c_10, hf⟩
        · refine J_nm c_10 ?_
          refine J_switchIn hX (off := 42) 112 dX12_house_70 (by decide) (by decide) (by decide) rfl ?_
          refine J_aload_n hX 0 dX12_house_112 rfl rfl ?_
          refine J_getR hX 36 dX12_house_113 fl_X12_29 ob_30 rfl rfl ?_
          refine J_iload_n hX 1 dX12_house_116 rfl rfl ?_
          obtain ⟨g_11, hf⟩ := gdE hf
          refine J_ald hX x1.toNatClampNeg dX12_house_117 ar_36 (Or.inl ⟨rfl, rfl⟩) g_11 rfl ?_
          exact E_Ii hX dX12_house_118 hf
        rcases ifE hf with ⟨c_12, hf⟩ | ⟨c_12, hf⟩
        · refine J_nm c_12 ?_
          refine J_switchIn hX (off := 49) 119 dX12_house_70 (by decide) (by decide) (by decide) rfl ?_
          refine J_aload_n hX 0 dX12_house_119 rfl rfl ?_
          refine J_iload_n hX 1 dX12_house_120 rfl rfl ?_
          obtain ⟨r_13, e_14, hf⟩ := bdE hf
          refine V_1 hX [.int x1] dX12_house_121 cw_X12_322 ob_30 rfl (C_X12_bearsNow (okG hX) e_14) (ltD hdx rfl) rfl rfl rfl rfl ?_
          exact E_Ii hX dX12_house_124 hf
        rcases ifE hf with ⟨c_15, hf⟩ | ⟨c_15, hf⟩
        · refine J_nm c_15 ?_
          refine J_switchIn hX (off := 55) 125 dX12_house_70 (by decide) (by decide) (by decide) rfl ?_
          refine J_aload_n hX 0 dX12_house_125 rfl rfl ?_
          refine J_iload_n hX 1 dX12_house_126 rfl rfl ?_
          obtain ⟨r_16, e_17, hf⟩ := bdE hf
          refine V_1 hX [.int x1] dX12_house_127 cw_X12_325 ob_30 rfl (C_X12_standsBy (okG hX) e_17) (ltD hdx rfl) rfl rfl rfl rfl ?_
          exact E_Ii hX dX12_house_130 hf
        rcases ifE hf with ⟨c_18, hf⟩ | ⟨c_18, hf⟩
        · refine J_nm c_18 ?_
          refine J_switchIn hX (off := 61) 131 dX12_house_70 (by decide) (by decide) (by decide) rfl ?_
          refine J_aload_n hX 0 dX12_house_131 rfl rfl ?_
          refine J_iload_n hX 1 dX12_house_132 rfl rfl ?_
          obtain ⟨r_19, e_20, hf⟩ := bdE hf
          refine V_1 hX [.int x1] dX12_house_133 cw_X12_337 ob_30 rfl (C_X12_sagsNow (okG hX) e_20) (ltD hdx rfl) rfl rfl rfl rfl ?_
          exact E_Ii hX dX12_house_136 hf
        rcases ifE hf with ⟨c_21, hf⟩ | ⟨c_21, hf⟩
        · refine J_nm c_21 ?_
          refine J_switchIn hX (off := 67) 137 dX12_house_70 (by decide) (by decide) (by decide) rfl ?_
          refine J_aload_n hX 0 dX12_house_137 rfl rfl ?_
          refine J_iconst hX 2 dX12_house_138 rfl ?_
          refine J_iload_n hX 1 dX12_house_139 rfl rfl ?_
          obtain ⟨r_22, e_23, hf⟩ := bdE hf
          refine V_1 hX [.int 2, .int x1] dX12_house_140 cw_X12_311 ob_30 rfl (C_X12_sumOf (okG hX) e_23) (ltD hdx rfl) rfl rfl rfl rfl ?_
          exact E_Ii hX dX12_house_143 hf
        rcases ifE hf with ⟨c_24, hf⟩ | ⟨c_24, hf⟩
        · refine J_nm c_24 ?_
          refine J_switchIn hX (off := 74) 144 dX12_house_70 (by decide) (by decide) (by decide) rfl ?_
          refine J_aload_n hX 0 dX12_house_144 rfl rfl ?_
          refine J_iload_n hX 1 dX12_house_145 rfl rfl ?_
          obtain ⟨r_25, e_26, hf⟩ := bdE hf
          refine V_1 hX [.int x1] dX12_house_146 cw_X12_398 ob_30 rfl (C_X12_shareOf (okG hX) e_26) (ltD hdx rfl) rfl rfl rfl rfl ?_
          exact E_Ii hX dX12_house_149 hf
        rcases ifE hf with ⟨c_27, hf⟩ | ⟨c_27, hf⟩
        · refine J_nm c_27 ?_
          refine J_switchIn hX (off := 80) 150 dX12_house_70 (by decide) (by decide) (by decide) rfl ?_
          refine J_iconst hX 0 dX12_house_150 rfl ?_
          refine J_aload_n hX 0 dX12_house_151 rfl rfl ?_
          refine J_iload_n hX 1 dX12_house_152 rfl rfl ?_
          refine J_iconst hX 1 dX12_house_153 rfl ?_
          obtain ⟨r_28, e_29, hf⟩ := bdE hf
          refine V_1 hX [.int x1, .int 1] dX12_house_154 cw_X12_84 ob_30 rfl (C_X12_of (okG hX) e_29) (ltD hdx rfl) rfl rfl rfl rfl ?_
          refine J_bipush hX 10 dX12_house_157 rfl ?_
          refine J_idiv hX (by decide) dX12_house_159 ?_
          refine J_aload_n hX 0 dX12_house_160 rfl rfl ?_
          refine J_iload_n hX 1 dX12_house_161 rfl rfl ?_
          refine J_iconst hX 2 dX12_house_162 rfl ?_
          obtain ⟨r_30, e_31, hf⟩ := bdE hf
          refine V_1 hX [.int x1, .int 2] dX12_house_163 cw_X12_84 ob_30 rfl (C_X12_of (okG hX) e_31) (ltD hdx rfl) rfl rfl rfl rfl ?_
          refine J_iadd hX dX12_house_166 ?_
          refine J_aload_n hX 0 dX12_house_167 rfl rfl ?_
          refine J_iload_n hX 1 dX12_house_168 rfl rfl ?_
          refine J_iconst hX 3 dX12_house_169 rfl ?_
          obtain ⟨r_32, e_33, hf⟩ := bdE hf
          refine V_1 hX [.int x1, .int 3] dX12_house_170 cw_X12_84 ob_30 rfl (C_X12_of (okG hX) e_33) (ltD hdx rfl) rfl rfl rfl rfl ?_
          refine J_iconst hX 5 dX12_house_173 rfl ?_
          refine J_idiv hX (by decide) dX12_house_174 ?_
          refine J_isub hX dX12_house_175 ?_
          refine J_max hX dX12_house_176 mw_X12_314 (ltD hdx rfl) rfl ?_
          exact E_Ii hX dX12_house_179 hf
        refine J_switchOut hX 180 dX12_house_70 (sw_def 5 11 x2 (fun v_ a_ b_ => ?_)) rfl ?_
        · rcases (show v_ = 5 ∨ v_ = 6 ∨ v_ = 7 ∨ v_ = 8 ∨ v_ = 9 ∨ v_ = 10 ∨ v_ = 11 by omega) with rfl | rfl | rfl | rfl | rfl | rfl | rfl
          · exact c_10
          · exact c_12
          · exact c_15
          · exact c_18
          · exact c_21
          · exact c_24
          · exact c_27
        refine J_aload_n hX 0 dX12_house_180 rfl rfl ?_
        refine J_iload_n hX 1 dX12_house_181 rfl rfl ?_
        obtain ⟨r_34, e_35, hf⟩ := bdE hf
        refine V_1 hX [.int x1] dX12_house_182 cw_X12_401 ob_30 rfl (C_X12_gateOf (okG hX) e_35) (ltD hdx rfl) rfl rfl rfl rfl ?_
        exact E_Ii hX dX12_house_185 hf
    · refine J_icmp_gtF hX 55 dX12_house_45 rfl c_4 ?_
      refine J_aload_n hX 0 dX12_house_48 rfl rfl ?_
      refine J_iload_n hX 1 dX12_house_49 rfl rfl ?_
      refine J_iload_n hX 2 dX12_house_50 rfl rfl ?_
      obtain ⟨r_36, e_37, hf⟩ := bdE hf
      refine V_1 hX [.int x1, .int x2] dX12_house_51 cw_X12_84 ob_30 rfl (C_X12_of (okG hX) e_37) (ltD hdx rfl) rfl rfl rfl rfl ?_
      exact E_Ii hX dX12_house_54 hf
set_option maxRecDepth 100000 in
set_option maxHeartbeats 200000 in
theorem T_X12_house_0 {X : CX} (hX : Ok X cX12_house 3 RX12 (some .int)) (hdx : dX X = 11) {r : Int32 × Hp} (x1 : Int32) (x2 : Int32) (h : Hp) (hf : f_X12_house x1 x2 h = some r) : J X ((.inl (some (.int r.1)), r.2)) 0 [(0, .ref 30), (1, .int x1), (2, .int x2)] [] h := by
  unfold f_X12_house at hf
  refine J_aload_n hX 0 dX12_house_0 rfl rfl ?_
  refine J_iconst hX 0 dX12_house_1 rfl ?_
  obtain ⟨h_1, e_2, hf⟩ := bndE hf
  refine J_putI hX dX12_house_2 fl_X12_3 fw_10_0 ob_30 rfl rfl rfl ?_
  refine J_nmh e_2 ?_
  refine J_aload_n hX 0 dX12_house_5 rfl rfl ?_
  refine J_aload_n hX 0 dX12_house_6 rfl rfl ?_
  refine J_iload_n hX 1 dX12_house_7 rfl rfl ?_
  refine V_1 hX [.int x1] dX12_house_8 cw_X12_392 ob_30 rfl (C_X12_noHouse (okG hX) rfl) (ltD hdx rfl) rfl rfl rfl rfl ?_
  refine J_iconst hX 1 dX12_house_11 rfl ?_
  obtain ⟨r_3, e_4, hf⟩ := bdE hf
  refine V_1 hX [.int (b2i (f_X12_noHouse x1 h_1)), .int 1] dX12_house_12 cw_X12_280 ob_30 rfl (C_X12_throwsIf (okG hX) e_4) (ltD hdx rfl) rfl rfl rfl rfl ?_
  rcases ifE hf with ⟨c_5, hf⟩ | ⟨c_5, hf⟩
  · refine J_if_neT hX 41 dX12_house_15 rfl (b2iT c_5) ?_
    refine J_iconst hX 0 dX12_house_41 rfl ?_
    exact E_Ii hX dX12_house_42 hf
  · refine J_if_neF hX 41 dX12_house_15 rfl (b2iF c_5) ?_
    refine J_aload_n hX 0 dX12_house_18 rfl rfl ?_
    refine J_iload_n hX 2 dX12_house_19 rfl rfl ?_
    refine J_iconst hX 0 dX12_house_20 rfl ?_
    refine J_bipush hX 12 dX12_house_21 rfl ?_
    refine S_1 hX [.int x2, .int 0, .int 12] dX12_house_23 cw_X12_95 (C_X12_in (okG hX) rfl) (ltD hdx rfl) rfl rfl rfl rfl ?_
    rcases ifE hf with ⟨c_6, hf⟩ | ⟨c_6, hf⟩
    · refine J_if_neT hX 33 dX12_house_26 rfl (b2iT c_6) ?_
      refine J_iconst hX 0 dX12_house_33 rfl ?_
      exact T_X12_house_34 hX hdx x1 x2 0 r_3.2 hf
    · refine J_if_neF hX 33 dX12_house_26 rfl (b2iF c_6) ?_
      refine J_iconst hX 1 dX12_house_29 rfl ?_
      refine J_goto hX 34 dX12_house_30 rfl ?_
      exact T_X12_house_34 hX hdx x1 x2 1 r_3.2 hf
set_option maxRecDepth 100000 in
set_option maxHeartbeats 200000 in
theorem C_X12_house {G : GX} (hG : GOk G) {x1 : Int32} {x2 : Int32} {h : Hp} {r : Int32 × Hp} (hf : f_X12_house x1 x2 h = some r) : Ctr G 11 yX12_house cX12_house 3 (some .int) [.ref 30, .int x1, .int x2] h ((.inl (some (.int r.1)), r.2)) :=
  Ctr_of hG RX12 rfl (by decide) rfl (fun X _ hdx hX => T_X12_house_0 hX hdx x1 x2 h hf)
theorem dX12_part_0 : decode cX12_part 0 = .ok (.aload_n 0, 1) := by decide +kernel
theorem dX12_part_1 : decode cX12_part 1 = .ok (.iconst 0, 1) := by decide +kernel
theorem dX12_part_2 : decode cX12_part 2 = .ok (.putfield 3, 3) := by decide +kernel
theorem dX12_part_5 : decode cX12_part 5 = .ok (.aload_n 0, 1) := by decide +kernel
theorem dX12_part_6 : decode cX12_part 6 = .ok (.aload_n 0, 1) := by decide +kernel
theorem dX12_part_7 : decode cX12_part 7 = .ok (.iload_n 1, 1) := by decide +kernel
theorem dX12_part_8 : decode cX12_part 8 = .ok (.invokevirtual 392, 3) := by decide +kernel
theorem dX12_part_11 : decode cX12_part 11 = .ok (.ifCond .ne 11, 3) := by decide +kernel
theorem dX12_part_14 : decode cX12_part 14 = .ok (.aload_n 0, 1) := by decide +kernel
theorem dX12_part_15 : decode cX12_part 15 = .ok (.iload_n 2, 1) := by decide +kernel
theorem dX12_part_16 : decode cX12_part 16 = .ok (.invokevirtual 392, 3) := by decide +kernel
theorem dX12_part_19 : decode cX12_part 19 = .ok (.ifCond .eq 7, 3) := by decide +kernel
theorem dX12_part_22 : decode cX12_part 22 = .ok (.iconst 1, 1) := by decide +kernel
theorem dX12_part_23 : decode cX12_part 23 = .ok (.goto 4, 3) := by decide +kernel
theorem dX12_part_26 : decode cX12_part 26 = .ok (.iconst 0, 1) := by decide +kernel
theorem dX12_part_27 : decode cX12_part 27 = .ok (.iconst 1, 1) := by decide +kernel
theorem dX12_part_28 : decode cX12_part 28 = .ok (.invokevirtual 280, 3) := by decide +kernel
theorem dX12_part_31 : decode cX12_part 31 = .ok (.ifCond .eq 7, 3) := by decide +kernel
theorem dX12_part_34 : decode cX12_part 34 = .ok (.iconst 0, 1) := by decide +kernel
theorem dX12_part_35 : decode cX12_part 35 = .ok (.goto 9, 3) := by decide +kernel
theorem dX12_part_38 : decode cX12_part 38 = .ok (.aload_n 0, 1) := by decide +kernel
theorem dX12_part_39 : decode cX12_part 39 = .ok (.iload_n 1, 1) := by decide +kernel
theorem dX12_part_40 : decode cX12_part 40 = .ok (.iload_n 2, 1) := by decide +kernel
theorem dX12_part_41 : decode cX12_part 41 = .ok (.invokevirtual 103, 3) := by decide +kernel
theorem dX12_part_44 : decode cX12_part 44 = .ok (.ireturn, 1) := by decide +kernel
set_option maxRecDepth 100000 in
set_option maxHeartbeats 200000 in
theorem T_X12_part_27 {X : CX} (hX : Ok X cX12_part 3 RX12 (some .int)) (hdx : dX X = 4) {r : Int32 × Hp} (x1 : Int32) (x2 : Int32) (t0 : Int32) (h : Hp) (hf : F_X12_part_27 x1 x2 t0 h = some r) : J X ((.inl (some (.int r.1)), r.2)) 27 [(0, .ref 30), (1, .int x1), (2, .int x2)] [.int t0, .ref 30] h := by
  unfold F_X12_part_27 at hf
  refine J_iconst hX 1 dX12_part_27 rfl ?_
  obtain ⟨r_1, e_2, hf⟩ := bdE hf
  refine V_1 hX [.int t0, .int 1] dX12_part_28 cw_X12_280 ob_30 rfl (C_X12_throwsIf (okG hX) e_2) (ltD hdx rfl) rfl rfl rfl rfl ?_
  rcases ifE hf with ⟨c_3, hf⟩ | ⟨c_3, hf⟩
  · refine J_if_eqF hX 38 dX12_part_31 rfl (b2iT c_3) ?_
    refine J_iconst hX 0 dX12_part_34 rfl ?_
    refine J_goto hX 44 dX12_part_35 rfl ?_
    exact E_Ii hX dX12_part_44 hf
  · refine J_if_eqT hX 38 dX12_part_31 rfl (b2iF c_3) ?_
    refine J_aload_n hX 0 dX12_part_38 rfl rfl ?_
    refine J_iload_n hX 1 dX12_part_39 rfl rfl ?_
    refine J_iload_n hX 2 dX12_part_40 rfl rfl ?_
    obtain ⟨r_4, e_5, hf⟩ := bdE hf
    refine V_1 hX [.int x1, .int x2] dX12_part_41 cw_X12_103 ob_30 rfl (C_X12_partOf (okG hX) e_5) (ltD hdx rfl) rfl rfl rfl rfl ?_
    exact E_Ii hX dX12_part_44 hf
set_option maxRecDepth 100000 in
set_option maxHeartbeats 200000 in
theorem T_X12_part_0 {X : CX} (hX : Ok X cX12_part 3 RX12 (some .int)) (hdx : dX X = 4) {r : Int32 × Hp} (x1 : Int32) (x2 : Int32) (h : Hp) (hf : f_X12_part x1 x2 h = some r) : J X ((.inl (some (.int r.1)), r.2)) 0 [(0, .ref 30), (1, .int x1), (2, .int x2)] [] h := by
  unfold f_X12_part at hf
  refine J_aload_n hX 0 dX12_part_0 rfl rfl ?_
  refine J_iconst hX 0 dX12_part_1 rfl ?_
  obtain ⟨h_1, e_2, hf⟩ := bndE hf
  refine J_putI hX dX12_part_2 fl_X12_3 fw_10_0 ob_30 rfl rfl rfl ?_
  refine J_nmh e_2 ?_
  refine J_aload_n hX 0 dX12_part_5 rfl rfl ?_
  refine J_aload_n hX 0 dX12_part_6 rfl rfl ?_
  refine J_iload_n hX 1 dX12_part_7 rfl rfl ?_
  refine V_1 hX [.int x1] dX12_part_8 cw_X12_392 ob_30 rfl (C_X12_noHouse (okG hX) rfl) (ltD hdx rfl) rfl rfl rfl rfl ?_
  rcases ifE hf with ⟨c_3, hf⟩ | ⟨c_3, hf⟩
  · refine J_if_neT hX 22 dX12_part_11 rfl (b2iT c_3) ?_
    refine J_iconst hX 1 dX12_part_22 rfl ?_
    refine J_goto hX 27 dX12_part_23 rfl ?_
    exact T_X12_part_27 hX hdx x1 x2 1 h_1 hf
  · refine J_if_neF hX 22 dX12_part_11 rfl (b2iF c_3) ?_
    refine J_aload_n hX 0 dX12_part_14 rfl rfl ?_
    refine J_iload_n hX 2 dX12_part_15 rfl rfl ?_
    refine V_1 hX [.int x2] dX12_part_16 cw_X12_392 ob_30 rfl (C_X12_noHouse (okG hX) rfl) (ltD hdx rfl) rfl rfl rfl rfl ?_
    rcases ifE hf with ⟨c_4, hf⟩ | ⟨c_4, hf⟩
    · refine J_if_eqF hX 26 dX12_part_19 rfl (b2iT c_4) ?_
      refine J_iconst hX 1 dX12_part_22 rfl ?_
      refine J_goto hX 27 dX12_part_23 rfl ?_
      exact T_X12_part_27 hX hdx x1 x2 1 h_1 hf
    · refine J_if_eqT hX 26 dX12_part_19 rfl (b2iF c_4) ?_
      refine J_iconst hX 0 dX12_part_26 rfl ?_
      exact T_X12_part_27 hX hdx x1 x2 0 h_1 hf
set_option maxRecDepth 100000 in
set_option maxHeartbeats 200000 in
theorem C_X12_part {G : GX} (hG : GOk G) {x1 : Int32} {x2 : Int32} {h : Hp} {r : Int32 × Hp} (hf : f_X12_part x1 x2 h = some r) : Ctr G 4 yX12_part cX12_part 3 (some .int) [.ref 30, .int x1, .int x2] h ((.inl (some (.int r.1)), r.2)) :=
  Ctr_of hG RX12 rfl (by decide) rfl (fun X _ hdx hX => T_X12_part_0 hX hdx x1 x2 h hf)
theorem dX12_needsOf_0 : decode cX12_needsOf 0 = .ok (.aload_n 0, 1) := by decide +kernel
theorem dX12_needsOf_1 : decode cX12_needsOf 1 = .ok (.iload_n 2, 1) := by decide +kernel
theorem dX12_needsOf_2 : decode cX12_needsOf 2 = .ok (.invokevirtual 404, 3) := by decide +kernel
theorem dX12_needsOf_5 : decode cX12_needsOf 5 = .ok (.istore_n 3, 1) := by decide +kernel
theorem dX12_needsOf_6 : decode cX12_needsOf 6 = .ok (.aload_n 0, 1) := by decide +kernel
theorem dX12_needsOf_7 : decode cX12_needsOf 7 = .ok (.invokevirtual 356, 3) := by decide +kernel
theorem dX12_needsOf_10 : decode cX12_needsOf 10 = .ok (.aload_n 0, 1) := by decide +kernel
theorem dX12_needsOf_11 : decode cX12_needsOf 11 = .ok (.getfield 13, 3) := by decide +kernel
theorem dX12_needsOf_14 : decode cX12_needsOf 14 = .ok (.iload_n 1, 1) := by decide +kernel
theorem dX12_needsOf_15 : decode cX12_needsOf 15 = .ok (.iconst 0, 1) := by decide +kernel
theorem dX12_needsOf_16 : decode cX12_needsOf 16 = .ok (.invokestatic 81, 3) := by decide +kernel
theorem dX12_needsOf_19 : decode cX12_needsOf 19 = .ok (.iconst (-1), 1) := by decide +kernel
theorem dX12_needsOf_20 : decode cX12_needsOf 20 = .ok (.iastore, 1) := by decide +kernel
theorem dX12_needsOf_21 : decode cX12_needsOf 21 = .ok (.aload_n 0, 1) := by decide +kernel
theorem dX12_needsOf_22 : decode cX12_needsOf 22 = .ok (.iload_n 2, 1) := by decide +kernel
theorem dX12_needsOf_23 : decode cX12_needsOf 23 = .ok (.invokevirtual 359, 3) := by decide +kernel
theorem dX12_needsOf_26 : decode cX12_needsOf 26 = .ok (.iload_n 3, 1) := by decide +kernel
theorem dX12_needsOf_27 : decode cX12_needsOf 27 = .ok (.iconst (-1), 1) := by decide +kernel
theorem dX12_needsOf_28 : decode cX12_needsOf 28 = .ok (.ixor, 1) := by decide +kernel
theorem dX12_needsOf_29 : decode cX12_needsOf 29 = .ok (.iand, 1) := by decide +kernel
theorem dX12_needsOf_30 : decode cX12_needsOf 30 = .ok (.ireturn, 1) := by decide +kernel
set_option maxRecDepth 100000 in
set_option maxHeartbeats 200000 in
theorem T_X12_needsOf_0 {X : CX} (hX : Ok X cX12_needsOf 4 RX12 (some .int)) (hdx : dX X = 15) {r : Int32 × Hp} (x1 : Int32) (x2 : Int32) (h : Hp) (hf : f_X12_needsOf x1 x2 h = some r) : J X ((.inl (some (.int r.1)), r.2)) 0 [(0, .ref 30), (1, .int x1), (2, .int x2)] [] h := by
  unfold f_X12_needsOf at hf
  refine J_aload_n hX 0 dX12_needsOf_0 rfl rfl ?_
  refine J_iload_n hX 2 dX12_needsOf_1 rfl rfl ?_
  obtain ⟨r_1, e_2, hf⟩ := bdE hf
  refine V_1 hX [.int x2] dX12_needsOf_2 cw_X12_404 ob_30 rfl (C_X12_fallsIn (okG hX) e_2) (ltD hdx rfl) rfl rfl rfl rfl ?_
  refine J_istore_n hX [(3, .int r_1.1), (0, .ref 30), (1, .int x1), (2, .int x2)] dX12_needsOf_5 rfl rfl rfl ?_
  refine J_aload_n hX 1 dX12_needsOf_6 rfl rfl ?_
  obtain ⟨r_3, e_4, hf⟩ := bdE hf
  refine V_0 hX [] dX12_needsOf_7 cw_X12_356 ob_30 rfl (C_X12_keepsAll (okG hX) e_4) (ltD hdx rfl) rfl rfl rfl rfl ?_
  refine J_aload_n hX 1 dX12_needsOf_10 rfl rfl ?_
  refine J_getR hX 31 dX12_needsOf_11 fl_X12_13 ob_30 rfl rfl ?_
  refine J_iload_n hX 2 dX12_needsOf_14 rfl rfl ?_
  refine J_iconst hX 0 dX12_needsOf_15 rfl ?_
  refine S_1 hX [.int x1, .int 0] dX12_needsOf_16 cw_X12_81 (C_X12_personAt (okG hX) rfl) (ltD hdx rfl) rfl rfl rfl rfl ?_
  refine J_iconst hX (-1) dX12_needsOf_19 rfl ?_
  obtain ⟨g_5, hf⟩ := gdE hf
  obtain ⟨h_6, e_7, hf⟩ := bndE hf
  refine J_ast hX ((f_X12_personAt x1 0 r_3).toNatClampNeg) (-1) dX12_needsOf_20 ar_31 (Or.inl ⟨rfl, rfl, rfl⟩) g_5 rfl ?_
  refine J_nmh e_7 ?_
  refine J_aload_n hX 1 dX12_needsOf_21 rfl rfl ?_
  refine J_iload_n hX 3 dX12_needsOf_22 rfl rfl ?_
  obtain ⟨r_8, e_9, hf⟩ := bdE hf
  refine V_1 hX [.int x2] dX12_needsOf_23 cw_X12_359 ob_30 rfl (C_X12_wouldFall (okG hX) e_9) (ltD hdx rfl) rfl rfl rfl rfl ?_
  refine J_iload_n hX 0 dX12_needsOf_26 rfl rfl ?_
  refine J_iconst hX (-1) dX12_needsOf_27 rfl ?_
  refine J_ixor hX dX12_needsOf_28 ?_
  refine J_iand hX dX12_needsOf_29 ?_
  exact E_Ii hX dX12_needsOf_30 hf
set_option maxRecDepth 100000 in
set_option maxHeartbeats 200000 in
theorem C_X12_needsOf {G : GX} (hG : GOk G) {x1 : Int32} {x2 : Int32} {h : Hp} {r : Int32 × Hp} (hf : f_X12_needsOf x1 x2 h = some r) : Ctr G 15 yX12_needsOf cX12_needsOf 4 (some .int) [.ref 30, .int x1, .int x2] h ((.inl (some (.int r.1)), r.2)) :=
  Ctr_of hG RX12 rfl (by decide) rfl (fun X _ hdx hX => T_X12_needsOf_0 hX hdx x1 x2 h hf)
theorem dX12_person_0 : decode cX12_person 0 = .ok (.aload_n 0, 1) := by decide +kernel
theorem dX12_person_1 : decode cX12_person 1 = .ok (.iconst 0, 1) := by decide +kernel
theorem dX12_person_2 : decode cX12_person 2 = .ok (.putfield 3, 3) := by decide +kernel
theorem dX12_person_5 : decode cX12_person 5 = .ok (.aload_n 0, 1) := by decide +kernel
theorem dX12_person_6 : decode cX12_person 6 = .ok (.aload_n 0, 1) := by decide +kernel
theorem dX12_person_7 : decode cX12_person 7 = .ok (.iload_n 1, 1) := by decide +kernel
theorem dX12_person_8 : decode cX12_person 8 = .ok (.invokevirtual 407, 3) := by decide +kernel
theorem dX12_person_11 : decode cX12_person 11 = .ok (.iconst 1, 1) := by decide +kernel
theorem dX12_person_12 : decode cX12_person 12 = .ok (.invokevirtual 280, 3) := by decide +kernel
theorem dX12_person_15 : decode cX12_person 15 = .ok (.ifCond .ne 25, 3) := by decide +kernel
theorem dX12_person_18 : decode cX12_person 18 = .ok (.aload_n 0, 1) := by decide +kernel
theorem dX12_person_19 : decode cX12_person 19 = .ok (.iload_n 2, 1) := by decide +kernel
theorem dX12_person_20 : decode cX12_person 20 = .ok (.iconst 0, 1) := by decide +kernel
theorem dX12_person_21 : decode cX12_person 21 = .ok (.iconst 3, 1) := by decide +kernel
theorem dX12_person_22 : decode cX12_person 22 = .ok (.invokestatic 95, 3) := by decide +kernel
theorem dX12_person_25 : decode cX12_person 25 = .ok (.ifCond .ne 7, 3) := by decide +kernel
theorem dX12_person_28 : decode cX12_person 28 = .ok (.iconst 1, 1) := by decide +kernel
theorem dX12_person_29 : decode cX12_person 29 = .ok (.goto 4, 3) := by decide +kernel
theorem dX12_person_32 : decode cX12_person 32 = .ok (.iconst 0, 1) := by decide +kernel
theorem dX12_person_33 : decode cX12_person 33 = .ok (.iconst 2, 1) := by decide +kernel
theorem dX12_person_34 : decode cX12_person 34 = .ok (.invokevirtual 280, 3) := by decide +kernel
theorem dX12_person_37 : decode cX12_person 37 = .ok (.ifCond .eq 5, 3) := by decide +kernel
theorem dX12_person_40 : decode cX12_person 40 = .ok (.iconst 0, 1) := by decide +kernel
theorem dX12_person_41 : decode cX12_person 41 = .ok (.ireturn, 1) := by decide +kernel
theorem dX12_person_42 : decode cX12_person 42 = .ok (.iload_n 2, 1) := by decide +kernel
theorem dX12_person_43 : decode cX12_person 43 = .ok (.iconst 3, 1) := by decide +kernel
theorem dX12_person_44 : decode cX12_person 44 = .ok (.if_icmp .ne 17, 3) := by decide +kernel
theorem dX12_person_47 : decode cX12_person 47 = .ok (.aload_n 0, 1) := by decide +kernel
theorem dX12_person_48 : decode cX12_person 48 = .ok (.iload_n 1, 1) := by decide +kernel
theorem dX12_person_49 : decode cX12_person 49 = .ok (.aload_n 0, 1) := by decide +kernel
theorem dX12_person_50 : decode cX12_person 50 = .ok (.getfield 13, 3) := by decide +kernel
theorem dX12_person_53 : decode cX12_person 53 = .ok (.iconst 4, 1) := by decide +kernel
theorem dX12_person_54 : decode cX12_person 54 = .ok (.iaload, 1) := by decide +kernel
theorem dX12_person_55 : decode cX12_person 55 = .ok (.invokevirtual 410, 3) := by decide +kernel
theorem dX12_person_58 : decode cX12_person 58 = .ok (.goto 9, 3) := by decide +kernel
theorem dX12_person_61 : decode cX12_person 61 = .ok (.aload_n 0, 1) := by decide +kernel
theorem dX12_person_62 : decode cX12_person 62 = .ok (.iload_n 1, 1) := by decide +kernel
theorem dX12_person_63 : decode cX12_person 63 = .ok (.iload_n 2, 1) := by decide +kernel
theorem dX12_person_64 : decode cX12_person 64 = .ok (.invokevirtual 283, 3) := by decide +kernel
theorem dX12_person_67 : decode cX12_person 67 = .ok (.ireturn, 1) := by decide +kernel
set_option maxRecDepth 100000 in
set_option maxHeartbeats 200000 in
theorem T_X12_person_33 {X : CX} (hX : Ok X cX12_person 3 RX12 (some .int)) (hdx : dX X = 16) {r : Int32 × Hp} (x1 : Int32) (x2 : Int32) (t0 : Int32) (h : Hp) (hf : F_X12_person_33 x1 x2 t0 h = some r) : J X ((.inl (some (.int r.1)), r.2)) 33 [(0, .ref 30), (1, .int x1), (2, .int x2)] [.int t0, .ref 30] h := by
  unfold F_X12_person_33 at hf
  refine J_iconst hX 2 dX12_person_33 rfl ?_
  obtain ⟨r_1, e_2, hf⟩ := bdE hf
  refine V_1 hX [.int t0, .int 2] dX12_person_34 cw_X12_280 ob_30 rfl (C_X12_throwsIf (okG hX) e_2) (ltD hdx rfl) rfl rfl rfl rfl ?_
  rcases ifE hf with ⟨c_3, hf⟩ | ⟨c_3, hf⟩
  · refine J_if_eqF hX 42 dX12_person_37 rfl (b2iT c_3) ?_
    refine J_iconst hX 0 dX12_person_40 rfl ?_
    exact E_Ii hX dX12_person_41 hf
  · refine J_if_eqT hX 42 dX12_person_37 rfl (b2iF c_3) ?_
    refine J_iload_n hX 2 dX12_person_42 rfl rfl ?_
    refine J_iconst hX 3 dX12_person_43 rfl ?_
    rcases ifE hf with ⟨c_4, hf⟩ | ⟨c_4, hf⟩
    · refine J_icmp_neF hX 61 dX12_person_44 rfl c_4 ?_
      refine J_aload_n hX 0 dX12_person_47 rfl rfl ?_
      refine J_iload_n hX 1 dX12_person_48 rfl rfl ?_
      refine J_aload_n hX 0 dX12_person_49 rfl rfl ?_
      refine J_getR hX 31 dX12_person_50 fl_X12_13 ob_30 rfl rfl ?_
      refine J_iconst hX 4 dX12_person_53 rfl ?_
      refine J_ald hX 4 dX12_person_54 ar_31 (Or.inl ⟨rfl, rfl⟩) (by decide) (by decide) ?_
      obtain ⟨r_5, e_6, hf⟩ := bdE hf
      refine V_1 hX [.int x1, .int (r_1.2 31 4)] dX12_person_55 cw_X12_410 ob_30 rfl (C_X12_needsOf (okG hX) e_6) (ltD hdx rfl) rfl rfl rfl rfl ?_
      refine J_goto hX 67 dX12_person_58 rfl ?_
      exact E_Ii hX dX12_person_67 hf
    · refine J_icmp_neT hX 61 dX12_person_44 rfl c_4 ?_
      refine J_aload_n hX 0 dX12_person_61 rfl rfl ?_
      refine J_iload_n hX 1 dX12_person_62 rfl rfl ?_
      refine J_iload_n hX 2 dX12_person_63 rfl rfl ?_
      obtain ⟨r_7, e_8, hf⟩ := bdE hf
      refine V_1 hX [.int x1, .int x2] dX12_person_64 cw_X12_283 ob_30 rfl (C_X12_ofPerson (okG hX) e_8) (ltD hdx rfl) rfl rfl rfl rfl ?_
      exact E_Ii hX dX12_person_67 hf
set_option maxRecDepth 100000 in
set_option maxHeartbeats 200000 in
theorem T_X12_person_0 {X : CX} (hX : Ok X cX12_person 3 RX12 (some .int)) (hdx : dX X = 16) {r : Int32 × Hp} (x1 : Int32) (x2 : Int32) (h : Hp) (hf : f_X12_person x1 x2 h = some r) : J X ((.inl (some (.int r.1)), r.2)) 0 [(0, .ref 30), (1, .int x1), (2, .int x2)] [] h := by
  unfold f_X12_person at hf
  refine J_aload_n hX 0 dX12_person_0 rfl rfl ?_
  refine J_iconst hX 0 dX12_person_1 rfl ?_
  obtain ⟨h_1, e_2, hf⟩ := bndE hf
  refine J_putI hX dX12_person_2 fl_X12_3 fw_10_0 ob_30 rfl rfl rfl ?_
  refine J_nmh e_2 ?_
  refine J_aload_n hX 0 dX12_person_5 rfl rfl ?_
  refine J_aload_n hX 0 dX12_person_6 rfl rfl ?_
  refine J_iload_n hX 1 dX12_person_7 rfl rfl ?_
  refine V_1 hX [.int x1] dX12_person_8 cw_X12_407 ob_30 rfl (C_X12_noPerson (okG hX) rfl) (ltD hdx rfl) rfl rfl rfl rfl ?_
  refine J_iconst hX 1 dX12_person_11 rfl ?_
  obtain ⟨r_3, e_4, hf⟩ := bdE hf
  refine V_1 hX [.int (b2i (f_X12_noPerson x1 h_1)), .int 1] dX12_person_12 cw_X12_280 ob_30 rfl (C_X12_throwsIf (okG hX) e_4) (ltD hdx rfl) rfl rfl rfl rfl ?_
  rcases ifE hf with ⟨c_5, hf⟩ | ⟨c_5, hf⟩
  · refine J_if_neT hX 40 dX12_person_15 rfl (b2iT c_5) ?_
    refine J_iconst hX 0 dX12_person_40 rfl ?_
    exact E_Ii hX dX12_person_41 hf
  · refine J_if_neF hX 40 dX12_person_15 rfl (b2iF c_5) ?_
    refine J_aload_n hX 0 dX12_person_18 rfl rfl ?_
    refine J_iload_n hX 2 dX12_person_19 rfl rfl ?_
    refine J_iconst hX 0 dX12_person_20 rfl ?_
    refine J_iconst hX 3 dX12_person_21 rfl ?_
    refine S_1 hX [.int x2, .int 0, .int 3] dX12_person_22 cw_X12_95 (C_X12_in (okG hX) rfl) (ltD hdx rfl) rfl rfl rfl rfl ?_
    rcases ifE hf with ⟨c_6, hf⟩ | ⟨c_6, hf⟩
    · refine J_if_neT hX 32 dX12_person_25 rfl (b2iT c_6) ?_
      refine J_iconst hX 0 dX12_person_32 rfl ?_
      exact T_X12_person_33 hX hdx x1 x2 0 r_3.2 hf
    · refine J_if_neF hX 32 dX12_person_25 rfl (b2iF c_6) ?_
      refine J_iconst hX 1 dX12_person_28 rfl ?_
      refine J_goto hX 33 dX12_person_29 rfl ?_
      exact T_X12_person_33 hX hdx x1 x2 1 r_3.2 hf
set_option maxRecDepth 100000 in
set_option maxHeartbeats 200000 in
theorem C_X12_person {G : GX} (hG : GOk G) {x1 : Int32} {x2 : Int32} {h : Hp} {r : Int32 × Hp} (hf : f_X12_person x1 x2 h = some r) : Ctr G 16 yX12_person cX12_person 3 (some .int) [.ref 30, .int x1, .int x2] h ((.inl (some (.int r.1)), r.2)) :=
  Ctr_of hG RX12 rfl (by decide) rfl (fun X _ hdx hX => T_X12_person_0 hX hdx x1 x2 h hf)
theorem dX12_build_0 : decode cX12_build 0 = .ok (.aload_n 0, 1) := by decide +kernel
theorem dX12_build_1 : decode cX12_build 1 = .ok (.iconst 0, 1) := by decide +kernel
theorem dX12_build_2 : decode cX12_build 2 = .ok (.putfield 3, 3) := by decide +kernel
theorem dX12_build_5 : decode cX12_build 5 = .ok (.aload_n 0, 1) := by decide +kernel
theorem dX12_build_6 : decode cX12_build 6 = .ok (.aload_n 0, 1) := by decide +kernel
theorem dX12_build_7 : decode cX12_build 7 = .ok (.iload_n 3, 1) := by decide +kernel
theorem dX12_build_8 : decode cX12_build 8 = .ok (.invokevirtual 392, 3) := by decide +kernel
theorem dX12_build_11 : decode cX12_build 11 = .ok (.iconst 1, 1) := by decide +kernel
theorem dX12_build_12 : decode cX12_build 12 = .ok (.invokevirtual 280, 3) := by decide +kernel
theorem dX12_build_15 : decode cX12_build 15 = .ok (.ifCond .ne 78, 3) := by decide +kernel
theorem dX12_build_18 : decode cX12_build 18 = .ok (.aload_n 0, 1) := by decide +kernel
theorem dX12_build_19 : decode cX12_build 19 = .ok (.iload_n 1, 1) := by decide +kernel
theorem dX12_build_20 : decode cX12_build 20 = .ok (.iconst 1, 1) := by decide +kernel
theorem dX12_build_21 : decode cX12_build 21 = .ok (.bipush 99, 2) := by decide +kernel
theorem dX12_build_23 : decode cX12_build 23 = .ok (.invokestatic 95, 3) := by decide +kernel
theorem dX12_build_26 : decode cX12_build 26 = .ok (.ifCond .eq 25, 3) := by decide +kernel
theorem dX12_build_29 : decode cX12_build 29 = .ok (.iload_n 2, 1) := by decide +kernel
theorem dX12_build_30 : decode cX12_build 30 = .ok (.iconst 0, 1) := by decide +kernel
theorem dX12_build_31 : decode cX12_build 31 = .ok (.sipush 999, 3) := by decide +kernel
theorem dX12_build_34 : decode cX12_build 34 = .ok (.invokestatic 95, 3) := by decide +kernel
theorem dX12_build_37 : decode cX12_build 37 = .ok (.ifCond .eq 14, 3) := by decide +kernel
theorem dX12_build_40 : decode cX12_build 40 = .ok (.iload 4, 2) := by decide +kernel
theorem dX12_build_42 : decode cX12_build 42 = .ok (.iconst 1, 1) := by decide +kernel
theorem dX12_build_43 : decode cX12_build 43 = .ok (.bipush 9, 2) := by decide +kernel
theorem dX12_build_45 : decode cX12_build 45 = .ok (.invokestatic 95, 3) := by decide +kernel
theorem dX12_build_48 : decode cX12_build 48 = .ok (.ifCond .ne 7, 3) := by decide +kernel
theorem dX12_build_51 : decode cX12_build 51 = .ok (.iconst 1, 1) := by decide +kernel
theorem dX12_build_52 : decode cX12_build 52 = .ok (.goto 4, 3) := by decide +kernel
theorem dX12_build_55 : decode cX12_build 55 = .ok (.iconst 0, 1) := by decide +kernel
theorem dX12_build_56 : decode cX12_build 56 = .ok (.iconst 2, 1) := by decide +kernel
theorem dX12_build_57 : decode cX12_build 57 = .ok (.invokevirtual 280, 3) := by decide +kernel
theorem dX12_build_60 : decode cX12_build 60 = .ok (.ifCond .ne 33, 3) := by decide +kernel
theorem dX12_build_63 : decode cX12_build 63 = .ok (.aload_n 0, 1) := by decide +kernel
theorem dX12_build_64 : decode cX12_build 64 = .ok (.aload_n 0, 1) := by decide +kernel
theorem dX12_build_65 : decode cX12_build 65 = .ok (.invokevirtual 87, 3) := by decide +kernel
theorem dX12_build_68 : decode cX12_build 68 = .ok (.bipush 8, 2) := by decide +kernel
theorem dX12_build_70 : decode cX12_build 70 = .ok (.if_icmp .eq 11, 3) := by decide +kernel
theorem dX12_build_73 : decode cX12_build 73 = .ok (.aload_n 0, 1) := by decide +kernel
theorem dX12_build_74 : decode cX12_build 74 = .ok (.iload_n 3, 1) := by decide +kernel
theorem dX12_build_75 : decode cX12_build 75 = .ok (.invokevirtual 91, 3) := by decide +kernel
theorem dX12_build_78 : decode cX12_build 78 = .ok (.ifCond .eq 7, 3) := by decide +kernel
theorem dX12_build_81 : decode cX12_build 81 = .ok (.iconst 1, 1) := by decide +kernel
theorem dX12_build_82 : decode cX12_build 82 = .ok (.goto 4, 3) := by decide +kernel
theorem dX12_build_85 : decode cX12_build 85 = .ok (.iconst 0, 1) := by decide +kernel
theorem dX12_build_86 : decode cX12_build 86 = .ok (.iconst 3, 1) := by decide +kernel
theorem dX12_build_87 : decode cX12_build 87 = .ok (.invokevirtual 280, 3) := by decide +kernel
theorem dX12_build_90 : decode cX12_build 90 = .ok (.ifCond .eq 5, 3) := by decide +kernel
theorem dX12_build_93 : decode cX12_build 93 = .ok (.iconst 0, 1) := by decide +kernel
theorem dX12_build_94 : decode cX12_build 94 = .ok (.ireturn, 1) := by decide +kernel
theorem dX12_build_95 : decode cX12_build 95 = .ok (.aload_n 0, 1) := by decide +kernel
theorem dX12_build_96 : decode cX12_build 96 = .ok (.invokevirtual 382, 3) := by decide +kernel
theorem dX12_build_99 : decode cX12_build 99 = .ok (.aload_n 0, 1) := by decide +kernel
theorem dX12_build_100 : decode cX12_build 100 = .ok (.invokevirtual 87, 3) := by decide +kernel
theorem dX12_build_103 : decode cX12_build 103 = .ok (.istore 5, 2) := by decide +kernel
theorem dX12_build_105 : decode cX12_build 105 = .ok (.aload_n 0, 1) := by decide +kernel
theorem dX12_build_106 : decode cX12_build 106 = .ok (.iload_n 1, 1) := by decide +kernel
theorem dX12_build_107 : decode cX12_build 107 = .ok (.iload_n 2, 1) := by decide +kernel
theorem dX12_build_108 : decode cX12_build 108 = .ok (.invokevirtual 167, 3) := by decide +kernel
theorem dX12_build_111 : decode cX12_build 111 = .ok (.aload_n 0, 1) := by decide +kernel
theorem dX12_build_112 : decode cX12_build 112 = .ok (.getfield 13, 3) := by decide +kernel
theorem dX12_build_115 : decode cX12_build 115 = .ok (.iload 5, 2) := by decide +kernel
theorem dX12_build_117 : decode cX12_build 117 = .ok (.iload_n 3, 1) := by decide +kernel
theorem dX12_build_118 : decode cX12_build 118 = .ok (.invokestatic 78, 3) := by decide +kernel
theorem dX12_build_121 : decode cX12_build 121 = .ok (.iload 4, 2) := by decide +kernel
theorem dX12_build_123 : decode cX12_build 123 = .ok (.iastore, 1) := by decide +kernel
theorem dX12_build_124 : decode cX12_build 124 = .ok (.iload 5, 2) := by decide +kernel
theorem dX12_build_126 : decode cX12_build 126 = .ok (.ireturn, 1) := by decide +kernel
set_option maxRecDepth 100000 in
set_option maxHeartbeats 200000 in
theorem T_X12_build_86 {X : CX} (hX : Ok X cX12_build 6 RX12 (some .int)) (hdx : dX X = 5) {r : Int32 × Hp} (x1 : Int32) (x2 : Int32) (x3 : Int32) (x4 : Int32) (t0 : Int32) (h : Hp) (hf : F_X12_build_86 x1 x2 x3 x4 t0 h = some r) : J X ((.inl (some (.int r.1)), r.2)) 86 [(0, .ref 30), (1, .int x1), (2, .int x2), (3, .int x3), (4, .int x4)] [.int t0, .ref 30] h := by
  unfold F_X12_build_86 at hf
  refine J_iconst hX 3 dX12_build_86 rfl ?_
  obtain ⟨r_1, e_2, hf⟩ := bdE hf
  refine V_1 hX [.int t0, .int 3] dX12_build_87 cw_X12_280 ob_30 rfl (C_X12_throwsIf (okG hX) e_2) (ltD hdx rfl) rfl rfl rfl rfl ?_
  rcases ifE hf with ⟨c_3, hf⟩ | ⟨c_3, hf⟩
  · refine J_if_eqF hX 95 dX12_build_90 rfl (b2iT c_3) ?_
    refine J_iconst hX 0 dX12_build_93 rfl ?_
    exact E_Ii hX dX12_build_94 hf
  · refine J_if_eqT hX 95 dX12_build_90 rfl (b2iF c_3) ?_
    refine J_aload_n hX 0 dX12_build_95 rfl rfl ?_
    obtain ⟨r_4, e_5, hf⟩ := bdE hf
    refine V_0 hX [] dX12_build_96 cw_X12_382 ob_30 rfl (C_X12_remembers (okG hX) e_5) (ltD hdx rfl) rfl rfl rfl rfl ?_
    refine J_aload_n hX 0 dX12_build_99 rfl rfl ?_
    refine V_1 hX [] dX12_build_100 cw_X12_87 ob_30 rfl (C_X12_houses (okG hX) rfl) (ltD hdx rfl) rfl rfl rfl rfl ?_
    obtain ⟨x5_6, e_7, hf⟩ := bndE hf
    refine J_nm e_7 ?_
    refine J_istore hX [(5, .int x5_6), (0, .ref 30), (1, .int x1), (2, .int x2), (3, .int x3), (4, .int x4)] dX12_build_103 rfl rfl ?_
    refine J_aload_n hX 1 dX12_build_105 rfl rfl ?_
    refine J_iload_n hX 2 dX12_build_106 rfl rfl ?_
    refine J_iload_n hX 3 dX12_build_107 rfl rfl ?_
    obtain ⟨r_8, e_9, hf⟩ := bdE hf
    refine V_0 hX [.int x1, .int x2] dX12_build_108 cw_X12_167 ob_30 rfl (C_X12_isBuilt (okG hX) e_9) (ltD hdx rfl) rfl rfl rfl rfl ?_
    refine J_aload_n hX 1 dX12_build_111 rfl rfl ?_
    refine J_getR hX 31 dX12_build_112 fl_X12_13 ob_30 rfl rfl ?_
    refine J_iload hX 0 dX12_build_115 rfl ?_
    refine J_iload_n hX 4 dX12_build_117 rfl rfl ?_
    refine S_1 hX [.int x5_6, .int x3] dX12_build_118 cw_X12_78 (C_X12_partAt (okG hX) rfl) (ltD hdx rfl) rfl rfl rfl rfl ?_
    refine J_iload hX 5 dX12_build_121 rfl ?_
    obtain ⟨g_10, hf⟩ := gdE hf
    obtain ⟨h_11, e_12, hf⟩ := bndE hf
    refine J_ast hX ((f_X12_partAt x5_6 x3 r_8).toNatClampNeg) x4 dX12_build_123 ar_31 (Or.inl ⟨rfl, rfl, rfl⟩) g_10 rfl ?_
    refine J_nmh e_12 ?_
    refine J_iload hX 0 dX12_build_124 rfl ?_
    exact E_Ii hX dX12_build_126 hf
set_option maxRecDepth 100000 in
set_option maxHeartbeats 200000 in
theorem T_X12_build_56 {X : CX} (hX : Ok X cX12_build 6 RX12 (some .int)) (hdx : dX X = 5) {r : Int32 × Hp} (x1 : Int32) (x2 : Int32) (x3 : Int32) (x4 : Int32) (t0 : Int32) (h : Hp) (hf : F_X12_build_56 x1 x2 x3 x4 t0 h = some r) : J X ((.inl (some (.int r.1)), r.2)) 56 [(0, .ref 30), (1, .int x1), (2, .int x2), (3, .int x3), (4, .int x4)] [.int t0, .ref 30] h := by
  unfold F_X12_build_56 at hf
  refine J_iconst hX 2 dX12_build_56 rfl ?_
  obtain ⟨r_1, e_2, hf⟩ := bdE hf
  refine V_1 hX [.int t0, .int 2] dX12_build_57 cw_X12_280 ob_30 rfl (C_X12_throwsIf (okG hX) e_2) (ltD hdx rfl) rfl rfl rfl rfl ?_
  rcases ifE hf with ⟨c_3, hf⟩ | ⟨c_3, hf⟩
  · refine J_if_neT hX 93 dX12_build_60 rfl (b2iT c_3) ?_
    refine J_iconst hX 0 dX12_build_93 rfl ?_
    exact E_Ii hX dX12_build_94 hf
  · refine J_if_neF hX 93 dX12_build_60 rfl (b2iF c_3) ?_
    refine J_aload_n hX 0 dX12_build_63 rfl rfl ?_
    refine J_aload_n hX 0 dX12_build_64 rfl rfl ?_
    refine V_1 hX [] dX12_build_65 cw_X12_87 ob_30 rfl (C_X12_houses (okG hX) rfl) (ltD hdx rfl) rfl rfl rfl rfl ?_
    refine J_bipush hX 8 dX12_build_68 rfl ?_
    rcases ifE hf with ⟨c_4, hf⟩ | ⟨c_4, hf⟩
    · refine J_icmp_eqT hX 81 dX12_build_70 rfl c_4 ?_
      refine J_iconst hX 1 dX12_build_81 rfl ?_
      refine J_goto hX 86 dX12_build_82 rfl ?_
      exact T_X12_build_86 hX hdx x1 x2 x3 x4 1 r_1.2 hf
    · refine J_icmp_eqF hX 81 dX12_build_70 rfl c_4 ?_
      refine J_aload_n hX 0 dX12_build_73 rfl rfl ?_
      refine J_iload_n hX 3 dX12_build_74 rfl rfl ?_
      obtain ⟨r_5, e_6, hf⟩ := bdE hf
      refine V_1 hX [.int x3] dX12_build_75 cw_X12_91 ob_30 rfl (C_X12_isFallen (okG hX) e_6) (ltD hdx rfl) rfl rfl rfl rfl ?_
      rcases ifE hf with ⟨c_7, hf⟩ | ⟨c_7, hf⟩
      · refine J_if_eqF hX 85 dX12_build_78 rfl (b2iT c_7) ?_
        refine J_iconst hX 1 dX12_build_81 rfl ?_
        refine J_goto hX 86 dX12_build_82 rfl ?_
        exact T_X12_build_86 hX hdx x1 x2 x3 x4 1 r_1.2 hf
      · refine J_if_eqT hX 85 dX12_build_78 rfl (b2iF c_7) ?_
        refine J_iconst hX 0 dX12_build_85 rfl ?_
        exact T_X12_build_86 hX hdx x1 x2 x3 x4 0 r_1.2 hf
set_option maxRecDepth 100000 in
set_option maxHeartbeats 200000 in
theorem T_X12_build_0 {X : CX} (hX : Ok X cX12_build 6 RX12 (some .int)) (hdx : dX X = 5) {r : Int32 × Hp} (x1 : Int32) (x2 : Int32) (x3 : Int32) (x4 : Int32) (h : Hp) (hf : f_X12_build x1 x2 x3 x4 h = some r) : J X ((.inl (some (.int r.1)), r.2)) 0 [(0, .ref 30), (1, .int x1), (2, .int x2), (3, .int x3), (4, .int x4)] [] h := by
  unfold f_X12_build at hf
  refine J_aload_n hX 0 dX12_build_0 rfl rfl ?_
  refine J_iconst hX 0 dX12_build_1 rfl ?_
  obtain ⟨h_1, e_2, hf⟩ := bndE hf
  refine J_putI hX dX12_build_2 fl_X12_3 fw_10_0 ob_30 rfl rfl rfl ?_
  refine J_nmh e_2 ?_
  refine J_aload_n hX 0 dX12_build_5 rfl rfl ?_
  refine J_aload_n hX 0 dX12_build_6 rfl rfl ?_
  refine J_iload_n hX 3 dX12_build_7 rfl rfl ?_
  refine V_1 hX [.int x3] dX12_build_8 cw_X12_392 ob_30 rfl (C_X12_noHouse (okG hX) rfl) (ltD hdx rfl) rfl rfl rfl rfl ?_
  refine J_iconst hX 1 dX12_build_11 rfl ?_
  obtain ⟨r_3, e_4, hf⟩ := bdE hf
  refine V_1 hX [.int (b2i (f_X12_noHouse x3 h_1)), .int 1] dX12_build_12 cw_X12_280 ob_30 rfl (C_X12_throwsIf (okG hX) e_4) (ltD hdx rfl) rfl rfl rfl rfl ?_
  rcases ifE hf with ⟨c_5, hf⟩ | ⟨c_5, hf⟩
  · refine J_if_neT hX 93 dX12_build_15 rfl (b2iT c_5) ?_
    refine J_iconst hX 0 dX12_build_93 rfl ?_
    exact E_Ii hX dX12_build_94 hf
  · refine J_if_neF hX 93 dX12_build_15 rfl (b2iF c_5) ?_
    refine J_aload_n hX 0 dX12_build_18 rfl rfl ?_
    refine J_iload_n hX 1 dX12_build_19 rfl rfl ?_
    refine J_iconst hX 1 dX12_build_20 rfl ?_
    refine J_bipush hX 99 dX12_build_21 rfl ?_
    refine S_1 hX [.int x1, .int 1, .int 99] dX12_build_23 cw_X12_95 (C_X12_in (okG hX) rfl) (ltD hdx rfl) rfl rfl rfl rfl ?_
    rcases ifE hf with ⟨c_6, hf⟩ | ⟨c_6, hf⟩
    · refine J_if_eqF hX 51 dX12_build_26 rfl (b2iT c_6) ?_
      refine J_iload_n hX 2 dX12_build_29 rfl rfl ?_
      refine J_iconst hX 0 dX12_build_30 rfl ?_
      refine J_sipush hX 999 dX12_build_31 rfl ?_
      refine S_1 hX [.int x2, .int 0, .int 999] dX12_build_34 cw_X12_95 (C_X12_in (okG hX) rfl) (ltD hdx rfl) rfl rfl rfl rfl ?_
      rcases ifE hf with ⟨c_7, hf⟩ | ⟨c_7, hf⟩
      · refine J_if_eqF hX 51 dX12_build_37 rfl (b2iT c_7) ?_
        refine J_iload hX 4 dX12_build_40 rfl ?_
        refine J_iconst hX 1 dX12_build_42 rfl ?_
        refine J_bipush hX 9 dX12_build_43 rfl ?_
        refine S_1 hX [.int x4, .int 1, .int 9] dX12_build_45 cw_X12_95 (C_X12_in (okG hX) rfl) (ltD hdx rfl) rfl rfl rfl rfl ?_
        rcases ifE hf with ⟨c_8, hf⟩ | ⟨c_8, hf⟩
        · refine J_if_neT hX 55 dX12_build_48 rfl (b2iT c_8) ?_
          refine J_iconst hX 0 dX12_build_55 rfl ?_
          exact T_X12_build_56 hX hdx x1 x2 x3 x4 0 r_3.2 hf
        · refine J_if_neF hX 55 dX12_build_48 rfl (b2iF c_8) ?_
          refine J_iconst hX 1 dX12_build_51 rfl ?_
          refine J_goto hX 56 dX12_build_52 rfl ?_
          exact T_X12_build_56 hX hdx x1 x2 x3 x4 1 r_3.2 hf
      · refine J_if_eqT hX 51 dX12_build_37 rfl (b2iF c_7) ?_
        refine J_iconst hX 1 dX12_build_51 rfl ?_
        refine J_goto hX 56 dX12_build_52 rfl ?_
        exact T_X12_build_56 hX hdx x1 x2 x3 x4 1 r_3.2 hf
    · refine J_if_eqT hX 51 dX12_build_26 rfl (b2iF c_6) ?_
      refine J_iconst hX 1 dX12_build_51 rfl ?_
      refine J_goto hX 56 dX12_build_52 rfl ?_
      exact T_X12_build_56 hX hdx x1 x2 x3 x4 1 r_3.2 hf
set_option maxRecDepth 100000 in
set_option maxHeartbeats 200000 in
theorem C_X12_build {G : GX} (hG : GOk G) {x1 : Int32} {x2 : Int32} {x3 : Int32} {x4 : Int32} {h : Hp} {r : Int32 × Hp} (hf : f_X12_build x1 x2 x3 x4 h = some r) : Ctr G 5 yX12_build cX12_build 6 (some .int) [.ref 30, .int x1, .int x2, .int x3, .int x4] h ((.inl (some (.int r.1)), r.2)) :=
  Ctr_of hG RX12 rfl (by decide) rfl (fun X _ hdx hX => T_X12_build_0 hX hdx x1 x2 x3 x4 h hf)
