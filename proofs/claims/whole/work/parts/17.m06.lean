theorem dX12_isBuilt_0 : decode cX12_isBuilt 0 = .ok (.aload_n 0, 1) := by decide +kernel
theorem dX12_isBuilt_1 : decode cX12_isBuilt 1 = .ok (.invokevirtual 87, 3) := by decide +kernel
theorem dX12_isBuilt_4 : decode cX12_isBuilt 4 = .ok (.istore_n 3, 1) := by decide +kernel
theorem dX12_isBuilt_5 : decode cX12_isBuilt 5 = .ok (.aload_n 0, 1) := by decide +kernel
theorem dX12_isBuilt_6 : decode cX12_isBuilt 6 = .ok (.getfield 13, 3) := by decide +kernel
theorem dX12_isBuilt_9 : decode cX12_isBuilt 9 = .ok (.iload_n 3, 1) := by decide +kernel
theorem dX12_isBuilt_10 : decode cX12_isBuilt 10 = .ok (.iconst 0, 1) := by decide +kernel
theorem dX12_isBuilt_11 : decode cX12_isBuilt 11 = .ok (.invokestatic 74, 3) := by decide +kernel
theorem dX12_isBuilt_14 : decode cX12_isBuilt 14 = .ok (.iload_n 1, 1) := by decide +kernel
theorem dX12_isBuilt_15 : decode cX12_isBuilt 15 = .ok (.iastore, 1) := by decide +kernel
theorem dX12_isBuilt_16 : decode cX12_isBuilt 16 = .ok (.aload_n 0, 1) := by decide +kernel
theorem dX12_isBuilt_17 : decode cX12_isBuilt 17 = .ok (.getfield 13, 3) := by decide +kernel
theorem dX12_isBuilt_20 : decode cX12_isBuilt 20 = .ok (.iload_n 3, 1) := by decide +kernel
theorem dX12_isBuilt_21 : decode cX12_isBuilt 21 = .ok (.iconst 1, 1) := by decide +kernel
theorem dX12_isBuilt_22 : decode cX12_isBuilt 22 = .ok (.invokestatic 74, 3) := by decide +kernel
theorem dX12_isBuilt_25 : decode cX12_isBuilt 25 = .ok (.iload_n 2, 1) := by decide +kernel
theorem dX12_isBuilt_26 : decode cX12_isBuilt 26 = .ok (.iastore, 1) := by decide +kernel
theorem dX12_isBuilt_27 : decode cX12_isBuilt 27 = .ok (.aload_n 0, 1) := by decide +kernel
theorem dX12_isBuilt_28 : decode cX12_isBuilt 28 = .ok (.getfield 13, 3) := by decide +kernel
theorem dX12_isBuilt_31 : decode cX12_isBuilt 31 = .ok (.iload_n 3, 1) := by decide +kernel
theorem dX12_isBuilt_32 : decode cX12_isBuilt 32 = .ok (.iconst 2, 1) := by decide +kernel
theorem dX12_isBuilt_33 : decode cX12_isBuilt 33 = .ok (.invokestatic 74, 3) := by decide +kernel
theorem dX12_isBuilt_36 : decode cX12_isBuilt 36 = .ok (.iconst 0, 1) := by decide +kernel
theorem dX12_isBuilt_37 : decode cX12_isBuilt 37 = .ok (.iastore, 1) := by decide +kernel
theorem dX12_isBuilt_38 : decode cX12_isBuilt 38 = .ok (.aload_n 0, 1) := by decide +kernel
theorem dX12_isBuilt_39 : decode cX12_isBuilt 39 = .ok (.getfield 13, 3) := by decide +kernel
theorem dX12_isBuilt_42 : decode cX12_isBuilt 42 = .ok (.iload_n 3, 1) := by decide +kernel
theorem dX12_isBuilt_43 : decode cX12_isBuilt 43 = .ok (.iconst 3, 1) := by decide +kernel
theorem dX12_isBuilt_44 : decode cX12_isBuilt 44 = .ok (.invokestatic 74, 3) := by decide +kernel
theorem dX12_isBuilt_47 : decode cX12_isBuilt 47 = .ok (.iconst 0, 1) := by decide +kernel
theorem dX12_isBuilt_48 : decode cX12_isBuilt 48 = .ok (.iastore, 1) := by decide +kernel
theorem dX12_isBuilt_49 : decode cX12_isBuilt 49 = .ok (.aload_n 0, 1) := by decide +kernel
theorem dX12_isBuilt_50 : decode cX12_isBuilt 50 = .ok (.getfield 13, 3) := by decide +kernel
theorem dX12_isBuilt_53 : decode cX12_isBuilt 53 = .ok (.iload_n 3, 1) := by decide +kernel
theorem dX12_isBuilt_54 : decode cX12_isBuilt 54 = .ok (.iconst 4, 1) := by decide +kernel
theorem dX12_isBuilt_55 : decode cX12_isBuilt 55 = .ok (.invokestatic 74, 3) := by decide +kernel
theorem dX12_isBuilt_58 : decode cX12_isBuilt 58 = .ok (.iconst 0, 1) := by decide +kernel
theorem dX12_isBuilt_59 : decode cX12_isBuilt 59 = .ok (.iastore, 1) := by decide +kernel
theorem dX12_isBuilt_60 : decode cX12_isBuilt 60 = .ok (.iconst 0, 1) := by decide +kernel
theorem dX12_isBuilt_61 : decode cX12_isBuilt 61 = .ok (.istore 4, 2) := by decide +kernel
theorem dX12_isBuilt_63 : decode cX12_isBuilt 63 = .ok (.iload 4, 2) := by decide +kernel
theorem dX12_isBuilt_65 : decode cX12_isBuilt 65 = .ok (.bipush 8, 2) := by decide +kernel
theorem dX12_isBuilt_67 : decode cX12_isBuilt 67 = .ok (.if_icmp .ge 33, 3) := by decide +kernel
theorem dX12_isBuilt_70 : decode cX12_isBuilt 70 = .ok (.aload_n 0, 1) := by decide +kernel
theorem dX12_isBuilt_71 : decode cX12_isBuilt 71 = .ok (.getfield 13, 3) := by decide +kernel
theorem dX12_isBuilt_74 : decode cX12_isBuilt 74 = .ok (.iload_n 3, 1) := by decide +kernel
theorem dX12_isBuilt_75 : decode cX12_isBuilt 75 = .ok (.iload 4, 2) := by decide +kernel
theorem dX12_isBuilt_77 : decode cX12_isBuilt 77 = .ok (.invokestatic 78, 3) := by decide +kernel
theorem dX12_isBuilt_80 : decode cX12_isBuilt 80 = .ok (.iconst 0, 1) := by decide +kernel
theorem dX12_isBuilt_81 : decode cX12_isBuilt 81 = .ok (.iastore, 1) := by decide +kernel
theorem dX12_isBuilt_82 : decode cX12_isBuilt 82 = .ok (.aload_n 0, 1) := by decide +kernel
theorem dX12_isBuilt_83 : decode cX12_isBuilt 83 = .ok (.getfield 13, 3) := by decide +kernel
theorem dX12_isBuilt_86 : decode cX12_isBuilt 86 = .ok (.iload 4, 2) := by decide +kernel
theorem dX12_isBuilt_88 : decode cX12_isBuilt 88 = .ok (.iload_n 3, 1) := by decide +kernel
theorem dX12_isBuilt_89 : decode cX12_isBuilt 89 = .ok (.invokestatic 78, 3) := by decide +kernel
theorem dX12_isBuilt_92 : decode cX12_isBuilt 92 = .ok (.iconst 0, 1) := by decide +kernel
theorem dX12_isBuilt_93 : decode cX12_isBuilt 93 = .ok (.iastore, 1) := by decide +kernel
theorem dX12_isBuilt_94 : decode cX12_isBuilt 94 = .ok (.iinc 4 1, 3) := by decide +kernel
theorem dX12_isBuilt_97 : decode cX12_isBuilt 97 = .ok (.goto (-34), 3) := by decide +kernel
theorem dX12_isBuilt_100 : decode cX12_isBuilt 100 = .ok (.aload_n 0, 1) := by decide +kernel
theorem dX12_isBuilt_101 : decode cX12_isBuilt 101 = .ok (.getfield 13, 3) := by decide +kernel
theorem dX12_isBuilt_104 : decode cX12_isBuilt 104 = .ok (.iconst 0, 1) := by decide +kernel
theorem dX12_isBuilt_105 : decode cX12_isBuilt 105 = .ok (.dup2, 1) := by decide +kernel
theorem dX12_isBuilt_106 : decode cX12_isBuilt 106 = .ok (.iaload, 1) := by decide +kernel
theorem dX12_isBuilt_107 : decode cX12_isBuilt 107 = .ok (.iconst 1, 1) := by decide +kernel
theorem dX12_isBuilt_108 : decode cX12_isBuilt 108 = .ok (.iadd, 1) := by decide +kernel
theorem dX12_isBuilt_109 : decode cX12_isBuilt 109 = .ok (.iastore, 1) := by decide +kernel
theorem dX12_isBuilt_110 : decode cX12_isBuilt 110 = .ok (.return_, 1) := by decide +kernel
set_option maxRecDepth 100000 in
set_option maxHeartbeats 200000 in
theorem T_X12_isBuilt_63_s {X : CX} (hX : Ok X cX12_isBuilt 5 RX12 none) (hdx : dX X = 3) {r : Hp} (x3 : Int32) (q_63 : Int32 → Hp → Option Hp) (hq_63 : ∀ (x4 : Int32) (h : Hp), q_63 x4 h = some r → J X ((.inl none, r)) 63 [(0, .ref 30), (3, .int x3), (4, .int x4)] [] h) (x4 : Int32) (h : Hp) (hf : S_X12_isBuilt_63 x3 q_63 x4 h = some r) : J X ((.inl none, r)) 63 [(0, .ref 30), (3, .int x3), (4, .int x4)] [] h := by
  unfold S_X12_isBuilt_63 at hf
  refine J_iload hX 2 dX12_isBuilt_63 rfl ?_
  refine J_bipush hX 8 dX12_isBuilt_65 rfl ?_
  rcases ifE hf with ⟨c_1, hf⟩ | ⟨c_1, hf⟩
  · refine J_icmp_geF hX 100 dX12_isBuilt_67 rfl c_1 ?_
    refine J_aload_n hX 0 dX12_isBuilt_70 rfl rfl ?_
    refine J_getR hX 31 dX12_isBuilt_71 fl_X12_13 ob_30 rfl rfl ?_
    refine J_iload_n hX 1 dX12_isBuilt_74 rfl rfl ?_
    refine J_iload hX 2 dX12_isBuilt_75 rfl ?_
    refine S_1 hX [.int x3, .int x4] dX12_isBuilt_77 cw_X12_78 (C_X12_partAt (okG hX) rfl) (ltD hdx rfl) rfl rfl rfl rfl ?_
    refine J_iconst hX 0 dX12_isBuilt_80 rfl ?_
    obtain ⟨g_2, hf⟩ := gdE hf
    obtain ⟨h_3, e_4, hf⟩ := bndE hf
    refine J_ast hX ((f_X12_partAt x3 x4 h).toNatClampNeg) 0 dX12_isBuilt_81 ar_31 (Or.inl ⟨rfl, rfl, rfl⟩) g_2 rfl ?_
    refine J_nmh e_4 ?_
    refine J_aload_n hX 0 dX12_isBuilt_82 rfl rfl ?_
    refine J_getR hX 31 dX12_isBuilt_83 fl_X12_13 ob_30 rfl rfl ?_
    refine J_iload hX 2 dX12_isBuilt_86 rfl ?_
    refine J_iload_n hX 1 dX12_isBuilt_88 rfl rfl ?_
    refine S_1 hX [.int x4, .int x3] dX12_isBuilt_89 cw_X12_78 (C_X12_partAt (okG hX) rfl) (ltD hdx rfl) rfl rfl rfl rfl ?_
    refine J_iconst hX 0 dX12_isBuilt_92 rfl ?_
    obtain ⟨g_5, hf⟩ := gdE hf
    obtain ⟨h_6, e_7, hf⟩ := bndE hf
    refine J_ast hX ((f_X12_partAt x4 x3 h_3).toNatClampNeg) 0 dX12_isBuilt_93 ar_31 (Or.inl ⟨rfl, rfl, rfl⟩) g_5 rfl ?_
    refine J_nmh e_7 ?_
    refine J_iinc hX (x4 + 1) 2 [(4, .int (x4 + 1)), (0, .ref 30), (3, .int x3)] dX12_isBuilt_94 rfl rfl rfl rfl ?_
    refine J_goto hX 63 dX12_isBuilt_97 rfl ?_
    refine J_sub [1, 2, 0] [(0, .ref 30), (3, .int x3), (4, .int (x4 + 1))] rfl ?_
    exact hq_63 (x4 + 1) h_6 hf
  · refine J_icmp_geT hX 100 dX12_isBuilt_67 rfl c_1 ?_
    refine J_aload_n hX 0 dX12_isBuilt_100 rfl rfl ?_
    refine J_getR hX 31 dX12_isBuilt_101 fl_X12_13 ob_30 rfl rfl ?_
    refine J_iconst hX 0 dX12_isBuilt_104 rfl ?_
    refine J_dup2 hX dX12_isBuilt_105 rfl rfl ?_
    refine J_ald hX 0 dX12_isBuilt_106 ar_31 (Or.inl ⟨rfl, rfl⟩) (by decide) (by decide) ?_
    refine J_iconst hX 1 dX12_isBuilt_107 rfl ?_
    refine J_iadd hX dX12_isBuilt_108 ?_
    obtain ⟨h_8, e_9, hf⟩ := bndE hf
    refine J_ast hX 0 ((h 31 0) + 1) dX12_isBuilt_109 ar_31 (Or.inl ⟨rfl, rfl, rfl⟩) (by decide) (by decide) ?_
    refine J_nmh e_9 ?_
    exact E_Vi hX dX12_isBuilt_110 hf
set_option maxRecDepth 100000 in
set_option maxHeartbeats 200000 in
theorem T_X12_isBuilt_63 {X : CX} (hX : Ok X cX12_isBuilt 5 RX12 none) (hdx : dX X = 3) {r : Hp} (x3 : Int32) : ∀ (n : Nat) (x4 : Int32) (h : Hp), F_X12_isBuilt_63 x3 n x4 h = some r → J X ((.inl none, r)) 63 [(0, .ref 30), (3, .int x3), (4, .int x4)] [] h := by
  intro n
  induction n with
  | zero => intro x4 h hf; exact nomatch hf
  | succ n ih => intro x4 h hf; exact T_X12_isBuilt_63_s hX hdx x3 _ (fun x4 h hf => ih x4 h hf) x4 h hf
set_option maxRecDepth 100000 in
set_option maxHeartbeats 200000 in
theorem T_X12_isBuilt_0 {X : CX} (hX : Ok X cX12_isBuilt 5 RX12 none) (hdx : dX X = 3) {r : Hp} (x1 : Int32) (x2 : Int32) (h : Hp) (hf : f_X12_isBuilt x1 x2 h = some r) : J X ((.inl none, r)) 0 [(0, .ref 30), (1, .int x1), (2, .int x2)] [] h := by
  unfold f_X12_isBuilt at hf
  refine J_aload_n hX 0 dX12_isBuilt_0 rfl rfl ?_
  refine V_1 hX [] dX12_isBuilt_1 cw_X12_87 ob_30 rfl (C_X12_houses (okG hX) rfl) (ltD hdx rfl) rfl rfl rfl rfl ?_
  obtain ⟨x3_1, e_2, hf⟩ := bndE hf
  refine J_nm e_2 ?_
  refine J_istore_n hX [(3, .int x3_1), (0, .ref 30), (1, .int x1), (2, .int x2)] dX12_isBuilt_4 rfl rfl rfl ?_
  refine J_aload_n hX 1 dX12_isBuilt_5 rfl rfl ?_
  refine J_getR hX 31 dX12_isBuilt_6 fl_X12_13 ob_30 rfl rfl ?_
  refine J_iload_n hX 0 dX12_isBuilt_9 rfl rfl ?_
  refine J_iconst hX 0 dX12_isBuilt_10 rfl ?_
  refine S_1 hX [.int x3_1, .int 0] dX12_isBuilt_11 cw_X12_74 (C_X12_at (okG hX) rfl) (ltD hdx rfl) rfl rfl rfl rfl ?_
  refine J_iload_n hX 2 dX12_isBuilt_14 rfl rfl ?_
  obtain ⟨g_3, hf⟩ := gdE hf
  obtain ⟨h_4, e_5, hf⟩ := bndE hf
  refine J_ast hX ((f_X12_at x3_1 0 h).toNatClampNeg) x1 dX12_isBuilt_15 ar_31 (Or.inl ⟨rfl, rfl, rfl⟩) g_3 rfl ?_
  refine J_nmh e_5 ?_
  refine J_aload_n hX 1 dX12_isBuilt_16 rfl rfl ?_
  refine J_getR hX 31 dX12_isBuilt_17 fl_X12_13 ob_30 rfl rfl ?_
  refine J_iload_n hX 0 dX12_isBuilt_20 rfl rfl ?_
  refine J_iconst hX 1 dX12_isBuilt_21 rfl ?_
  refine S_1 hX [.int x3_1, .int 1] dX12_isBuilt_22 cw_X12_74 (C_X12_at (okG hX) rfl) (ltD hdx rfl) rfl rfl rfl rfl ?_
  refine J_iload_n hX 3 dX12_isBuilt_25 rfl rfl ?_
  obtain ⟨g_6, hf⟩ := gdE hf
  obtain ⟨h_7, e_8, hf⟩ := bndE hf
  refine J_ast hX ((f_X12_at x3_1 1 h_4).toNatClampNeg) x2 dX12_isBuilt_26 ar_31 (Or.inl ⟨rfl, rfl, rfl⟩) g_6 rfl ?_
  refine J_nmh e_8 ?_
  refine J_aload_n hX 1 dX12_isBuilt_27 rfl rfl ?_
  refine J_getR hX 31 dX12_isBuilt_28 fl_X12_13 ob_30 rfl rfl ?_
  refine J_iload_n hX 0 dX12_isBuilt_31 rfl rfl ?_
  refine J_iconst hX 2 dX12_isBuilt_32 rfl ?_
  refine S_1 hX [.int x3_1, .int 2] dX12_isBuilt_33 cw_X12_74 (C_X12_at (okG hX) rfl) (ltD hdx rfl) rfl rfl rfl rfl ?_
  refine J_iconst hX 0 dX12_isBuilt_36 rfl ?_
  obtain ⟨g_9, hf⟩ := gdE hf
  obtain ⟨h_10, e_11, hf⟩ := bndE hf
  refine J_ast hX ((f_X12_at x3_1 2 h_7).toNatClampNeg) 0 dX12_isBuilt_37 ar_31 (Or.inl ⟨rfl, rfl, rfl⟩) g_9 rfl ?_
  refine J_nmh e_11 ?_
  refine J_aload_n hX 1 dX12_isBuilt_38 rfl rfl ?_
  refine J_getR hX 31 dX12_isBuilt_39 fl_X12_13 ob_30 rfl rfl ?_
  refine J_iload_n hX 0 dX12_isBuilt_42 rfl rfl ?_
  refine J_iconst hX 3 dX12_isBuilt_43 rfl ?_
  refine S_1 hX [.int x3_1, .int 3] dX12_isBuilt_44 cw_X12_74 (C_X12_at (okG hX) rfl) (ltD hdx rfl) rfl rfl rfl rfl ?_
  refine J_iconst hX 0 dX12_isBuilt_47 rfl ?_
  obtain ⟨g_12, hf⟩ := gdE hf
  obtain ⟨h_13, e_14, hf⟩ := bndE hf
  refine J_ast hX ((f_X12_at x3_1 3 h_10).toNatClampNeg) 0 dX12_isBuilt_48 ar_31 (Or.inl ⟨rfl, rfl, rfl⟩) g_12 rfl ?_
  refine J_nmh e_14 ?_
  refine J_aload_n hX 1 dX12_isBuilt_49 rfl rfl ?_
  refine J_getR hX 31 dX12_isBuilt_50 fl_X12_13 ob_30 rfl rfl ?_
  refine J_iload_n hX 0 dX12_isBuilt_53 rfl rfl ?_
  refine J_iconst hX 4 dX12_isBuilt_54 rfl ?_
  refine S_1 hX [.int x3_1, .int 4] dX12_isBuilt_55 cw_X12_74 (C_X12_at (okG hX) rfl) (ltD hdx rfl) rfl rfl rfl rfl ?_
  refine J_iconst hX 0 dX12_isBuilt_58 rfl ?_
  obtain ⟨g_15, hf⟩ := gdE hf
  obtain ⟨h_16, e_17, hf⟩ := bndE hf
  refine J_ast hX ((f_X12_at x3_1 4 h_13).toNatClampNeg) 0 dX12_isBuilt_59 ar_31 (Or.inl ⟨rfl, rfl, rfl⟩) g_15 rfl ?_
  refine J_nmh e_17 ?_
  refine J_iconst hX 0 dX12_isBuilt_60 rfl ?_
  refine J_istore hX [(4, .int 0), (3, .int x3_1), (0, .ref 30), (1, .int x1), (2, .int x2)] dX12_isBuilt_61 rfl rfl ?_
  refine J_sub [2, 1, 0] [(0, .ref 30), (3, .int x3_1), (4, .int 0)] rfl ?_
  exact T_X12_isBuilt_63 hX hdx x3_1 FU 0 h_16 hf
set_option maxRecDepth 100000 in
set_option maxHeartbeats 200000 in
theorem C_X12_isBuilt {G : GX} (hG : GOk G) {x1 : Int32} {x2 : Int32} {h : Hp} {r : Hp} (hf : f_X12_isBuilt x1 x2 h = some r) : Ctr G 3 yX12_isBuilt cX12_isBuilt 5 none [.ref 30, .int x1, .int x2] h ((.inl none, r)) :=
  Ctr_of hG RX12 rfl (by decide) rfl (fun X _ hdx hX => T_X12_isBuilt_0 hX hdx x1 x2 h hf)
theorem dX12_readHouse_0 : decode cX12_readHouse 0 = .ok (.aload_n 0, 1) := by decide +kernel
theorem dX12_readHouse_1 : decode cX12_readHouse 1 = .ok (.invokevirtual 87, 3) := by decide +kernel
theorem dX12_readHouse_4 : decode cX12_readHouse 4 = .ok (.istore_n 1, 1) := by decide +kernel
theorem dX12_readHouse_5 : decode cX12_readHouse 5 = .ok (.iload_n 1, 1) := by decide +kernel
theorem dX12_readHouse_6 : decode cX12_readHouse 6 = .ok (.bipush 8, 2) := by decide +kernel
theorem dX12_readHouse_8 : decode cX12_readHouse 8 = .ok (.if_icmp .ne 5, 3) := by decide +kernel
theorem dX12_readHouse_11 : decode cX12_readHouse 11 = .ok (.iconst 0, 1) := by decide +kernel
theorem dX12_readHouse_12 : decode cX12_readHouse 12 = .ok (.ireturn, 1) := by decide +kernel
theorem dX12_readHouse_13 : decode cX12_readHouse 13 = .ok (.aload_n 0, 1) := by decide +kernel
theorem dX12_readHouse_14 : decode cX12_readHouse 14 = .ok (.ldc 152, 2) := by decide +kernel
theorem dX12_readHouse_16 : decode cX12_readHouse 16 = .ok (.iconst 1, 1) := by decide +kernel
theorem dX12_readHouse_17 : decode cX12_readHouse 17 = .ok (.bipush 99, 2) := by decide +kernel
theorem dX12_readHouse_19 : decode cX12_readHouse 19 = .ok (.invokevirtual 154, 3) := by decide +kernel
theorem dX12_readHouse_22 : decode cX12_readHouse 22 = .ok (.istore_n 2, 1) := by decide +kernel
theorem dX12_readHouse_23 : decode cX12_readHouse 23 = .ok (.iload_n 2, 1) := by decide +kernel
theorem dX12_readHouse_24 : decode cX12_readHouse 24 = .ok (.ifCond .ge 7, 3) := by decide +kernel
theorem dX12_readHouse_27 : decode cX12_readHouse 27 = .ok (.iconst (-1), 1) := by decide +kernel
theorem dX12_readHouse_28 : decode cX12_readHouse 28 = .ok (.goto 13, 3) := by decide +kernel
theorem dX12_readHouse_31 : decode cX12_readHouse 31 = .ok (.aload_n 0, 1) := by decide +kernel
theorem dX12_readHouse_32 : decode cX12_readHouse 32 = .ok (.ldc 158, 2) := by decide +kernel
theorem dX12_readHouse_34 : decode cX12_readHouse 34 = .ok (.iconst 0, 1) := by decide +kernel
theorem dX12_readHouse_35 : decode cX12_readHouse 35 = .ok (.sipush 999, 3) := by decide +kernel
theorem dX12_readHouse_38 : decode cX12_readHouse 38 = .ok (.invokevirtual 154, 3) := by decide +kernel
theorem dX12_readHouse_41 : decode cX12_readHouse 41 = .ok (.istore_n 3, 1) := by decide +kernel
theorem dX12_readHouse_42 : decode cX12_readHouse 42 = .ok (.iload_n 3, 1) := by decide +kernel
theorem dX12_readHouse_43 : decode cX12_readHouse 43 = .ok (.ifCond .ge 5, 3) := by decide +kernel
theorem dX12_readHouse_46 : decode cX12_readHouse 46 = .ok (.iconst 0, 1) := by decide +kernel
theorem dX12_readHouse_47 : decode cX12_readHouse 47 = .ok (.ireturn, 1) := by decide +kernel
theorem dX12_readHouse_48 : decode cX12_readHouse 48 = .ok (.aload_n 0, 1) := by decide +kernel
theorem dX12_readHouse_49 : decode cX12_readHouse 49 = .ok (.ldc 160, 2) := by decide +kernel
theorem dX12_readHouse_51 : decode cX12_readHouse 51 = .ok (.invokevirtual 162, 3) := by decide +kernel
theorem dX12_readHouse_54 : decode cX12_readHouse 54 = .ok (.ifCond .eq 13, 3) := by decide +kernel
theorem dX12_readHouse_57 : decode cX12_readHouse 57 = .ok (.aload_n 0, 1) := by decide +kernel
theorem dX12_readHouse_58 : decode cX12_readHouse 58 = .ok (.iconst 0, 1) := by decide +kernel
theorem dX12_readHouse_59 : decode cX12_readHouse 59 = .ok (.bipush 9, 2) := by decide +kernel
theorem dX12_readHouse_61 : decode cX12_readHouse 61 = .ok (.invokevirtual 149, 3) := by decide +kernel
theorem dX12_readHouse_64 : decode cX12_readHouse 64 = .ok (.goto 4, 3) := by decide +kernel
theorem dX12_readHouse_67 : decode cX12_readHouse 67 = .ok (.iconst 0, 1) := by decide +kernel
theorem dX12_readHouse_68 : decode cX12_readHouse 68 = .ok (.istore 4, 2) := by decide +kernel
theorem dX12_readHouse_70 : decode cX12_readHouse 70 = .ok (.iload 4, 2) := by decide +kernel
theorem dX12_readHouse_72 : decode cX12_readHouse 72 = .ok (.ifCond .ge 5, 3) := by decide +kernel
theorem dX12_readHouse_75 : decode cX12_readHouse 75 = .ok (.iconst 0, 1) := by decide +kernel
theorem dX12_readHouse_76 : decode cX12_readHouse 76 = .ok (.ireturn, 1) := by decide +kernel
theorem dX12_readHouse_77 : decode cX12_readHouse 77 = .ok (.aload_n 0, 1) := by decide +kernel
theorem dX12_readHouse_78 : decode cX12_readHouse 78 = .ok (.ldc 165, 2) := by decide +kernel
theorem dX12_readHouse_80 : decode cX12_readHouse 80 = .ok (.invokevirtual 162, 3) := by decide +kernel
theorem dX12_readHouse_83 : decode cX12_readHouse 83 = .ok (.ifCond .eq 13, 3) := by decide +kernel
theorem dX12_readHouse_86 : decode cX12_readHouse 86 = .ok (.aload_n 0, 1) := by decide +kernel
theorem dX12_readHouse_87 : decode cX12_readHouse 87 = .ok (.iconst 0, 1) := by decide +kernel
theorem dX12_readHouse_88 : decode cX12_readHouse 88 = .ok (.bipush 99, 2) := by decide +kernel
theorem dX12_readHouse_90 : decode cX12_readHouse 90 = .ok (.invokevirtual 149, 3) := by decide +kernel
theorem dX12_readHouse_93 : decode cX12_readHouse 93 = .ok (.goto 4, 3) := by decide +kernel
theorem dX12_readHouse_96 : decode cX12_readHouse 96 = .ok (.iconst 0, 1) := by decide +kernel
theorem dX12_readHouse_97 : decode cX12_readHouse 97 = .ok (.istore 5, 2) := by decide +kernel
theorem dX12_readHouse_99 : decode cX12_readHouse 99 = .ok (.iload 5, 2) := by decide +kernel
theorem dX12_readHouse_101 : decode cX12_readHouse 101 = .ok (.ifCond .ge 5, 3) := by decide +kernel
theorem dX12_readHouse_104 : decode cX12_readHouse 104 = .ok (.iconst 0, 1) := by decide +kernel
theorem dX12_readHouse_105 : decode cX12_readHouse 105 = .ok (.ireturn, 1) := by decide +kernel
theorem dX12_readHouse_106 : decode cX12_readHouse 106 = .ok (.aload_n 0, 1) := by decide +kernel
theorem dX12_readHouse_107 : decode cX12_readHouse 107 = .ok (.iload_n 2, 1) := by decide +kernel
theorem dX12_readHouse_108 : decode cX12_readHouse 108 = .ok (.iload_n 3, 1) := by decide +kernel
theorem dX12_readHouse_109 : decode cX12_readHouse 109 = .ok (.invokevirtual 167, 3) := by decide +kernel
theorem dX12_readHouse_112 : decode cX12_readHouse 112 = .ok (.aload_n 0, 1) := by decide +kernel
theorem dX12_readHouse_113 : decode cX12_readHouse 113 = .ok (.getfield 13, 3) := by decide +kernel
theorem dX12_readHouse_116 : decode cX12_readHouse 116 = .ok (.iload_n 1, 1) := by decide +kernel
theorem dX12_readHouse_117 : decode cX12_readHouse 117 = .ok (.iconst 2, 1) := by decide +kernel
theorem dX12_readHouse_118 : decode cX12_readHouse 118 = .ok (.invokestatic 74, 3) := by decide +kernel
theorem dX12_readHouse_121 : decode cX12_readHouse 121 = .ok (.iload 4, 2) := by decide +kernel
theorem dX12_readHouse_123 : decode cX12_readHouse 123 = .ok (.iastore, 1) := by decide +kernel
theorem dX12_readHouse_124 : decode cX12_readHouse 124 = .ok (.aload_n 0, 1) := by decide +kernel
theorem dX12_readHouse_125 : decode cX12_readHouse 125 = .ok (.getfield 13, 3) := by decide +kernel
theorem dX12_readHouse_128 : decode cX12_readHouse 128 = .ok (.iload_n 1, 1) := by decide +kernel
theorem dX12_readHouse_129 : decode cX12_readHouse 129 = .ok (.iconst 3, 1) := by decide +kernel
theorem dX12_readHouse_130 : decode cX12_readHouse 130 = .ok (.invokestatic 74, 3) := by decide +kernel
theorem dX12_readHouse_133 : decode cX12_readHouse 133 = .ok (.iload 5, 2) := by decide +kernel
theorem dX12_readHouse_135 : decode cX12_readHouse 135 = .ok (.iastore, 1) := by decide +kernel
theorem dX12_readHouse_136 : decode cX12_readHouse 136 = .ok (.iconst 1, 1) := by decide +kernel
theorem dX12_readHouse_137 : decode cX12_readHouse 137 = .ok (.ireturn, 1) := by decide +kernel
set_option maxRecDepth 100000 in
set_option maxHeartbeats 200000 in
theorem T_X12_readHouse_97 {X : CX} (hX : Ok X cX12_readHouse 6 RX12 (some .boolean)) (hdx : dX X = 10) {r : Bool × Hp} (x1 : Int32) (x2 : Int32) (x3 : Int32) (x4 : Int32) (t0 : Int32) (h : Hp) (hf : F_X12_readHouse_97 x1 x2 x3 x4 t0 h = some r) : J X ((.inl (some (.int (b2i r.1))), r.2)) 97 [(0, .ref 30), (1, .int x1), (2, .int x2), (3, .int x3), (4, .int x4)] [.int t0] h := by
  unfold F_X12_readHouse_97 at hf
  refine J_istore hX [(5, .int t0), (0, .ref 30), (1, .int x1), (2, .int x2), (3, .int x3), (4, .int x4)] dX12_readHouse_97 rfl rfl ?_
  refine J_iload hX 0 dX12_readHouse_99 rfl ?_
  rcases ifE hf with ⟨c_1, hf⟩ | ⟨c_1, hf⟩
  · refine J_if_geF hX 106 dX12_readHouse_101 rfl c_1 ?_
    refine J_iconst hX 0 dX12_readHouse_104 rfl ?_
    exact E_Zi hX dX12_readHouse_105 rfl hf
  · refine J_if_geT hX 106 dX12_readHouse_101 rfl c_1 ?_
    refine J_aload_n hX 1 dX12_readHouse_106 rfl rfl ?_
    refine J_iload_n hX 3 dX12_readHouse_107 rfl rfl ?_
    refine J_iload_n hX 4 dX12_readHouse_108 rfl rfl ?_
    obtain ⟨r_2, e_3, hf⟩ := bdE hf
    refine V_0 hX [.int x2, .int x3] dX12_readHouse_109 cw_X12_167 ob_30 rfl (C_X12_isBuilt (okG hX) e_3) (ltD hdx rfl) rfl rfl rfl rfl ?_
    refine J_aload_n hX 1 dX12_readHouse_112 rfl rfl ?_
    refine J_getR hX 31 dX12_readHouse_113 fl_X12_13 ob_30 rfl rfl ?_
    refine J_iload_n hX 2 dX12_readHouse_116 rfl rfl ?_
    refine J_iconst hX 2 dX12_readHouse_117 rfl ?_
    refine S_1 hX [.int x1, .int 2] dX12_readHouse_118 cw_X12_74 (C_X12_at (okG hX) rfl) (ltD hdx rfl) rfl rfl rfl rfl ?_
    refine J_iload hX 5 dX12_readHouse_121 rfl ?_
    obtain ⟨g_4, hf⟩ := gdE hf
    obtain ⟨h_5, e_6, hf⟩ := bndE hf
    refine J_ast hX ((f_X12_at x1 2 r_2).toNatClampNeg) x4 dX12_readHouse_123 ar_31 (Or.inl ⟨rfl, rfl, rfl⟩) g_4 rfl ?_
    refine J_nmh e_6 ?_
    refine J_aload_n hX 1 dX12_readHouse_124 rfl rfl ?_
    refine J_getR hX 31 dX12_readHouse_125 fl_X12_13 ob_30 rfl rfl ?_
    refine J_iload_n hX 2 dX12_readHouse_128 rfl rfl ?_
    refine J_iconst hX 3 dX12_readHouse_129 rfl ?_
    refine S_1 hX [.int x1, .int 3] dX12_readHouse_130 cw_X12_74 (C_X12_at (okG hX) rfl) (ltD hdx rfl) rfl rfl rfl rfl ?_
    refine J_iload hX 0 dX12_readHouse_133 rfl ?_
    obtain ⟨g_7, hf⟩ := gdE hf
    obtain ⟨h_8, e_9, hf⟩ := bndE hf
    refine J_ast hX ((f_X12_at x1 3 h_5).toNatClampNeg) t0 dX12_readHouse_135 ar_31 (Or.inl ⟨rfl, rfl, rfl⟩) g_7 rfl ?_
    refine J_nmh e_9 ?_
    refine J_iconst hX 1 dX12_readHouse_136 rfl ?_
    exact E_Zi hX dX12_readHouse_137 rfl hf
set_option maxRecDepth 100000 in
set_option maxHeartbeats 200000 in
theorem T_X12_readHouse_68 {X : CX} (hX : Ok X cX12_readHouse 6 RX12 (some .boolean)) (hdx : dX X = 10) {r : Bool × Hp} (x1 : Int32) (x2 : Int32) (x3 : Int32) (t0 : Int32) (h : Hp) (hf : F_X12_readHouse_68 x1 x2 x3 t0 h = some r) : J X ((.inl (some (.int (b2i r.1))), r.2)) 68 [(0, .ref 30), (1, .int x1), (2, .int x2), (3, .int x3)] [.int t0] h := by
  unfold F_X12_readHouse_68 at hf
  refine J_istore hX [(4, .int t0), (0, .ref 30), (1, .int x1), (2, .int x2), (3, .int x3)] dX12_readHouse_68 rfl rfl ?_
  refine J_iload hX 0 dX12_readHouse_70 rfl ?_
  rcases ifE hf with ⟨c_1, hf⟩ | ⟨c_1, hf⟩
  · refine J_if_geF hX 77 dX12_readHouse_72 rfl c_1 ?_
    refine J_iconst hX 0 dX12_readHouse_75 rfl ?_
    exact E_Zi hX dX12_readHouse_76 rfl hf
  · refine J_if_geT hX 77 dX12_readHouse_72 rfl c_1 ?_
    refine J_aload_n hX 1 dX12_readHouse_77 rfl rfl ?_
    refine J_ldcS hX 1020 dX12_readHouse_78 rfl rfl ?_
    obtain ⟨r_2, e_3, hf⟩ := bdE hf
    refine V_1 hX [.ref 1020] dX12_readHouse_80 cw_X12_162 ob_30 rfl (C_X12_passes (okG hX) (isStr_of (by decide)) e_3) (ltD hdx rfl) rfl rfl rfl rfl ?_
    rcases ifE hf with ⟨c_4, hf⟩ | ⟨c_4, hf⟩
    · refine J_if_eqF hX 96 dX12_readHouse_83 rfl (b2iT c_4) ?_
      refine J_aload_n hX 1 dX12_readHouse_86 rfl rfl ?_
      refine J_iconst hX 0 dX12_readHouse_87 rfl ?_
      refine J_bipush hX 99 dX12_readHouse_88 rfl ?_
      obtain ⟨r_5, e_6, hf⟩ := bdE hf
      refine V_1 hX [.int 0, .int 99] dX12_readHouse_90 cw_X12_149 ob_30 rfl (C_X12_number (okG hX) e_6) (ltD hdx rfl) rfl rfl rfl rfl ?_
      refine J_goto hX 97 dX12_readHouse_93 rfl ?_
      refine J_sub [1, 2, 3, 4, 0] [(0, .ref 30), (1, .int x1), (2, .int x2), (3, .int x3), (4, .int t0)] rfl ?_
      exact T_X12_readHouse_97 hX hdx x1 x2 x3 t0 r_5.1 r_5.2 hf
    · refine J_if_eqT hX 96 dX12_readHouse_83 rfl (b2iF c_4) ?_
      refine J_iconst hX 0 dX12_readHouse_96 rfl ?_
      refine J_sub [1, 2, 3, 4, 0] [(0, .ref 30), (1, .int x1), (2, .int x2), (3, .int x3), (4, .int t0)] rfl ?_
      exact T_X12_readHouse_97 hX hdx x1 x2 x3 t0 0 r_2.2 hf
set_option maxRecDepth 100000 in
set_option maxHeartbeats 200000 in
theorem T_X12_readHouse_41 {X : CX} (hX : Ok X cX12_readHouse 6 RX12 (some .boolean)) (hdx : dX X = 10) {r : Bool × Hp} (x1 : Int32) (x2 : Int32) (t0 : Int32) (h : Hp) (hf : F_X12_readHouse_41 x1 x2 t0 h = some r) : J X ((.inl (some (.int (b2i r.1))), r.2)) 41 [(0, .ref 30), (1, .int x1), (2, .int x2)] [.int t0] h := by
  unfold F_X12_readHouse_41 at hf
  refine J_istore_n hX [(3, .int t0), (0, .ref 30), (1, .int x1), (2, .int x2)] dX12_readHouse_41 rfl rfl rfl ?_
  refine J_iload_n hX 0 dX12_readHouse_42 rfl rfl ?_
  rcases ifE hf with ⟨c_1, hf⟩ | ⟨c_1, hf⟩
  · refine J_if_geF hX 48 dX12_readHouse_43 rfl c_1 ?_
    refine J_iconst hX 0 dX12_readHouse_46 rfl ?_
    exact E_Zi hX dX12_readHouse_47 rfl hf
  · refine J_if_geT hX 48 dX12_readHouse_43 rfl c_1 ?_
    refine J_aload_n hX 1 dX12_readHouse_48 rfl rfl ?_
    refine J_ldcS hX 1019 dX12_readHouse_49 rfl rfl ?_
    obtain ⟨r_2, e_3, hf⟩ := bdE hf
    refine V_1 hX [.ref 1019] dX12_readHouse_51 cw_X12_162 ob_30 rfl (C_X12_passes (okG hX) (isStr_of (by decide)) e_3) (ltD hdx rfl) rfl rfl rfl rfl ?_
    rcases ifE hf with ⟨c_4, hf⟩ | ⟨c_4, hf⟩
    · refine J_if_eqF hX 67 dX12_readHouse_54 rfl (b2iT c_4) ?_
      refine J_aload_n hX 1 dX12_readHouse_57 rfl rfl ?_
      refine J_iconst hX 0 dX12_readHouse_58 rfl ?_
      refine J_bipush hX 9 dX12_readHouse_59 rfl ?_
      obtain ⟨r_5, e_6, hf⟩ := bdE hf
      refine V_1 hX [.int 0, .int 9] dX12_readHouse_61 cw_X12_149 ob_30 rfl (C_X12_number (okG hX) e_6) (ltD hdx rfl) rfl rfl rfl rfl ?_
      refine J_goto hX 68 dX12_readHouse_64 rfl ?_
      refine J_sub [1, 2, 3, 0] [(0, .ref 30), (1, .int x1), (2, .int x2), (3, .int t0)] rfl ?_
      exact T_X12_readHouse_68 hX hdx x1 x2 t0 r_5.1 r_5.2 hf
    · refine J_if_eqT hX 67 dX12_readHouse_54 rfl (b2iF c_4) ?_
      refine J_iconst hX 0 dX12_readHouse_67 rfl ?_
      refine J_sub [1, 2, 3, 0] [(0, .ref 30), (1, .int x1), (2, .int x2), (3, .int t0)] rfl ?_
      exact T_X12_readHouse_68 hX hdx x1 x2 t0 0 r_2.2 hf
set_option maxRecDepth 100000 in
set_option maxHeartbeats 200000 in
theorem T_X12_readHouse_0 {X : CX} (hX : Ok X cX12_readHouse 6 RX12 (some .boolean)) (hdx : dX X = 10) {r : Bool × Hp} (h : Hp) (hf : f_X12_readHouse h = some r) : J X ((.inl (some (.int (b2i r.1))), r.2)) 0 [(0, .ref 30)] [] h := by
  unfold f_X12_readHouse at hf
  refine J_aload_n hX 0 dX12_readHouse_0 rfl rfl ?_
  refine V_1 hX [] dX12_readHouse_1 cw_X12_87 ob_30 rfl (C_X12_houses (okG hX) rfl) (ltD hdx rfl) rfl rfl rfl rfl ?_
  obtain ⟨x1_1, e_2, hf⟩ := bndE hf
  refine J_nm e_2 ?_
  refine J_istore_n hX [(1, .int x1_1), (0, .ref 30)] dX12_readHouse_4 rfl rfl rfl ?_
  refine J_iload_n hX 0 dX12_readHouse_5 rfl rfl ?_
  refine J_bipush hX 8 dX12_readHouse_6 rfl ?_
  rcases ifE hf with ⟨c_3, hf⟩ | ⟨c_3, hf⟩
  · refine J_icmp_neF hX 13 dX12_readHouse_8 rfl c_3 ?_
    refine J_iconst hX 0 dX12_readHouse_11 rfl ?_
    exact E_Zi hX dX12_readHouse_12 rfl hf
  · refine J_icmp_neT hX 13 dX12_readHouse_8 rfl c_3 ?_
    refine J_aload_n hX 1 dX12_readHouse_13 rfl rfl ?_
    refine J_ldcS hX 1017 dX12_readHouse_14 rfl rfl ?_
    refine J_iconst hX 1 dX12_readHouse_16 rfl ?_
    refine J_bipush hX 99 dX12_readHouse_17 rfl ?_
    obtain ⟨r_4, e_5, hf⟩ := bdE hf
    refine V_1 hX [.ref 1017, .int 1, .int 99] dX12_readHouse_19 cw_X12_154 ob_30 rfl (C_X12_after (okG hX) (isStr_of (by decide)) e_5) (ltD hdx rfl) rfl rfl rfl rfl ?_
    refine J_istore_n hX [(2, .int r_4.1), (1, .int x1_1), (0, .ref 30)] dX12_readHouse_22 rfl rfl rfl ?_
    refine J_iload_n hX 0 dX12_readHouse_23 rfl rfl ?_
    rcases ifE hf with ⟨c_6, hf⟩ | ⟨c_6, hf⟩
    · refine J_if_geF hX 31 dX12_readHouse_24 rfl c_6 ?_
      refine J_iconst hX (-1) dX12_readHouse_27 rfl ?_
      refine J_goto hX 41 dX12_readHouse_28 rfl ?_
      refine J_sub [2, 1, 0] [(0, .ref 30), (1, .int x1_1), (2, .int r_4.1)] rfl ?_
      exact T_X12_readHouse_41 hX hdx x1_1 r_4.1 (-1) r_4.2 hf
    · refine J_if_geT hX 31 dX12_readHouse_24 rfl c_6 ?_
      refine J_aload_n hX 2 dX12_readHouse_31 rfl rfl ?_
      refine J_ldcS hX 1018 dX12_readHouse_32 rfl rfl ?_
      refine J_iconst hX 0 dX12_readHouse_34 rfl ?_
      refine J_sipush hX 999 dX12_readHouse_35 rfl ?_
      obtain ⟨r_7, e_8, hf⟩ := bdE hf
      refine V_1 hX [.ref 1018, .int 0, .int 999] dX12_readHouse_38 cw_X12_154 ob_30 rfl (C_X12_after (okG hX) (isStr_of (by decide)) e_8) (ltD hdx rfl) rfl rfl rfl rfl ?_
      refine J_sub [2, 1, 0] [(0, .ref 30), (1, .int x1_1), (2, .int r_4.1)] rfl ?_
      exact T_X12_readHouse_41 hX hdx x1_1 r_4.1 r_7.1 r_7.2 hf
set_option maxRecDepth 100000 in
set_option maxHeartbeats 200000 in
theorem C_X12_readHouse {G : GX} (hG : GOk G) {h : Hp} {r : Bool × Hp} (hf : f_X12_readHouse h = some r) : Ctr G 10 yX12_readHouse cX12_readHouse 6 (some .boolean) [.ref 30] h ((.inl (some (.int (b2i r.1))), r.2)) :=
  Ctr_of hG RX12 rfl (by decide) rfl (fun X _ hdx hX => T_X12_readHouse_0 hX hdx h hf)
theorem dX12_readLean_0 : decode cX12_readLean 0 = .ok (.aload_n 0, 1) := by decide +kernel
theorem dX12_readLean_1 : decode cX12_readLean 1 = .ok (.invokevirtual 171, 3) := by decide +kernel
theorem dX12_readLean_4 : decode cX12_readLean 4 = .ok (.istore_n 1, 1) := by decide +kernel
theorem dX12_readLean_5 : decode cX12_readLean 5 = .ok (.iload_n 1, 1) := by decide +kernel
theorem dX12_readLean_6 : decode cX12_readLean 6 = .ok (.ifCond .ge 7, 3) := by decide +kernel
theorem dX12_readLean_9 : decode cX12_readLean 9 = .ok (.iconst (-1), 1) := by decide +kernel
theorem dX12_readLean_10 : decode cX12_readLean 10 = .ok (.goto 7, 3) := by decide +kernel
theorem dX12_readLean_13 : decode cX12_readLean 13 = .ok (.aload_n 0, 1) := by decide +kernel
theorem dX12_readLean_14 : decode cX12_readLean 14 = .ok (.invokevirtual 171, 3) := by decide +kernel
theorem dX12_readLean_17 : decode cX12_readLean 17 = .ok (.istore_n 2, 1) := by decide +kernel
theorem dX12_readLean_18 : decode cX12_readLean 18 = .ok (.iload_n 2, 1) := by decide +kernel
theorem dX12_readLean_19 : decode cX12_readLean 19 = .ok (.ifCond .lt 8, 3) := by decide +kernel
theorem dX12_readLean_22 : decode cX12_readLean 22 = .ok (.iload_n 2, 1) := by decide +kernel
theorem dX12_readLean_23 : decode cX12_readLean 23 = .ok (.iload_n 1, 1) := by decide +kernel
theorem dX12_readLean_24 : decode cX12_readLean 24 = .ok (.if_icmp .ne 5, 3) := by decide +kernel
theorem dX12_readLean_27 : decode cX12_readLean 27 = .ok (.iconst 0, 1) := by decide +kernel
theorem dX12_readLean_28 : decode cX12_readLean 28 = .ok (.ireturn, 1) := by decide +kernel
theorem dX12_readLean_29 : decode cX12_readLean 29 = .ok (.aload_n 0, 1) := by decide +kernel
theorem dX12_readLean_30 : decode cX12_readLean 30 = .ok (.ldc 174, 2) := by decide +kernel
theorem dX12_readLean_32 : decode cX12_readLean 32 = .ok (.iconst 0, 1) := by decide +kernel
theorem dX12_readLean_33 : decode cX12_readLean 33 = .ok (.bipush 9, 2) := by decide +kernel
theorem dX12_readLean_35 : decode cX12_readLean 35 = .ok (.invokevirtual 154, 3) := by decide +kernel
theorem dX12_readLean_38 : decode cX12_readLean 38 = .ok (.istore_n 3, 1) := by decide +kernel
theorem dX12_readLean_39 : decode cX12_readLean 39 = .ok (.iload_n 3, 1) := by decide +kernel
theorem dX12_readLean_40 : decode cX12_readLean 40 = .ok (.ifCond .ge 5, 3) := by decide +kernel
theorem dX12_readLean_43 : decode cX12_readLean 43 = .ok (.iconst 0, 1) := by decide +kernel
theorem dX12_readLean_44 : decode cX12_readLean 44 = .ok (.ireturn, 1) := by decide +kernel
theorem dX12_readLean_45 : decode cX12_readLean 45 = .ok (.aload_n 0, 1) := by decide +kernel
theorem dX12_readLean_46 : decode cX12_readLean 46 = .ok (.getfield 13, 3) := by decide +kernel
theorem dX12_readLean_49 : decode cX12_readLean 49 = .ok (.iload_n 1, 1) := by decide +kernel
theorem dX12_readLean_50 : decode cX12_readLean 50 = .ok (.iload_n 2, 1) := by decide +kernel
theorem dX12_readLean_51 : decode cX12_readLean 51 = .ok (.invokestatic 78, 3) := by decide +kernel
theorem dX12_readLean_54 : decode cX12_readLean 54 = .ok (.iload_n 3, 1) := by decide +kernel
theorem dX12_readLean_55 : decode cX12_readLean 55 = .ok (.iastore, 1) := by decide +kernel
theorem dX12_readLean_56 : decode cX12_readLean 56 = .ok (.iconst 1, 1) := by decide +kernel
theorem dX12_readLean_57 : decode cX12_readLean 57 = .ok (.ireturn, 1) := by decide +kernel
set_option maxRecDepth 100000 in
set_option maxHeartbeats 200000 in
theorem T_X12_readLean_17 {X : CX} (hX : Ok X cX12_readLean 4 RX12 (some .boolean)) (hdx : dX X = 10) {r : Bool × Hp} (x1 : Int32) (t0 : Int32) (h : Hp) (hf : F_X12_readLean_17 x1 t0 h = some r) : J X ((.inl (some (.int (b2i r.1))), r.2)) 17 [(0, .ref 30), (1, .int x1)] [.int t0] h := by
  unfold F_X12_readLean_17 at hf
  refine J_istore_n hX [(2, .int t0), (0, .ref 30), (1, .int x1)] dX12_readLean_17 rfl rfl rfl ?_
  refine J_iload_n hX 0 dX12_readLean_18 rfl rfl ?_
  rcases ifE hf with ⟨c_1, hf⟩ | ⟨c_1, hf⟩
  · refine J_if_ltT hX 27 dX12_readLean_19 rfl c_1 ?_
    refine J_iconst hX 0 dX12_readLean_27 rfl ?_
    exact E_Zi hX dX12_readLean_28 rfl hf
  · refine J_if_ltF hX 27 dX12_readLean_19 rfl c_1 ?_
    refine J_iload_n hX 0 dX12_readLean_22 rfl rfl ?_
    refine J_iload_n hX 2 dX12_readLean_23 rfl rfl ?_
    rcases ifE hf with ⟨c_2, hf⟩ | ⟨c_2, hf⟩
    · refine J_icmp_neF hX 29 dX12_readLean_24 rfl c_2 ?_
      refine J_iconst hX 0 dX12_readLean_27 rfl ?_
      exact E_Zi hX dX12_readLean_28 rfl hf
    · refine J_icmp_neT hX 29 dX12_readLean_24 rfl c_2 ?_
      refine J_aload_n hX 1 dX12_readLean_29 rfl rfl ?_
      refine J_ldcS hX 1022 dX12_readLean_30 rfl rfl ?_
      refine J_iconst hX 0 dX12_readLean_32 rfl ?_
      refine J_bipush hX 9 dX12_readLean_33 rfl ?_
      obtain ⟨r_3, e_4, hf⟩ := bdE hf
      refine V_1 hX [.ref 1022, .int 0, .int 9] dX12_readLean_35 cw_X12_154 ob_30 rfl (C_X12_after (okG hX) (isStr_of (by decide)) e_4) (ltD hdx rfl) rfl rfl rfl rfl ?_
      refine J_istore_n hX [(3, .int r_3.1), (2, .int t0), (0, .ref 30), (1, .int x1)] dX12_readLean_38 rfl rfl rfl ?_
      refine J_iload_n hX 0 dX12_readLean_39 rfl rfl ?_
      rcases ifE hf with ⟨c_5, hf⟩ | ⟨c_5, hf⟩
      · refine J_if_geF hX 45 dX12_readLean_40 rfl c_5 ?_
        refine J_iconst hX 0 dX12_readLean_43 rfl ?_
        exact E_Zi hX dX12_readLean_44 rfl hf
      · refine J_if_geT hX 45 dX12_readLean_40 rfl c_5 ?_
        refine J_aload_n hX 2 dX12_readLean_45 rfl rfl ?_
        refine J_getR hX 31 dX12_readLean_46 fl_X12_13 ob_30 rfl rfl ?_
        refine J_iload_n hX 3 dX12_readLean_49 rfl rfl ?_
        refine J_iload_n hX 1 dX12_readLean_50 rfl rfl ?_
        refine S_1 hX [.int x1, .int t0] dX12_readLean_51 cw_X12_78 (C_X12_partAt (okG hX) rfl) (ltD hdx rfl) rfl rfl rfl rfl ?_
        refine J_iload_n hX 0 dX12_readLean_54 rfl rfl ?_
        obtain ⟨g_6, hf⟩ := gdE hf
        obtain ⟨h_7, e_8, hf⟩ := bndE hf
        refine J_ast hX ((f_X12_partAt x1 t0 r_3.2).toNatClampNeg) r_3.1 dX12_readLean_55 ar_31 (Or.inl ⟨rfl, rfl, rfl⟩) g_6 rfl ?_
        refine J_nmh e_8 ?_
        refine J_iconst hX 1 dX12_readLean_56 rfl ?_
        exact E_Zi hX dX12_readLean_57 rfl hf
set_option maxRecDepth 100000 in
set_option maxHeartbeats 200000 in
theorem T_X12_readLean_0 {X : CX} (hX : Ok X cX12_readLean 4 RX12 (some .boolean)) (hdx : dX X = 10) {r : Bool × Hp} (h : Hp) (hf : f_X12_readLean h = some r) : J X ((.inl (some (.int (b2i r.1))), r.2)) 0 [(0, .ref 30)] [] h := by
  unfold f_X12_readLean at hf
  refine J_aload_n hX 0 dX12_readLean_0 rfl rfl ?_
  obtain ⟨r_1, e_2, hf⟩ := bdE hf
  refine V_1 hX [] dX12_readLean_1 cw_X12_171 ob_30 rfl (C_X12_houseTold (okG hX) e_2) (ltD hdx rfl) rfl rfl rfl rfl ?_
  refine J_istore_n hX [(1, .int r_1.1), (0, .ref 30)] dX12_readLean_4 rfl rfl rfl ?_
  refine J_iload_n hX 0 dX12_readLean_5 rfl rfl ?_
  rcases ifE hf with ⟨c_3, hf⟩ | ⟨c_3, hf⟩
  · refine J_if_geF hX 13 dX12_readLean_6 rfl c_3 ?_
    refine J_iconst hX (-1) dX12_readLean_9 rfl ?_
    refine J_goto hX 17 dX12_readLean_10 rfl ?_
    refine J_sub [1, 0] [(0, .ref 30), (1, .int r_1.1)] rfl ?_
    exact T_X12_readLean_17 hX hdx r_1.1 (-1) r_1.2 hf
  · refine J_if_geT hX 13 dX12_readLean_6 rfl c_3 ?_
    refine J_aload_n hX 1 dX12_readLean_13 rfl rfl ?_
    obtain ⟨r_4, e_5, hf⟩ := bdE hf
    refine V_1 hX [] dX12_readLean_14 cw_X12_171 ob_30 rfl (C_X12_houseTold (okG hX) e_5) (ltD hdx rfl) rfl rfl rfl rfl ?_
    refine J_sub [1, 0] [(0, .ref 30), (1, .int r_1.1)] rfl ?_
    exact T_X12_readLean_17 hX hdx r_1.1 r_4.1 r_4.2 hf
set_option maxRecDepth 100000 in
set_option maxHeartbeats 200000 in
theorem C_X12_readLean {G : GX} (hG : GOk G) {h : Hp} {r : Bool × Hp} (hf : f_X12_readLean h = some r) : Ctr G 10 yX12_readLean cX12_readLean 4 (some .boolean) [.ref 30] h ((.inl (some (.int (b2i r.1))), r.2)) :=
  Ctr_of hG RX12 rfl (by decide) rfl (fun X _ hdx hX => T_X12_readLean_0 hX hdx h hf)
theorem dX12_figures_0 : decode cX12_figures 0 = .ok (.aload_n 0, 1) := by decide +kernel
theorem dX12_figures_1 : decode cX12_figures 1 = .ok (.invokevirtual 130, 3) := by decide +kernel
theorem dX12_figures_4 : decode cX12_figures 4 = .ok (.iconst 0, 1) := by decide +kernel
theorem dX12_figures_5 : decode cX12_figures 5 = .ok (.istore_n 1, 1) := by decide +kernel
theorem dX12_figures_6 : decode cX12_figures 6 = .ok (.iconst 1, 1) := by decide +kernel
theorem dX12_figures_7 : decode cX12_figures 7 = .ok (.istore_n 2, 1) := by decide +kernel
theorem dX12_figures_8 : decode cX12_figures 8 = .ok (.aload_n 0, 1) := by decide +kernel
theorem dX12_figures_9 : decode cX12_figures 9 = .ok (.bipush 48, 2) := by decide +kernel
theorem dX12_figures_11 : decode cX12_figures 11 = .ok (.bipush 57, 2) := by decide +kernel
theorem dX12_figures_13 : decode cX12_figures 13 = .ok (.invokevirtual 123, 3) := by decide +kernel
theorem dX12_figures_16 : decode cX12_figures 16 = .ok (.ifCond .eq 90, 3) := by decide +kernel
theorem dX12_figures_19 : decode cX12_figures 19 = .ok (.iload_n 2, 1) := by decide +kernel
theorem dX12_figures_20 : decode cX12_figures 20 = .ok (.ifCond .eq 35, 3) := by decide +kernel
theorem dX12_figures_23 : decode cX12_figures 23 = .ok (.aload_n 0, 1) := by decide +kernel
theorem dX12_figures_24 : decode cX12_figures 24 = .ok (.getfield 117, 3) := by decide +kernel
theorem dX12_figures_27 : decode cX12_figures 27 = .ok (.aload_n 0, 1) := by decide +kernel
theorem dX12_figures_28 : decode cX12_figures 28 = .ok (.getfield 127, 3) := by decide +kernel
theorem dX12_figures_31 : decode cX12_figures 31 = .ok (.isub, 1) := by decide +kernel
theorem dX12_figures_32 : decode cX12_figures 32 = .ok (.bipush 7, 2) := by decide +kernel
theorem dX12_figures_34 : decode cX12_figures 34 = .ok (.if_icmp .ge 21, 3) := by decide +kernel
theorem dX12_figures_37 : decode cX12_figures 37 = .ok (.aload_n 0, 1) := by decide +kernel
theorem dX12_figures_38 : decode cX12_figures 38 = .ok (.getfield 35, 3) := by decide +kernel
theorem dX12_figures_41 : decode cX12_figures 41 = .ok (.aload_n 0, 1) := by decide +kernel
theorem dX12_figures_42 : decode cX12_figures 42 = .ok (.getfield 117, 3) := by decide +kernel
theorem dX12_figures_45 : decode cX12_figures 45 = .ok (.baload, 1) := by decide +kernel
theorem dX12_figures_46 : decode cX12_figures 46 = .ok (.bipush 49, 2) := by decide +kernel
theorem dX12_figures_48 : decode cX12_figures 48 = .ok (.if_icmp .gt 7, 3) := by decide +kernel
theorem dX12_figures_51 : decode cX12_figures 51 = .ok (.iconst 1, 1) := by decide +kernel
theorem dX12_figures_52 : decode cX12_figures 52 = .ok (.goto 4, 3) := by decide +kernel
theorem dX12_figures_55 : decode cX12_figures 55 = .ok (.iconst 0, 1) := by decide +kernel
theorem dX12_figures_56 : decode cX12_figures 56 = .ok (.istore_n 2, 1) := by decide +kernel
theorem dX12_figures_57 : decode cX12_figures 57 = .ok (.iload_n 1, 1) := by decide +kernel
theorem dX12_figures_58 : decode cX12_figures 58 = .ok (.iload_n 2, 1) := by decide +kernel
theorem dX12_figures_59 : decode cX12_figures 59 = .ok (.ifCond .eq 31, 3) := by decide +kernel
theorem dX12_figures_62 : decode cX12_figures 62 = .ok (.aload_n 0, 1) := by decide +kernel
theorem dX12_figures_63 : decode cX12_figures 63 = .ok (.getfield 35, 3) := by decide +kernel
theorem dX12_figures_66 : decode cX12_figures 66 = .ok (.aload_n 0, 1) := by decide +kernel
theorem dX12_figures_67 : decode cX12_figures 67 = .ok (.getfield 117, 3) := by decide +kernel
theorem dX12_figures_70 : decode cX12_figures 70 = .ok (.baload, 1) := by decide +kernel
theorem dX12_figures_71 : decode cX12_figures 71 = .ok (.bipush 49, 2) := by decide +kernel
theorem dX12_figures_73 : decode cX12_figures 73 = .ok (.if_icmp .ne 17, 3) := by decide +kernel
theorem dX12_figures_76 : decode cX12_figures 76 = .ok (.iconst 1, 1) := by decide +kernel
theorem dX12_figures_77 : decode cX12_figures 77 = .ok (.aload_n 0, 1) := by decide +kernel
theorem dX12_figures_78 : decode cX12_figures 78 = .ok (.getfield 117, 3) := by decide +kernel
theorem dX12_figures_81 : decode cX12_figures 81 = .ok (.aload_n 0, 1) := by decide +kernel
theorem dX12_figures_82 : decode cX12_figures 82 = .ok (.getfield 127, 3) := by decide +kernel
theorem dX12_figures_85 : decode cX12_figures 85 = .ok (.isub, 1) := by decide +kernel
theorem dX12_figures_86 : decode cX12_figures 86 = .ok (.ishl, 1) := by decide +kernel
theorem dX12_figures_87 : decode cX12_figures 87 = .ok (.goto 4, 3) := by decide +kernel
theorem dX12_figures_90 : decode cX12_figures 90 = .ok (.iconst 0, 1) := by decide +kernel
theorem dX12_figures_91 : decode cX12_figures 91 = .ok (.ior, 1) := by decide +kernel
theorem dX12_figures_92 : decode cX12_figures 92 = .ok (.istore_n 1, 1) := by decide +kernel
theorem dX12_figures_93 : decode cX12_figures 93 = .ok (.aload_n 0, 1) := by decide +kernel
theorem dX12_figures_94 : decode cX12_figures 94 = .ok (.dup, 1) := by decide +kernel
theorem dX12_figures_95 : decode cX12_figures 95 = .ok (.getfield 117, 3) := by decide +kernel
theorem dX12_figures_98 : decode cX12_figures 98 = .ok (.iconst 1, 1) := by decide +kernel
theorem dX12_figures_99 : decode cX12_figures 99 = .ok (.iadd, 1) := by decide +kernel
theorem dX12_figures_100 : decode cX12_figures 100 = .ok (.putfield 117, 3) := by decide +kernel
theorem dX12_figures_103 : decode cX12_figures 103 = .ok (.goto (-95), 3) := by decide +kernel
theorem dX12_figures_106 : decode cX12_figures 106 = .ok (.iload_n 2, 1) := by decide +kernel
theorem dX12_figures_107 : decode cX12_figures 107 = .ok (.ifCond .eq 21, 3) := by decide +kernel
theorem dX12_figures_110 : decode cX12_figures 110 = .ok (.aload_n 0, 1) := by decide +kernel
theorem dX12_figures_111 : decode cX12_figures 111 = .ok (.getfield 117, 3) := by decide +kernel
theorem dX12_figures_114 : decode cX12_figures 114 = .ok (.aload_n 0, 1) := by decide +kernel
theorem dX12_figures_115 : decode cX12_figures 115 = .ok (.getfield 127, 3) := by decide +kernel
theorem dX12_figures_118 : decode cX12_figures 118 = .ok (.isub, 1) := by decide +kernel
theorem dX12_figures_119 : decode cX12_figures 119 = .ok (.bipush 7, 2) := by decide +kernel
theorem dX12_figures_121 : decode cX12_figures 121 = .ok (.if_icmp .ne 7, 3) := by decide +kernel
theorem dX12_figures_124 : decode cX12_figures 124 = .ok (.iload_n 1, 1) := by decide +kernel
theorem dX12_figures_125 : decode cX12_figures 125 = .ok (.goto 4, 3) := by decide +kernel
theorem dX12_figures_128 : decode cX12_figures 128 = .ok (.iconst (-1), 1) := by decide +kernel
theorem dX12_figures_129 : decode cX12_figures 129 = .ok (.ireturn, 1) := by decide +kernel
set_option maxRecDepth 100000 in
set_option maxHeartbeats 200000 in
theorem T_X12_figures_91 {X : CX} (hX : Ok X cX12_figures 3 RX12 (some .int)) (hdx : dX X = 4) {r : Int32 × Hp} (x2 : Int32) (t0 : Int32) (t1 : Int32) (q_8 : Int32 → Int32 → Hp → Option (Int32 × Hp)) (hq_8 : ∀ (x1 : Int32) (x2 : Int32) (h : Hp), q_8 x1 x2 h = some r → J X ((.inl (some (.int r.1)), r.2)) 8 [(0, .ref 30), (1, .int x1), (2, .int x2)] [] h) (h : Hp) (hf : F_X12_figures_91 q_8 x2 t0 t1 h = some r) : J X ((.inl (some (.int r.1)), r.2)) 91 [(0, .ref 30), (2, .int x2)] [.int t0, .int t1] h := by
  unfold F_X12_figures_91 at hf
  refine J_ior hX dX12_figures_91 ?_
  obtain ⟨x1_1, e_2, hf⟩ := bndE hf
  refine J_nm e_2 ?_
  refine J_istore_n hX [(1, .int x1_1), (0, .ref 30), (2, .int x2)] dX12_figures_92 rfl rfl rfl ?_
  refine J_aload_n hX 1 dX12_figures_93 rfl rfl ?_
  refine J_dup hX dX12_figures_94 rfl ?_
  refine J_getI hX dX12_figures_95 fl_X12_117 ob_30 rfl ?_
  refine J_iconst hX 1 dX12_figures_98 rfl ?_
  refine J_iadd hX dX12_figures_99 ?_
  obtain ⟨h_3, e_4, hf⟩ := bndE hf
  refine J_putI hX dX12_figures_100 fl_X12_117 fw_10_12 ob_30 rfl rfl rfl ?_
  refine J_nmh e_4 ?_
  refine J_goto hX 8 dX12_figures_103 rfl ?_
  refine J_sub [1, 0, 2] [(0, .ref 30), (1, .int x1_1), (2, .int x2)] rfl ?_
  exact hq_8 x1_1 x2 h_3 hf
set_option maxRecDepth 100000 in
set_option maxHeartbeats 200000 in
theorem T_X12_figures_56 {X : CX} (hX : Ok X cX12_figures 3 RX12 (some .int)) (hdx : dX X = 4) {r : Int32 × Hp} (x1 : Int32) (t0 : Int32) (q_8 : Int32 → Int32 → Hp → Option (Int32 × Hp)) (hq_8 : ∀ (x1 : Int32) (x2 : Int32) (h : Hp), q_8 x1 x2 h = some r → J X ((.inl (some (.int r.1)), r.2)) 8 [(0, .ref 30), (1, .int x1), (2, .int x2)] [] h) (h : Hp) (hf : F_X12_figures_56 q_8 x1 t0 h = some r) : J X ((.inl (some (.int r.1)), r.2)) 56 [(0, .ref 30), (1, .int x1)] [.int t0] h := by
  unfold F_X12_figures_56 at hf
  refine J_istore_n hX [(2, .int t0), (0, .ref 30), (1, .int x1)] dX12_figures_56 rfl rfl rfl ?_
  refine J_iload_n hX 2 dX12_figures_57 rfl rfl ?_
  refine J_iload_n hX 0 dX12_figures_58 rfl rfl ?_
  rcases ifE hf with ⟨c_1, hf⟩ | ⟨c_1, hf⟩
  · refine J_if_eqT hX 90 dX12_figures_59 rfl c_1 ?_
    refine J_iconst hX 0 dX12_figures_90 rfl ?_
    refine J_sub [1, 0] [(0, .ref 30), (2, .int t0)] rfl ?_
    exact T_X12_figures_91 hX hdx t0 0 x1 q_8 hq_8 h hf
  · refine J_if_eqF hX 90 dX12_figures_59 rfl c_1 ?_
    refine J_aload_n hX 1 dX12_figures_62 rfl rfl ?_
    refine J_getR hX 38 dX12_figures_63 fl_X12_35 ob_30 rfl rfl ?_
    refine J_aload_n hX 1 dX12_figures_66 rfl rfl ?_
    refine J_getI hX dX12_figures_67 fl_X12_117 ob_30 rfl ?_
    obtain ⟨g_2, hf⟩ := gdE hf
    refine J_ald hX ((h 30 12).toNatClampNeg) dX12_figures_70 ar_38 (Or.inr (Or.inl ⟨rfl, rfl⟩)) g_2 rfl ?_
    refine J_bipush hX 49 dX12_figures_71 rfl ?_
    rcases ifE hf with ⟨c_3, hf⟩ | ⟨c_3, hf⟩
    · refine J_icmp_neF hX 90 dX12_figures_73 rfl c_3 ?_
      refine J_iconst hX 1 dX12_figures_76 rfl ?_
      refine J_aload_n hX 1 dX12_figures_77 rfl rfl ?_
      refine J_getI hX dX12_figures_78 fl_X12_117 ob_30 rfl ?_
      refine J_aload_n hX 1 dX12_figures_81 rfl rfl ?_
      refine J_getI hX dX12_figures_82 fl_X12_127 ob_30 rfl ?_
      refine J_isub hX dX12_figures_85 ?_
      refine J_ishl hX dX12_figures_86 ?_
      refine J_goto hX 91 dX12_figures_87 rfl ?_
      refine J_sub [1, 0] [(0, .ref 30), (2, .int t0)] rfl ?_
      exact T_X12_figures_91 hX hdx t0 (shl 1 ((h 30 12) - (h 30 14))) x1 q_8 hq_8 h hf
    · refine J_icmp_neT hX 90 dX12_figures_73 rfl c_3 ?_
      refine J_iconst hX 0 dX12_figures_90 rfl ?_
      refine J_sub [1, 0] [(0, .ref 30), (2, .int t0)] rfl ?_
      exact T_X12_figures_91 hX hdx t0 0 x1 q_8 hq_8 h hf
set_option maxRecDepth 100000 in
set_option maxHeartbeats 200000 in
theorem T_X12_figures_8_s {X : CX} (hX : Ok X cX12_figures 3 RX12 (some .int)) (hdx : dX X = 4) {r : Int32 × Hp} (q_8 : Int32 → Int32 → Hp → Option (Int32 × Hp)) (hq_8 : ∀ (x1 : Int32) (x2 : Int32) (h : Hp), q_8 x1 x2 h = some r → J X ((.inl (some (.int r.1)), r.2)) 8 [(0, .ref 30), (1, .int x1), (2, .int x2)] [] h) (x1 : Int32) (x2 : Int32) (h : Hp) (hf : S_X12_figures_8 q_8 x1 x2 h = some r) : J X ((.inl (some (.int r.1)), r.2)) 8 [(0, .ref 30), (1, .int x1), (2, .int x2)] [] h := by
  unfold S_X12_figures_8 at hf
  refine J_aload_n hX 0 dX12_figures_8 rfl rfl ?_
  refine J_bipush hX 48 dX12_figures_9 rfl ?_
  refine J_bipush hX 57 dX12_figures_11 rfl ?_
  obtain ⟨r_1, e_2, hf⟩ := bdE hf
  refine V_1 hX [.int 48, .int 57] dX12_figures_13 cw_X12_123 ob_30 rfl (C_X12_isAt (okG hX) e_2) (ltD hdx rfl) rfl rfl rfl rfl ?_
  rcases ifE hf with ⟨c_3, hf⟩ | ⟨c_3, hf⟩
  · refine J_if_eqF hX 106 dX12_figures_16 rfl (b2iT c_3) ?_
    refine J_iload_n hX 2 dX12_figures_19 rfl rfl ?_
    rcases ifE hf with ⟨c_4, hf⟩ | ⟨c_4, hf⟩
    · refine J_if_eqT hX 55 dX12_figures_20 rfl c_4 ?_
      refine J_iconst hX 0 dX12_figures_55 rfl ?_
      refine J_sub [0, 1] [(0, .ref 30), (1, .int x1)] rfl ?_
      exact T_X12_figures_56 hX hdx x1 0 q_8 hq_8 h hf
    · refine J_if_eqF hX 55 dX12_figures_20 rfl c_4 ?_
      refine J_aload_n hX 0 dX12_figures_23 rfl rfl ?_
      refine J_getI hX dX12_figures_24 fl_X12_117 ob_30 rfl ?_
      refine J_aload_n hX 0 dX12_figures_27 rfl rfl ?_
      refine J_getI hX dX12_figures_28 fl_X12_127 ob_30 rfl ?_
      refine J_isub hX dX12_figures_31 ?_
      refine J_bipush hX 7 dX12_figures_32 rfl ?_
      rcases ifE hf with ⟨c_5, hf⟩ | ⟨c_5, hf⟩
      · refine J_icmp_geF hX 55 dX12_figures_34 rfl c_5 ?_
        refine J_aload_n hX 0 dX12_figures_37 rfl rfl ?_
        refine J_getR hX 38 dX12_figures_38 fl_X12_35 ob_30 rfl rfl ?_
        refine J_aload_n hX 0 dX12_figures_41 rfl rfl ?_
        refine J_getI hX dX12_figures_42 fl_X12_117 ob_30 rfl ?_
        obtain ⟨g_6, hf⟩ := gdE hf
        refine J_ald hX ((h 30 12).toNatClampNeg) dX12_figures_45 ar_38 (Or.inr (Or.inl ⟨rfl, rfl⟩)) g_6 rfl ?_
        refine J_bipush hX 49 dX12_figures_46 rfl ?_
        rcases ifE hf with ⟨c_7, hf⟩ | ⟨c_7, hf⟩
        · refine J_icmp_gtT hX 55 dX12_figures_48 rfl c_7 ?_
          refine J_iconst hX 0 dX12_figures_55 rfl ?_
          refine J_sub [0, 1] [(0, .ref 30), (1, .int x1)] rfl ?_
          exact T_X12_figures_56 hX hdx x1 0 q_8 hq_8 h hf
        · refine J_icmp_gtF hX 55 dX12_figures_48 rfl c_7 ?_
          refine J_iconst hX 1 dX12_figures_51 rfl ?_
          refine J_goto hX 56 dX12_figures_52 rfl ?_
          refine J_sub [0, 1] [(0, .ref 30), (1, .int x1)] rfl ?_
          exact T_X12_figures_56 hX hdx x1 1 q_8 hq_8 h hf
      · refine J_icmp_geT hX 55 dX12_figures_34 rfl c_5 ?_
        refine J_iconst hX 0 dX12_figures_55 rfl ?_
        refine J_sub [0, 1] [(0, .ref 30), (1, .int x1)] rfl ?_
        exact T_X12_figures_56 hX hdx x1 0 q_8 hq_8 h hf
  · refine J_if_eqT hX 106 dX12_figures_16 rfl (b2iF c_3) ?_
    refine J_iload_n hX 2 dX12_figures_106 rfl rfl ?_
    rcases ifE hf with ⟨c_8, hf⟩ | ⟨c_8, hf⟩
    · refine J_if_eqT hX 128 dX12_figures_107 rfl c_8 ?_
      refine J_iconst hX (-1) dX12_figures_128 rfl ?_
      exact E_Ii hX dX12_figures_129 hf
    · refine J_if_eqF hX 128 dX12_figures_107 rfl c_8 ?_
      refine J_aload_n hX 0 dX12_figures_110 rfl rfl ?_
      refine J_getI hX dX12_figures_111 fl_X12_117 ob_30 rfl ?_
      refine J_aload_n hX 0 dX12_figures_114 rfl rfl ?_
      refine J_getI hX dX12_figures_115 fl_X12_127 ob_30 rfl ?_
      refine J_isub hX dX12_figures_118 ?_
      refine J_bipush hX 7 dX12_figures_119 rfl ?_
      rcases ifE hf with ⟨c_9, hf⟩ | ⟨c_9, hf⟩
      · refine J_icmp_neF hX 128 dX12_figures_121 rfl c_9 ?_
        refine J_iload_n hX 1 dX12_figures_124 rfl rfl ?_
        refine J_goto hX 129 dX12_figures_125 rfl ?_
        exact E_Ii hX dX12_figures_129 hf
      · refine J_icmp_neT hX 128 dX12_figures_121 rfl c_9 ?_
        refine J_iconst hX (-1) dX12_figures_128 rfl ?_
        exact E_Ii hX dX12_figures_129 hf
set_option maxRecDepth 100000 in
set_option maxHeartbeats 200000 in
theorem T_X12_figures_8 {X : CX} (hX : Ok X cX12_figures 3 RX12 (some .int)) (hdx : dX X = 4) {r : Int32 × Hp} : ∀ (n : Nat) (x1 : Int32) (x2 : Int32) (h : Hp), F_X12_figures_8 n x1 x2 h = some r → J X ((.inl (some (.int r.1)), r.2)) 8 [(0, .ref 30), (1, .int x1), (2, .int x2)] [] h := by
  intro n
  induction n with
  | zero => intro x1 x2 h hf; exact nomatch hf
  | succ n ih => intro x1 x2 h hf; exact T_X12_figures_8_s hX hdx _ (fun x1 x2 h hf => ih x1 x2 h hf) x1 x2 h hf
set_option maxRecDepth 100000 in
set_option maxHeartbeats 200000 in
theorem T_X12_figures_0 {X : CX} (hX : Ok X cX12_figures 3 RX12 (some .int)) (hdx : dX X = 4) {r : Int32 × Hp} (h : Hp) (hf : f_X12_figures h = some r) : J X ((.inl (some (.int r.1)), r.2)) 0 [(0, .ref 30)] [] h := by
  unfold f_X12_figures at hf
  refine J_aload_n hX 0 dX12_figures_0 rfl rfl ?_
  obtain ⟨r_1, e_2, hf⟩ := bdE hf
  refine V_0 hX [] dX12_figures_1 cw_X12_130 ob_30 rfl (C_X12_blanks (okG hX) e_2) (ltD hdx rfl) rfl rfl rfl rfl ?_
  refine J_iconst hX 0 dX12_figures_4 rfl ?_
  refine J_istore_n hX [(1, .int 0), (0, .ref 30)] dX12_figures_5 rfl rfl rfl ?_
  refine J_iconst hX 1 dX12_figures_6 rfl ?_
  refine J_istore_n hX [(2, .int 1), (1, .int 0), (0, .ref 30)] dX12_figures_7 rfl rfl rfl ?_
  refine J_sub [2, 1, 0] [(0, .ref 30), (1, .int 0), (2, .int 1)] rfl ?_
  exact T_X12_figures_8 hX hdx FU 0 1 r_1 hf
set_option maxRecDepth 100000 in
set_option maxHeartbeats 200000 in
theorem C_X12_figures {G : GX} (hG : GOk G) {h : Hp} {r : Int32 × Hp} (hf : f_X12_figures h = some r) : Ctr G 4 yX12_figures cX12_figures 3 (some .int) [.ref 30] h ((.inl (some (.int r.1)), r.2)) :=
  Ctr_of hG RX12 rfl (by decide) rfl (fun X _ hdx hX => T_X12_figures_0 hX hdx h hf)
theorem dX12_readPerson_0 : decode cX12_readPerson 0 = .ok (.aload_n 0, 1) := by decide +kernel
theorem dX12_readPerson_1 : decode cX12_readPerson 1 = .ok (.invokevirtual 99, 3) := by decide +kernel
theorem dX12_readPerson_4 : decode cX12_readPerson 4 = .ok (.istore_n 1, 1) := by decide +kernel
theorem dX12_readPerson_5 : decode cX12_readPerson 5 = .ok (.iload_n 1, 1) := by decide +kernel
theorem dX12_readPerson_6 : decode cX12_readPerson 6 = .ok (.bipush 6, 2) := by decide +kernel
theorem dX12_readPerson_8 : decode cX12_readPerson 8 = .ok (.if_icmp .ne 5, 3) := by decide +kernel
theorem dX12_readPerson_11 : decode cX12_readPerson 11 = .ok (.iconst 0, 1) := by decide +kernel
theorem dX12_readPerson_12 : decode cX12_readPerson 12 = .ok (.ireturn, 1) := by decide +kernel
theorem dX12_readPerson_13 : decode cX12_readPerson 13 = .ok (.aload_n 0, 1) := by decide +kernel
theorem dX12_readPerson_14 : decode cX12_readPerson 14 = .ok (.invokevirtual 142, 3) := by decide +kernel
theorem dX12_readPerson_17 : decode cX12_readPerson 17 = .ok (.aload_n 0, 1) := by decide +kernel
theorem dX12_readPerson_18 : decode cX12_readPerson 18 = .ok (.ldc 176, 2) := by decide +kernel
theorem dX12_readPerson_20 : decode cX12_readPerson 20 = .ok (.invokevirtual 145, 3) := by decide +kernel
theorem dX12_readPerson_23 : decode cX12_readPerson 23 = .ok (.ifCond .eq 10, 3) := by decide +kernel
theorem dX12_readPerson_26 : decode cX12_readPerson 26 = .ok (.aload_n 0, 1) := by decide +kernel
theorem dX12_readPerson_27 : decode cX12_readPerson 27 = .ok (.invokevirtual 171, 3) := by decide +kernel
theorem dX12_readPerson_30 : decode cX12_readPerson 30 = .ok (.goto 4, 3) := by decide +kernel
theorem dX12_readPerson_33 : decode cX12_readPerson 33 = .ok (.iconst (-1), 1) := by decide +kernel
theorem dX12_readPerson_34 : decode cX12_readPerson 34 = .ok (.istore_n 2, 1) := by decide +kernel
theorem dX12_readPerson_35 : decode cX12_readPerson 35 = .ok (.iload_n 2, 1) := by decide +kernel
theorem dX12_readPerson_36 : decode cX12_readPerson 36 = .ok (.ifCond .ge 7, 3) := by decide +kernel
theorem dX12_readPerson_39 : decode cX12_readPerson 39 = .ok (.iconst (-1), 1) := by decide +kernel
theorem dX12_readPerson_40 : decode cX12_readPerson 40 = .ok (.goto 12, 3) := by decide +kernel
theorem dX12_readPerson_43 : decode cX12_readPerson 43 = .ok (.aload_n 0, 1) := by decide +kernel
theorem dX12_readPerson_44 : decode cX12_readPerson 44 = .ok (.ldc 177, 2) := by decide +kernel
theorem dX12_readPerson_46 : decode cX12_readPerson 46 = .ok (.iconst 0, 1) := by decide +kernel
theorem dX12_readPerson_47 : decode cX12_readPerson 47 = .ok (.bipush 99, 2) := by decide +kernel
theorem dX12_readPerson_49 : decode cX12_readPerson 49 = .ok (.invokevirtual 154, 3) := by decide +kernel
theorem dX12_readPerson_52 : decode cX12_readPerson 52 = .ok (.istore_n 3, 1) := by decide +kernel
theorem dX12_readPerson_53 : decode cX12_readPerson 53 = .ok (.iload_n 3, 1) := by decide +kernel
theorem dX12_readPerson_54 : decode cX12_readPerson 54 = .ok (.ifCond .ge 5, 3) := by decide +kernel
theorem dX12_readPerson_57 : decode cX12_readPerson 57 = .ok (.iconst 0, 1) := by decide +kernel
theorem dX12_readPerson_58 : decode cX12_readPerson 58 = .ok (.ireturn, 1) := by decide +kernel
theorem dX12_readPerson_59 : decode cX12_readPerson 59 = .ok (.aload_n 0, 1) := by decide +kernel
theorem dX12_readPerson_60 : decode cX12_readPerson 60 = .ok (.ldc 179, 2) := by decide +kernel
theorem dX12_readPerson_62 : decode cX12_readPerson 62 = .ok (.invokevirtual 162, 3) := by decide +kernel
theorem dX12_readPerson_65 : decode cX12_readPerson 65 = .ok (.ifCond .eq 10, 3) := by decide +kernel
theorem dX12_readPerson_68 : decode cX12_readPerson 68 = .ok (.aload_n 0, 1) := by decide +kernel
theorem dX12_readPerson_69 : decode cX12_readPerson 69 = .ok (.invokevirtual 181, 3) := by decide +kernel
theorem dX12_readPerson_72 : decode cX12_readPerson 72 = .ok (.goto 5, 3) := by decide +kernel
theorem dX12_readPerson_75 : decode cX12_readPerson 75 = .ok (.bipush 127, 2) := by decide +kernel
theorem dX12_readPerson_77 : decode cX12_readPerson 77 = .ok (.istore 4, 2) := by decide +kernel
theorem dX12_readPerson_79 : decode cX12_readPerson 79 = .ok (.iload 4, 2) := by decide +kernel
theorem dX12_readPerson_81 : decode cX12_readPerson 81 = .ok (.ifCond .ge 5, 3) := by decide +kernel
theorem dX12_readPerson_84 : decode cX12_readPerson 84 = .ok (.iconst 0, 1) := by decide +kernel
theorem dX12_readPerson_85 : decode cX12_readPerson 85 = .ok (.ireturn, 1) := by decide +kernel
theorem dX12_readPerson_86 : decode cX12_readPerson 86 = .ok (.aload_n 0, 1) := by decide +kernel
theorem dX12_readPerson_87 : decode cX12_readPerson 87 = .ok (.getfield 13, 3) := by decide +kernel
theorem dX12_readPerson_90 : decode cX12_readPerson 90 = .ok (.iload_n 1, 1) := by decide +kernel
theorem dX12_readPerson_91 : decode cX12_readPerson 91 = .ok (.iconst 0, 1) := by decide +kernel
theorem dX12_readPerson_92 : decode cX12_readPerson 92 = .ok (.invokestatic 81, 3) := by decide +kernel
theorem dX12_readPerson_95 : decode cX12_readPerson 95 = .ok (.iload_n 2, 1) := by decide +kernel
theorem dX12_readPerson_96 : decode cX12_readPerson 96 = .ok (.iastore, 1) := by decide +kernel
theorem dX12_readPerson_97 : decode cX12_readPerson 97 = .ok (.aload_n 0, 1) := by decide +kernel
theorem dX12_readPerson_98 : decode cX12_readPerson 98 = .ok (.getfield 13, 3) := by decide +kernel
theorem dX12_readPerson_101 : decode cX12_readPerson 101 = .ok (.iload_n 1, 1) := by decide +kernel
theorem dX12_readPerson_102 : decode cX12_readPerson 102 = .ok (.iconst 1, 1) := by decide +kernel
theorem dX12_readPerson_103 : decode cX12_readPerson 103 = .ok (.invokestatic 81, 3) := by decide +kernel
theorem dX12_readPerson_106 : decode cX12_readPerson 106 = .ok (.iload_n 3, 1) := by decide +kernel
theorem dX12_readPerson_107 : decode cX12_readPerson 107 = .ok (.iastore, 1) := by decide +kernel
theorem dX12_readPerson_108 : decode cX12_readPerson 108 = .ok (.aload_n 0, 1) := by decide +kernel
theorem dX12_readPerson_109 : decode cX12_readPerson 109 = .ok (.getfield 13, 3) := by decide +kernel
theorem dX12_readPerson_112 : decode cX12_readPerson 112 = .ok (.iload_n 1, 1) := by decide +kernel
theorem dX12_readPerson_113 : decode cX12_readPerson 113 = .ok (.iconst 2, 1) := by decide +kernel
theorem dX12_readPerson_114 : decode cX12_readPerson 114 = .ok (.invokestatic 81, 3) := by decide +kernel
theorem dX12_readPerson_117 : decode cX12_readPerson 117 = .ok (.iload 4, 2) := by decide +kernel
theorem dX12_readPerson_119 : decode cX12_readPerson 119 = .ok (.iastore, 1) := by decide +kernel
theorem dX12_readPerson_120 : decode cX12_readPerson 120 = .ok (.aload_n 0, 1) := by decide +kernel
theorem dX12_readPerson_121 : decode cX12_readPerson 121 = .ok (.getfield 13, 3) := by decide +kernel
theorem dX12_readPerson_124 : decode cX12_readPerson 124 = .ok (.iconst 1, 1) := by decide +kernel
theorem dX12_readPerson_125 : decode cX12_readPerson 125 = .ok (.dup2, 1) := by decide +kernel
theorem dX12_readPerson_126 : decode cX12_readPerson 126 = .ok (.iaload, 1) := by decide +kernel
theorem dX12_readPerson_127 : decode cX12_readPerson 127 = .ok (.iconst 1, 1) := by decide +kernel
theorem dX12_readPerson_128 : decode cX12_readPerson 128 = .ok (.iadd, 1) := by decide +kernel
theorem dX12_readPerson_129 : decode cX12_readPerson 129 = .ok (.iastore, 1) := by decide +kernel
theorem dX12_readPerson_130 : decode cX12_readPerson 130 = .ok (.iconst 1, 1) := by decide +kernel
theorem dX12_readPerson_131 : decode cX12_readPerson 131 = .ok (.ireturn, 1) := by decide +kernel
set_option maxRecDepth 100000 in
set_option maxHeartbeats 200000 in
theorem T_X12_readPerson_77 {X : CX} (hX : Ok X cX12_readPerson 5 RX12 (some .boolean)) (hdx : dX X = 10) {r : Bool × Hp} (x1 : Int32) (x2 : Int32) (x3 : Int32) (t0 : Int32) (h : Hp) (hf : F_X12_readPerson_77 x1 x2 x3 t0 h = some r) : J X ((.inl (some (.int (b2i r.1))), r.2)) 77 [(0, .ref 30), (1, .int x1), (2, .int x2), (3, .int x3)] [.int t0] h := by
  unfold F_X12_readPerson_77 at hf
  refine J_istore hX [(4, .int t0), (0, .ref 30), (1, .int x1), (2, .int x2), (3, .int x3)] dX12_readPerson_77 rfl rfl ?_
  refine J_iload hX 0 dX12_readPerson_79 rfl ?_
  rcases ifE hf with ⟨c_1, hf⟩ | ⟨c_1, hf⟩
  · refine J_if_geF hX 86 dX12_readPerson_81 rfl c_1 ?_
    refine J_iconst hX 0 dX12_readPerson_84 rfl ?_
    exact E_Zi hX dX12_readPerson_85 rfl hf
  · refine J_if_geT hX 86 dX12_readPerson_81 rfl c_1 ?_
    refine J_aload_n hX 1 dX12_readPerson_86 rfl rfl ?_
    refine J_getR hX 31 dX12_readPerson_87 fl_X12_13 ob_30 rfl rfl ?_
    refine J_iload_n hX 2 dX12_readPerson_90 rfl rfl ?_
    refine J_iconst hX 0 dX12_readPerson_91 rfl ?_
    refine S_1 hX [.int x1, .int 0] dX12_readPerson_92 cw_X12_81 (C_X12_personAt (okG hX) rfl) (ltD hdx rfl) rfl rfl rfl rfl ?_
    refine J_iload_n hX 3 dX12_readPerson_95 rfl rfl ?_
    obtain ⟨g_2, hf⟩ := gdE hf
    obtain ⟨h_3, e_4, hf⟩ := bndE hf
    refine J_ast hX ((f_X12_personAt x1 0 h).toNatClampNeg) x2 dX12_readPerson_96 ar_31 (Or.inl ⟨rfl, rfl, rfl⟩) g_2 rfl ?_
    refine J_nmh e_4 ?_
    refine J_aload_n hX 1 dX12_readPerson_97 rfl rfl ?_
    refine J_getR hX 31 dX12_readPerson_98 fl_X12_13 ob_30 rfl rfl ?_
    refine J_iload_n hX 2 dX12_readPerson_101 rfl rfl ?_
    refine J_iconst hX 1 dX12_readPerson_102 rfl ?_
    refine S_1 hX [.int x1, .int 1] dX12_readPerson_103 cw_X12_81 (C_X12_personAt (okG hX) rfl) (ltD hdx rfl) rfl rfl rfl rfl ?_
    refine J_iload_n hX 4 dX12_readPerson_106 rfl rfl ?_
    obtain ⟨g_5, hf⟩ := gdE hf
    obtain ⟨h_6, e_7, hf⟩ := bndE hf
    refine J_ast hX ((f_X12_personAt x1 1 h_3).toNatClampNeg) x3 dX12_readPerson_107 ar_31 (Or.inl ⟨rfl, rfl, rfl⟩) g_5 rfl ?_
    refine J_nmh e_7 ?_
    refine J_aload_n hX 1 dX12_readPerson_108 rfl rfl ?_
    refine J_getR hX 31 dX12_readPerson_109 fl_X12_13 ob_30 rfl rfl ?_
    refine J_iload_n hX 2 dX12_readPerson_112 rfl rfl ?_
    refine J_iconst hX 2 dX12_readPerson_113 rfl ?_
    refine S_1 hX [.int x1, .int 2] dX12_readPerson_114 cw_X12_81 (C_X12_personAt (okG hX) rfl) (ltD hdx rfl) rfl rfl rfl rfl ?_
    refine J_iload hX 0 dX12_readPerson_117 rfl ?_
    obtain ⟨g_8, hf⟩ := gdE hf
    obtain ⟨h_9, e_10, hf⟩ := bndE hf
    refine J_ast hX ((f_X12_personAt x1 2 h_6).toNatClampNeg) t0 dX12_readPerson_119 ar_31 (Or.inl ⟨rfl, rfl, rfl⟩) g_8 rfl ?_
    refine J_nmh e_10 ?_
    refine J_aload_n hX 1 dX12_readPerson_120 rfl rfl ?_
    refine J_getR hX 31 dX12_readPerson_121 fl_X12_13 ob_30 rfl rfl ?_
    refine J_iconst hX 1 dX12_readPerson_124 rfl ?_
    refine J_dup2 hX dX12_readPerson_125 rfl rfl ?_
    refine J_ald hX 1 dX12_readPerson_126 ar_31 (Or.inl ⟨rfl, rfl⟩) (by decide) (by decide) ?_
    refine J_iconst hX 1 dX12_readPerson_127 rfl ?_
    refine J_iadd hX dX12_readPerson_128 ?_
    obtain ⟨h_11, e_12, hf⟩ := bndE hf
    refine J_ast hX 1 ((h_9 31 1) + 1) dX12_readPerson_129 ar_31 (Or.inl ⟨rfl, rfl, rfl⟩) (by decide) (by decide) ?_
    refine J_nmh e_12 ?_
    refine J_iconst hX 1 dX12_readPerson_130 rfl ?_
    exact E_Zi hX dX12_readPerson_131 rfl hf
set_option maxRecDepth 100000 in
set_option maxHeartbeats 200000 in
theorem T_X12_readPerson_52 {X : CX} (hX : Ok X cX12_readPerson 5 RX12 (some .boolean)) (hdx : dX X = 10) {r : Bool × Hp} (x1 : Int32) (x2 : Int32) (t0 : Int32) (h : Hp) (hf : F_X12_readPerson_52 x1 x2 t0 h = some r) : J X ((.inl (some (.int (b2i r.1))), r.2)) 52 [(0, .ref 30), (1, .int x1), (2, .int x2)] [.int t0] h := by
  unfold F_X12_readPerson_52 at hf
  refine J_istore_n hX [(3, .int t0), (0, .ref 30), (1, .int x1), (2, .int x2)] dX12_readPerson_52 rfl rfl rfl ?_
  refine J_iload_n hX 0 dX12_readPerson_53 rfl rfl ?_
  rcases ifE hf with ⟨c_1, hf⟩ | ⟨c_1, hf⟩
  · refine J_if_geF hX 59 dX12_readPerson_54 rfl c_1 ?_
    refine J_iconst hX 0 dX12_readPerson_57 rfl ?_
    exact E_Zi hX dX12_readPerson_58 rfl hf
  · refine J_if_geT hX 59 dX12_readPerson_54 rfl c_1 ?_
    refine J_aload_n hX 1 dX12_readPerson_59 rfl rfl ?_
    refine J_ldcS hX 1026 dX12_readPerson_60 rfl rfl ?_
    obtain ⟨r_2, e_3, hf⟩ := bdE hf
    refine V_1 hX [.ref 1026] dX12_readPerson_62 cw_X12_162 ob_30 rfl (C_X12_passes (okG hX) (isStr_of (by decide)) e_3) (ltD hdx rfl) rfl rfl rfl rfl ?_
    rcases ifE hf with ⟨c_4, hf⟩ | ⟨c_4, hf⟩
    · refine J_if_eqF hX 75 dX12_readPerson_65 rfl (b2iT c_4) ?_
      refine J_aload_n hX 1 dX12_readPerson_68 rfl rfl ?_
      obtain ⟨r_5, e_6, hf⟩ := bdE hf
      refine V_1 hX [] dX12_readPerson_69 cw_X12_181 ob_30 rfl (C_X12_figures (okG hX) e_6) (ltD hdx rfl) rfl rfl rfl rfl ?_
      refine J_goto hX 77 dX12_readPerson_72 rfl ?_
      refine J_sub [1, 2, 3, 0] [(0, .ref 30), (1, .int x1), (2, .int x2), (3, .int t0)] rfl ?_
      exact T_X12_readPerson_77 hX hdx x1 x2 t0 r_5.1 r_5.2 hf
    · refine J_if_eqT hX 75 dX12_readPerson_65 rfl (b2iF c_4) ?_
      refine J_bipush hX 127 dX12_readPerson_75 rfl ?_
      refine J_sub [1, 2, 3, 0] [(0, .ref 30), (1, .int x1), (2, .int x2), (3, .int t0)] rfl ?_
      exact T_X12_readPerson_77 hX hdx x1 x2 t0 127 r_2.2 hf
set_option maxRecDepth 100000 in
set_option maxHeartbeats 200000 in
theorem T_X12_readPerson_34 {X : CX} (hX : Ok X cX12_readPerson 5 RX12 (some .boolean)) (hdx : dX X = 10) {r : Bool × Hp} (x1 : Int32) (t0 : Int32) (h : Hp) (hf : F_X12_readPerson_34 x1 t0 h = some r) : J X ((.inl (some (.int (b2i r.1))), r.2)) 34 [(0, .ref 30), (1, .int x1)] [.int t0] h := by
  unfold F_X12_readPerson_34 at hf
  refine J_istore_n hX [(2, .int t0), (0, .ref 30), (1, .int x1)] dX12_readPerson_34 rfl rfl rfl ?_
  refine J_iload_n hX 0 dX12_readPerson_35 rfl rfl ?_
  rcases ifE hf with ⟨c_1, hf⟩ | ⟨c_1, hf⟩
  · refine J_if_geF hX 43 dX12_readPerson_36 rfl c_1 ?_
    refine J_iconst hX (-1) dX12_readPerson_39 rfl ?_
    refine J_goto hX 52 dX12_readPerson_40 rfl ?_
    refine J_sub [1, 2, 0] [(0, .ref 30), (1, .int x1), (2, .int t0)] rfl ?_
    exact T_X12_readPerson_52 hX hdx x1 t0 (-1) h hf
  · refine J_if_geT hX 43 dX12_readPerson_36 rfl c_1 ?_
    refine J_aload_n hX 1 dX12_readPerson_43 rfl rfl ?_
    refine J_ldcS hX 1025 dX12_readPerson_44 rfl rfl ?_
    refine J_iconst hX 0 dX12_readPerson_46 rfl ?_
    refine J_bipush hX 99 dX12_readPerson_47 rfl ?_
    obtain ⟨r_2, e_3, hf⟩ := bdE hf
    refine V_1 hX [.ref 1025, .int 0, .int 99] dX12_readPerson_49 cw_X12_154 ob_30 rfl (C_X12_after (okG hX) (isStr_of (by decide)) e_3) (ltD hdx rfl) rfl rfl rfl rfl ?_
    refine J_sub [1, 2, 0] [(0, .ref 30), (1, .int x1), (2, .int t0)] rfl ?_
    exact T_X12_readPerson_52 hX hdx x1 t0 r_2.1 r_2.2 hf
set_option maxRecDepth 100000 in
set_option maxHeartbeats 200000 in
theorem T_X12_readPerson_0 {X : CX} (hX : Ok X cX12_readPerson 5 RX12 (some .boolean)) (hdx : dX X = 10) {r : Bool × Hp} (h : Hp) (hf : f_X12_readPerson h = some r) : J X ((.inl (some (.int (b2i r.1))), r.2)) 0 [(0, .ref 30)] [] h := by
  unfold f_X12_readPerson at hf
  refine J_aload_n hX 0 dX12_readPerson_0 rfl rfl ?_
  refine V_1 hX [] dX12_readPerson_1 cw_X12_99 ob_30 rfl (C_X12_people (okG hX) rfl) (ltD hdx rfl) rfl rfl rfl rfl ?_
  obtain ⟨x1_1, e_2, hf⟩ := bndE hf
  refine J_nm e_2 ?_
  refine J_istore_n hX [(1, .int x1_1), (0, .ref 30)] dX12_readPerson_4 rfl rfl rfl ?_
  refine J_iload_n hX 0 dX12_readPerson_5 rfl rfl ?_
  refine J_bipush hX 6 dX12_readPerson_6 rfl ?_
  rcases ifE hf with ⟨c_3, hf⟩ | ⟨c_3, hf⟩
  · refine J_icmp_neF hX 13 dX12_readPerson_8 rfl c_3 ?_
    refine J_iconst hX 0 dX12_readPerson_11 rfl ?_
    exact E_Zi hX dX12_readPerson_12 rfl hf
  · refine J_icmp_neT hX 13 dX12_readPerson_8 rfl c_3 ?_
    refine J_aload_n hX 1 dX12_readPerson_13 rfl rfl ?_
    obtain ⟨r_4, e_5, hf⟩ := bdE hf
    refine V_0 hX [] dX12_readPerson_14 cw_X12_142 ob_30 rfl (C_X12_letters (okG hX) e_5) (ltD hdx rfl) rfl rfl rfl rfl ?_
    refine J_aload_n hX 1 dX12_readPerson_17 rfl rfl ?_
    refine J_ldcS hX 1024 dX12_readPerson_18 rfl rfl ?_
    obtain ⟨r_6, e_7, hf⟩ := bdE hf
    refine V_1 hX [.ref 1024] dX12_readPerson_20 cw_X12_145 ob_30 rfl (C_X12_isWord (okG hX) (isStr_of (by decide)) e_7) (ltD hdx rfl) rfl rfl rfl rfl ?_
    rcases ifE hf with ⟨c_8, hf⟩ | ⟨c_8, hf⟩
    · refine J_if_eqF hX 33 dX12_readPerson_23 rfl (b2iT c_8) ?_
      refine J_aload_n hX 1 dX12_readPerson_26 rfl rfl ?_
      obtain ⟨r_9, e_10, hf⟩ := bdE hf
      refine V_1 hX [] dX12_readPerson_27 cw_X12_171 ob_30 rfl (C_X12_houseTold (okG hX) e_10) (ltD hdx rfl) rfl rfl rfl rfl ?_
      refine J_goto hX 34 dX12_readPerson_30 rfl ?_
      refine J_sub [1, 0] [(0, .ref 30), (1, .int x1_1)] rfl ?_
      exact T_X12_readPerson_34 hX hdx x1_1 r_9.1 r_9.2 hf
    · refine J_if_eqT hX 33 dX12_readPerson_23 rfl (b2iF c_8) ?_
      refine J_iconst hX (-1) dX12_readPerson_33 rfl ?_
      refine J_sub [1, 0] [(0, .ref 30), (1, .int x1_1)] rfl ?_
      exact T_X12_readPerson_34 hX hdx x1_1 (-1) r_4 hf
set_option maxRecDepth 100000 in
set_option maxHeartbeats 200000 in
theorem C_X12_readPerson {G : GX} (hG : GOk G) {h : Hp} {r : Bool × Hp} (hf : f_X12_readPerson h = some r) : Ctr G 10 yX12_readPerson cX12_readPerson 5 (some .boolean) [.ref 30] h ((.inl (some (.int (b2i r.1))), r.2)) :=
  Ctr_of hG RX12 rfl (by decide) rfl (fun X _ hdx hX => T_X12_readPerson_0 hX hdx h hf)
theorem dX12_readCityLine_0 : decode cX12_readCityLine 0 = .ok (.aload_n 0, 1) := by decide +kernel
theorem dX12_readCityLine_1 : decode cX12_readCityLine 1 = .ok (.ldc 184, 2) := by decide +kernel
theorem dX12_readCityLine_3 : decode cX12_readCityLine 3 = .ok (.invokevirtual 145, 3) := by decide +kernel
theorem dX12_readCityLine_6 : decode cX12_readCityLine 6 = .ok (.ifCond .eq 8, 3) := by decide +kernel
theorem dX12_readCityLine_9 : decode cX12_readCityLine 9 = .ok (.aload_n 0, 1) := by decide +kernel
theorem dX12_readCityLine_10 : decode cX12_readCityLine 10 = .ok (.invokevirtual 186, 3) := by decide +kernel
theorem dX12_readCityLine_13 : decode cX12_readCityLine 13 = .ok (.ireturn, 1) := by decide +kernel
theorem dX12_readCityLine_14 : decode cX12_readCityLine 14 = .ok (.aload_n 0, 1) := by decide +kernel
theorem dX12_readCityLine_15 : decode cX12_readCityLine 15 = .ok (.ldc 190, 2) := by decide +kernel
theorem dX12_readCityLine_17 : decode cX12_readCityLine 17 = .ok (.invokevirtual 145, 3) := by decide +kernel
theorem dX12_readCityLine_20 : decode cX12_readCityLine 20 = .ok (.ifCond .eq 8, 3) := by decide +kernel
theorem dX12_readCityLine_23 : decode cX12_readCityLine 23 = .ok (.aload_n 0, 1) := by decide +kernel
theorem dX12_readCityLine_24 : decode cX12_readCityLine 24 = .ok (.invokevirtual 192, 3) := by decide +kernel
theorem dX12_readCityLine_27 : decode cX12_readCityLine 27 = .ok (.ireturn, 1) := by decide +kernel
theorem dX12_readCityLine_28 : decode cX12_readCityLine 28 = .ok (.aload_n 0, 1) := by decide +kernel
theorem dX12_readCityLine_29 : decode cX12_readCityLine 29 = .ok (.ldc 195, 2) := by decide +kernel
theorem dX12_readCityLine_31 : decode cX12_readCityLine 31 = .ok (.invokevirtual 145, 3) := by decide +kernel
theorem dX12_readCityLine_34 : decode cX12_readCityLine 34 = .ok (.ifCond .eq 8, 3) := by decide +kernel
theorem dX12_readCityLine_37 : decode cX12_readCityLine 37 = .ok (.aload_n 0, 1) := by decide +kernel
theorem dX12_readCityLine_38 : decode cX12_readCityLine 38 = .ok (.invokevirtual 197, 3) := by decide +kernel
theorem dX12_readCityLine_41 : decode cX12_readCityLine 41 = .ok (.ireturn, 1) := by decide +kernel
theorem dX12_readCityLine_42 : decode cX12_readCityLine 42 = .ok (.aload_n 0, 1) := by decide +kernel
theorem dX12_readCityLine_43 : decode cX12_readCityLine 43 = .ok (.ldc 200, 2) := by decide +kernel
theorem dX12_readCityLine_45 : decode cX12_readCityLine 45 = .ok (.invokevirtual 145, 3) := by decide +kernel
theorem dX12_readCityLine_48 : decode cX12_readCityLine 48 = .ok (.ifCond .eq 13, 3) := by decide +kernel
theorem dX12_readCityLine_51 : decode cX12_readCityLine 51 = .ok (.aload_n 0, 1) := by decide +kernel
theorem dX12_readCityLine_52 : decode cX12_readCityLine 52 = .ok (.bipush 6, 2) := by decide +kernel
theorem dX12_readCityLine_54 : decode cX12_readCityLine 54 = .ok (.iconst 0, 1) := by decide +kernel
theorem dX12_readCityLine_55 : decode cX12_readCityLine 55 = .ok (.bipush 100, 2) := by decide +kernel
theorem dX12_readCityLine_57 : decode cX12_readCityLine 57 = .ok (.invokevirtual 202, 3) := by decide +kernel
theorem dX12_readCityLine_60 : decode cX12_readCityLine 60 = .ok (.ireturn, 1) := by decide +kernel
theorem dX12_readCityLine_61 : decode cX12_readCityLine 61 = .ok (.aload_n 0, 1) := by decide +kernel
theorem dX12_readCityLine_62 : decode cX12_readCityLine 62 = .ok (.ldc 205, 2) := by decide +kernel
theorem dX12_readCityLine_64 : decode cX12_readCityLine 64 = .ok (.invokevirtual 145, 3) := by decide +kernel
theorem dX12_readCityLine_67 : decode cX12_readCityLine 67 = .ok (.ifCond .eq 13, 3) := by decide +kernel
theorem dX12_readCityLine_70 : decode cX12_readCityLine 70 = .ok (.aload_n 0, 1) := by decide +kernel
theorem dX12_readCityLine_71 : decode cX12_readCityLine 71 = .ok (.bipush 7, 2) := by decide +kernel
theorem dX12_readCityLine_73 : decode cX12_readCityLine 73 = .ok (.iconst 1, 1) := by decide +kernel
theorem dX12_readCityLine_74 : decode cX12_readCityLine 74 = .ok (.bipush 99, 2) := by decide +kernel
theorem dX12_readCityLine_76 : decode cX12_readCityLine 76 = .ok (.invokevirtual 202, 3) := by decide +kernel
theorem dX12_readCityLine_79 : decode cX12_readCityLine 79 = .ok (.ireturn, 1) := by decide +kernel
theorem dX12_readCityLine_80 : decode cX12_readCityLine 80 = .ok (.aload_n 0, 1) := by decide +kernel
theorem dX12_readCityLine_81 : decode cX12_readCityLine 81 = .ok (.ldc 207, 2) := by decide +kernel
theorem dX12_readCityLine_83 : decode cX12_readCityLine 83 = .ok (.invokevirtual 145, 3) := by decide +kernel
theorem dX12_readCityLine_86 : decode cX12_readCityLine 86 = .ok (.ifCond .eq 12, 3) := by decide +kernel
theorem dX12_readCityLine_89 : decode cX12_readCityLine 89 = .ok (.aload_n 0, 1) := by decide +kernel
theorem dX12_readCityLine_90 : decode cX12_readCityLine 90 = .ok (.iconst 4, 1) := by decide +kernel
theorem dX12_readCityLine_91 : decode cX12_readCityLine 91 = .ok (.iconst 0, 1) := by decide +kernel
theorem dX12_readCityLine_92 : decode cX12_readCityLine 92 = .ok (.bipush 6, 2) := by decide +kernel
theorem dX12_readCityLine_94 : decode cX12_readCityLine 94 = .ok (.invokevirtual 202, 3) := by decide +kernel
theorem dX12_readCityLine_97 : decode cX12_readCityLine 97 = .ok (.ireturn, 1) := by decide +kernel
theorem dX12_readCityLine_98 : decode cX12_readCityLine 98 = .ok (.aload_n 0, 1) := by decide +kernel
theorem dX12_readCityLine_99 : decode cX12_readCityLine 99 = .ok (.ldc 209, 2) := by decide +kernel
theorem dX12_readCityLine_101 : decode cX12_readCityLine 101 = .ok (.invokevirtual 145, 3) := by decide +kernel
theorem dX12_readCityLine_104 : decode cX12_readCityLine 104 = .ok (.ifCond .eq 19, 3) := by decide +kernel
theorem dX12_readCityLine_107 : decode cX12_readCityLine 107 = .ok (.aload_n 0, 1) := by decide +kernel
theorem dX12_readCityLine_108 : decode cX12_readCityLine 108 = .ok (.iconst 5, 1) := by decide +kernel
theorem dX12_readCityLine_109 : decode cX12_readCityLine 109 = .ok (.iconst 0, 1) := by decide +kernel
theorem dX12_readCityLine_110 : decode cX12_readCityLine 110 = .ok (.sipush 999, 3) := by decide +kernel
theorem dX12_readCityLine_113 : decode cX12_readCityLine 113 = .ok (.invokevirtual 202, 3) := by decide +kernel
theorem dX12_readCityLine_116 : decode cX12_readCityLine 116 = .ok (.ifCond .eq 7, 3) := by decide +kernel
theorem dX12_readCityLine_119 : decode cX12_readCityLine 119 = .ok (.iconst 1, 1) := by decide +kernel
theorem dX12_readCityLine_120 : decode cX12_readCityLine 120 = .ok (.goto 4, 3) := by decide +kernel
theorem dX12_readCityLine_123 : decode cX12_readCityLine 123 = .ok (.iconst 0, 1) := by decide +kernel
theorem dX12_readCityLine_124 : decode cX12_readCityLine 124 = .ok (.ireturn, 1) := by decide +kernel
set_option maxRecDepth 100000 in
set_option maxHeartbeats 200000 in
theorem T_X12_readCityLine_0 {X : CX} (hX : Ok X cX12_readCityLine 1 RX12 (some .boolean)) (hdx : dX X = 11) {r : Bool × Hp} (h : Hp) (hf : f_X12_readCityLine h = some r) : J X ((.inl (some (.int (b2i r.1))), r.2)) 0 [(0, .ref 30)] [] h := by
  unfold f_X12_readCityLine at hf
  refine J_aload_n hX 0 dX12_readCityLine_0 rfl rfl ?_
  refine J_ldcS hX 1016 dX12_readCityLine_1 rfl rfl ?_
  obtain ⟨r_1, e_2, hf⟩ := bdE hf
  refine V_1 hX [.ref 1016] dX12_readCityLine_3 cw_X12_145 ob_30 rfl (C_X12_isWord (okG hX) (isStr_of (by decide)) e_2) (ltD hdx rfl) rfl rfl rfl rfl ?_
  rcases ifE hf with ⟨c_3, hf⟩ | ⟨c_3, hf⟩
  · refine J_if_eqF hX 14 dX12_readCityLine_6 rfl (b2iT c_3) ?_
    refine J_aload_n hX 0 dX12_readCityLine_9 rfl rfl ?_
    obtain ⟨r_4, e_5, hf⟩ := bdE hf
    refine V_1 hX [] dX12_readCityLine_10 cw_X12_186 ob_30 rfl (C_X12_readHouse (okG hX) e_5) (ltD hdx rfl) rfl rfl rfl rfl ?_
    exact E_Zi hX dX12_readCityLine_13 rfl hf
  · refine J_if_eqT hX 14 dX12_readCityLine_6 rfl (b2iF c_3) ?_
    refine J_aload_n hX 0 dX12_readCityLine_14 rfl rfl ?_
    refine J_ldcS hX 1021 dX12_readCityLine_15 rfl rfl ?_
    obtain ⟨r_6, e_7, hf⟩ := bdE hf
    refine V_1 hX [.ref 1021] dX12_readCityLine_17 cw_X12_145 ob_30 rfl (C_X12_isWord (okG hX) (isStr_of (by decide)) e_7) (ltD hdx rfl) rfl rfl rfl rfl ?_
    rcases ifE hf with ⟨c_8, hf⟩ | ⟨c_8, hf⟩
    · refine J_if_eqF hX 28 dX12_readCityLine_20 rfl (b2iT c_8) ?_
      refine J_aload_n hX 0 dX12_readCityLine_23 rfl rfl ?_
      obtain ⟨r_9, e_10, hf⟩ := bdE hf
      refine V_1 hX [] dX12_readCityLine_24 cw_X12_192 ob_30 rfl (C_X12_readLean (okG hX) e_10) (ltD hdx rfl) rfl rfl rfl rfl ?_
      exact E_Zi hX dX12_readCityLine_27 rfl hf
    · refine J_if_eqT hX 28 dX12_readCityLine_20 rfl (b2iF c_8) ?_
      refine J_aload_n hX 0 dX12_readCityLine_28 rfl rfl ?_
      refine J_ldcS hX 1023 dX12_readCityLine_29 rfl rfl ?_
      obtain ⟨r_11, e_12, hf⟩ := bdE hf
      refine V_1 hX [.ref 1023] dX12_readCityLine_31 cw_X12_145 ob_30 rfl (C_X12_isWord (okG hX) (isStr_of (by decide)) e_12) (ltD hdx rfl) rfl rfl rfl rfl ?_
      rcases ifE hf with ⟨c_13, hf⟩ | ⟨c_13, hf⟩
      · refine J_if_eqF hX 42 dX12_readCityLine_34 rfl (b2iT c_13) ?_
        refine J_aload_n hX 0 dX12_readCityLine_37 rfl rfl ?_
        obtain ⟨r_14, e_15, hf⟩ := bdE hf
        refine V_1 hX [] dX12_readCityLine_38 cw_X12_197 ob_30 rfl (C_X12_readPerson (okG hX) e_15) (ltD hdx rfl) rfl rfl rfl rfl ?_
        exact E_Zi hX dX12_readCityLine_41 rfl hf
      · refine J_if_eqT hX 42 dX12_readCityLine_34 rfl (b2iF c_13) ?_
        refine J_aload_n hX 0 dX12_readCityLine_42 rfl rfl ?_
        refine J_ldcS hX 1027 dX12_readCityLine_43 rfl rfl ?_
        obtain ⟨r_16, e_17, hf⟩ := bdE hf
        refine V_1 hX [.ref 1027] dX12_readCityLine_45 cw_X12_145 ob_30 rfl (C_X12_isWord (okG hX) (isStr_of (by decide)) e_17) (ltD hdx rfl) rfl rfl rfl rfl ?_
        rcases ifE hf with ⟨c_18, hf⟩ | ⟨c_18, hf⟩
        · refine J_if_eqF hX 61 dX12_readCityLine_48 rfl (b2iT c_18) ?_
          refine J_aload_n hX 0 dX12_readCityLine_51 rfl rfl ?_
          refine J_bipush hX 6 dX12_readCityLine_52 rfl ?_
          refine J_iconst hX 0 dX12_readCityLine_54 rfl ?_
          refine J_bipush hX 100 dX12_readCityLine_55 rfl ?_
          obtain ⟨r_19, e_20, hf⟩ := bdE hf
          refine V_1 hX [.int 6, .int 0, .int 100] dX12_readCityLine_57 cw_X12_202 ob_30 rfl (C_X12_readNumber (okG hX) e_20) (ltD hdx rfl) rfl rfl rfl rfl ?_
          exact E_Zi hX dX12_readCityLine_60 rfl hf
        · refine J_if_eqT hX 61 dX12_readCityLine_48 rfl (b2iF c_18) ?_
          refine J_aload_n hX 0 dX12_readCityLine_61 rfl rfl ?_
          refine J_ldcS hX 1028 dX12_readCityLine_62 rfl rfl ?_
          obtain ⟨r_21, e_22, hf⟩ := bdE hf
          refine V_1 hX [.ref 1028] dX12_readCityLine_64 cw_X12_145 ob_30 rfl (C_X12_isWord (okG hX) (isStr_of (by decide)) e_22) (ltD hdx rfl) rfl rfl rfl rfl ?_
          rcases ifE hf with ⟨c_23, hf⟩ | ⟨c_23, hf⟩
          · refine J_if_eqF hX 80 dX12_readCityLine_67 rfl (b2iT c_23) ?_
            refine J_aload_n hX 0 dX12_readCityLine_70 rfl rfl ?_
            refine J_bipush hX 7 dX12_readCityLine_71 rfl ?_
            refine J_iconst hX 1 dX12_readCityLine_73 rfl ?_
            refine J_bipush hX 99 dX12_readCityLine_74 rfl ?_
            obtain ⟨r_24, e_25, hf⟩ := bdE hf
            refine V_1 hX [.int 7, .int 1, .int 99] dX12_readCityLine_76 cw_X12_202 ob_30 rfl (C_X12_readNumber (okG hX) e_25) (ltD hdx rfl) rfl rfl rfl rfl ?_
            exact E_Zi hX dX12_readCityLine_79 rfl hf
          · refine J_if_eqT hX 80 dX12_readCityLine_67 rfl (b2iF c_23) ?_
            refine J_aload_n hX 0 dX12_readCityLine_80 rfl rfl ?_
            refine J_ldcS hX 1029 dX12_readCityLine_81 rfl rfl ?_
            obtain ⟨r_26, e_27, hf⟩ := bdE hf
            refine V_1 hX [.ref 1029] dX12_readCityLine_83 cw_X12_145 ob_30 rfl (C_X12_isWord (okG hX) (isStr_of (by decide)) e_27) (ltD hdx rfl) rfl rfl rfl rfl ?_
            rcases ifE hf with ⟨c_28, hf⟩ | ⟨c_28, hf⟩
            · refine J_if_eqF hX 98 dX12_readCityLine_86 rfl (b2iT c_28) ?_
              refine J_aload_n hX 0 dX12_readCityLine_89 rfl rfl ?_
              refine J_iconst hX 4 dX12_readCityLine_90 rfl ?_
              refine J_iconst hX 0 dX12_readCityLine_91 rfl ?_
              refine J_bipush hX 6 dX12_readCityLine_92 rfl ?_
              obtain ⟨r_29, e_30, hf⟩ := bdE hf
              refine V_1 hX [.int 4, .int 0, .int 6] dX12_readCityLine_94 cw_X12_202 ob_30 rfl (C_X12_readNumber (okG hX) e_30) (ltD hdx rfl) rfl rfl rfl rfl ?_
              exact E_Zi hX dX12_readCityLine_97 rfl hf
            · refine J_if_eqT hX 98 dX12_readCityLine_86 rfl (b2iF c_28) ?_
              refine J_aload_n hX 0 dX12_readCityLine_98 rfl rfl ?_
              refine J_ldcS hX 1030 dX12_readCityLine_99 rfl rfl ?_
              obtain ⟨r_31, e_32, hf⟩ := bdE hf
              refine V_1 hX [.ref 1030] dX12_readCityLine_101 cw_X12_145 ob_30 rfl (C_X12_isWord (okG hX) (isStr_of (by decide)) e_32) (ltD hdx rfl) rfl rfl rfl rfl ?_
              rcases ifE hf with ⟨c_33, hf⟩ | ⟨c_33, hf⟩
              · refine J_if_eqF hX 123 dX12_readCityLine_104 rfl (b2iT c_33) ?_
                refine J_aload_n hX 0 dX12_readCityLine_107 rfl rfl ?_
                refine J_iconst hX 5 dX12_readCityLine_108 rfl ?_
                refine J_iconst hX 0 dX12_readCityLine_109 rfl ?_
                refine J_sipush hX 999 dX12_readCityLine_110 rfl ?_
                obtain ⟨r_34, e_35, hf⟩ := bdE hf
                refine V_1 hX [.int 5, .int 0, .int 999] dX12_readCityLine_113 cw_X12_202 ob_30 rfl (C_X12_readNumber (okG hX) e_35) (ltD hdx rfl) rfl rfl rfl rfl ?_
                rcases ifE hf with ⟨c_36, hf⟩ | ⟨c_36, hf⟩
                · refine J_if_eqF hX 123 dX12_readCityLine_116 rfl (b2iT c_36) ?_
                  refine J_iconst hX 1 dX12_readCityLine_119 rfl ?_
                  refine J_goto hX 124 dX12_readCityLine_120 rfl ?_
                  exact E_Zi hX dX12_readCityLine_124 rfl hf
                · refine J_if_eqT hX 123 dX12_readCityLine_116 rfl (b2iF c_36) ?_
                  refine J_iconst hX 0 dX12_readCityLine_123 rfl ?_
                  exact E_Zi hX dX12_readCityLine_124 rfl hf
              · refine J_if_eqT hX 123 dX12_readCityLine_104 rfl (b2iF c_33) ?_
                refine J_iconst hX 0 dX12_readCityLine_123 rfl ?_
                exact E_Zi hX dX12_readCityLine_124 rfl hf
set_option maxRecDepth 100000 in
set_option maxHeartbeats 200000 in
theorem C_X12_readCityLine {G : GX} (hG : GOk G) {h : Hp} {r : Bool × Hp} (hf : f_X12_readCityLine h = some r) : Ctr G 11 yX12_readCityLine cX12_readCityLine 1 (some .boolean) [.ref 30] h ((.inl (some (.int (b2i r.1))), r.2)) :=
  Ctr_of hG RX12 rfl (by decide) rfl (fun X _ hdx hX => T_X12_readCityLine_0 hX hdx h hf)
theorem dX12_emits_0 : decode cX12_emits 0 = .ok (.aload_n 0, 1) := by decide +kernel
theorem dX12_emits_1 : decode cX12_emits 1 = .ok (.getfield 13, 3) := by decide +kernel
theorem dX12_emits_4 : decode cX12_emits 4 = .ok (.sipush 1390, 3) := by decide +kernel
theorem dX12_emits_7 : decode cX12_emits 7 = .ok (.iconst 2, 1) := by decide +kernel
theorem dX12_emits_8 : decode cX12_emits 8 = .ok (.aload_n 0, 1) := by decide +kernel
theorem dX12_emits_9 : decode cX12_emits 9 = .ok (.getfield 211, 3) := by decide +kernel
theorem dX12_emits_12 : decode cX12_emits 12 = .ok (.imul, 1) := by decide +kernel
theorem dX12_emits_13 : decode cX12_emits 13 = .ok (.iadd, 1) := by decide +kernel
theorem dX12_emits_14 : decode cX12_emits 14 = .ok (.iload_n 1, 1) := by decide +kernel
theorem dX12_emits_15 : decode cX12_emits 15 = .ok (.iastore, 1) := by decide +kernel
theorem dX12_emits_16 : decode cX12_emits 16 = .ok (.aload_n 0, 1) := by decide +kernel
theorem dX12_emits_17 : decode cX12_emits 17 = .ok (.getfield 13, 3) := by decide +kernel
theorem dX12_emits_20 : decode cX12_emits 20 = .ok (.sipush 1390, 3) := by decide +kernel
theorem dX12_emits_23 : decode cX12_emits 23 = .ok (.iconst 2, 1) := by decide +kernel
theorem dX12_emits_24 : decode cX12_emits 24 = .ok (.aload_n 0, 1) := by decide +kernel
theorem dX12_emits_25 : decode cX12_emits 25 = .ok (.getfield 211, 3) := by decide +kernel
theorem dX12_emits_28 : decode cX12_emits 28 = .ok (.imul, 1) := by decide +kernel
theorem dX12_emits_29 : decode cX12_emits 29 = .ok (.iadd, 1) := by decide +kernel
theorem dX12_emits_30 : decode cX12_emits 30 = .ok (.iconst 1, 1) := by decide +kernel
theorem dX12_emits_31 : decode cX12_emits 31 = .ok (.iadd, 1) := by decide +kernel
theorem dX12_emits_32 : decode cX12_emits 32 = .ok (.iload_n 2, 1) := by decide +kernel
theorem dX12_emits_33 : decode cX12_emits 33 = .ok (.iastore, 1) := by decide +kernel
theorem dX12_emits_34 : decode cX12_emits 34 = .ok (.aload_n 0, 1) := by decide +kernel
theorem dX12_emits_35 : decode cX12_emits 35 = .ok (.dup, 1) := by decide +kernel
theorem dX12_emits_36 : decode cX12_emits 36 = .ok (.getfield 211, 3) := by decide +kernel
theorem dX12_emits_39 : decode cX12_emits 39 = .ok (.iconst 1, 1) := by decide +kernel
theorem dX12_emits_40 : decode cX12_emits 40 = .ok (.iadd, 1) := by decide +kernel
theorem dX12_emits_41 : decode cX12_emits 41 = .ok (.putfield 211, 3) := by decide +kernel
theorem dX12_emits_44 : decode cX12_emits 44 = .ok (.return_, 1) := by decide +kernel
set_option maxRecDepth 100000 in
set_option maxHeartbeats 200000 in
theorem T_X12_emits_0 {X : CX} (hX : Ok X cX12_emits 3 RX12 none) (hdx : dX X = 2) {r : Hp} (x1 : Int32) (x2 : Int32) (h : Hp) (hf : f_X12_emits x1 x2 h = some r) : J X ((.inl none, r)) 0 [(0, .ref 30), (1, .int x1), (2, .int x2)] [] h := by
  unfold f_X12_emits at hf
  refine J_aload_n hX 0 dX12_emits_0 rfl rfl ?_
  refine J_getR hX 31 dX12_emits_1 fl_X12_13 ob_30 rfl rfl ?_
  refine J_sipush hX 1390 dX12_emits_4 rfl ?_
  refine J_iconst hX 2 dX12_emits_7 rfl ?_
  refine J_aload_n hX 0 dX12_emits_8 rfl rfl ?_
  refine J_getI hX dX12_emits_9 fl_X12_211 ob_30 rfl ?_
  refine J_imul hX dX12_emits_12 ?_
  refine J_iadd hX dX12_emits_13 ?_
  refine J_iload_n hX 1 dX12_emits_14 rfl rfl ?_
  obtain ⟨g_1, hf⟩ := gdE hf
  obtain ⟨h_2, e_3, hf⟩ := bndE hf
  refine J_ast hX ((1390 + (2 * (h 30 18))).toNatClampNeg) x1 dX12_emits_15 ar_31 (Or.inl ⟨rfl, rfl, rfl⟩) g_1 rfl ?_
  refine J_nmh e_3 ?_
  refine J_aload_n hX 0 dX12_emits_16 rfl rfl ?_
  refine J_getR hX 31 dX12_emits_17 fl_X12_13 ob_30 rfl rfl ?_
  refine J_sipush hX 1390 dX12_emits_20 rfl ?_
  refine J_iconst hX 2 dX12_emits_23 rfl ?_
  refine J_aload_n hX 0 dX12_emits_24 rfl rfl ?_
  refine J_getI hX dX12_emits_25 fl_X12_211 ob_30 rfl ?_
  refine J_imul hX dX12_emits_28 ?_
  refine J_iadd hX dX12_emits_29 ?_
  refine J_iconst hX 1 dX12_emits_30 rfl ?_
  refine J_iadd hX dX12_emits_31 ?_
  refine J_iload_n hX 2 dX12_emits_32 rfl rfl ?_
  obtain ⟨g_4, hf⟩ := gdE hf
  obtain ⟨h_5, e_6, hf⟩ := bndE hf
  refine J_ast hX (((1390 + (2 * (h_2 30 18))) + 1).toNatClampNeg) x2 dX12_emits_33 ar_31 (Or.inl ⟨rfl, rfl, rfl⟩) g_4 rfl ?_
  refine J_nmh e_6 ?_
  refine J_aload_n hX 0 dX12_emits_34 rfl rfl ?_
  refine J_dup hX dX12_emits_35 rfl ?_
  refine J_getI hX dX12_emits_36 fl_X12_211 ob_30 rfl ?_
  refine J_iconst hX 1 dX12_emits_39 rfl ?_
  refine J_iadd hX dX12_emits_40 ?_
  obtain ⟨h_7, e_8, hf⟩ := bndE hf
  refine J_putI hX dX12_emits_41 fl_X12_211 fw_10_18 ob_30 rfl rfl rfl ?_
  refine J_nmh e_8 ?_
  exact E_Vi hX dX12_emits_44 hf
set_option maxRecDepth 100000 in
set_option maxHeartbeats 200000 in
theorem C_X12_emits {G : GX} (hG : GOk G) {x1 : Int32} {x2 : Int32} {h : Hp} {r : Hp} (hf : f_X12_emits x1 x2 h = some r) : Ctr G 2 yX12_emits cX12_emits 3 none [.ref 30, .int x1, .int x2] h ((.inl none, r)) :=
  Ctr_of hG RX12 rfl (by decide) rfl (fun X _ hdx hX => T_X12_emits_0 hX hdx x1 x2 h hf)
theorem dX12_wordOfPart_0 : decode cX12_wordOfPart 0 = .ok (.aload_n 0, 1) := by decide +kernel
theorem dX12_wordOfPart_1 : decode cX12_wordOfPart 1 = .ok (.ldc 184, 2) := by decide +kernel
theorem dX12_wordOfPart_3 : decode cX12_wordOfPart 3 = .ok (.invokevirtual 145, 3) := by decide +kernel
theorem dX12_wordOfPart_6 : decode cX12_wordOfPart 6 = .ok (.ifCond .eq 5, 3) := by decide +kernel
theorem dX12_wordOfPart_9 : decode cX12_wordOfPart 9 = .ok (.iconst 0, 1) := by decide +kernel
theorem dX12_wordOfPart_10 : decode cX12_wordOfPart 10 = .ok (.ireturn, 1) := by decide +kernel
theorem dX12_wordOfPart_11 : decode cX12_wordOfPart 11 = .ok (.aload_n 0, 1) := by decide +kernel
theorem dX12_wordOfPart_12 : decode cX12_wordOfPart 12 = .ok (.ldc 152, 2) := by decide +kernel
theorem dX12_wordOfPart_14 : decode cX12_wordOfPart 14 = .ok (.invokevirtual 145, 3) := by decide +kernel
theorem dX12_wordOfPart_17 : decode cX12_wordOfPart 17 = .ok (.ifCond .eq 5, 3) := by decide +kernel
theorem dX12_wordOfPart_20 : decode cX12_wordOfPart 20 = .ok (.iconst 1, 1) := by decide +kernel
theorem dX12_wordOfPart_21 : decode cX12_wordOfPart 21 = .ok (.ireturn, 1) := by decide +kernel
theorem dX12_wordOfPart_22 : decode cX12_wordOfPart 22 = .ok (.aload_n 0, 1) := by decide +kernel
theorem dX12_wordOfPart_23 : decode cX12_wordOfPart 23 = .ok (.ldc 160, 2) := by decide +kernel
theorem dX12_wordOfPart_25 : decode cX12_wordOfPart 25 = .ok (.invokevirtual 145, 3) := by decide +kernel
theorem dX12_wordOfPart_28 : decode cX12_wordOfPart 28 = .ok (.ifCond .eq 5, 3) := by decide +kernel
theorem dX12_wordOfPart_31 : decode cX12_wordOfPart 31 = .ok (.iconst 2, 1) := by decide +kernel
theorem dX12_wordOfPart_32 : decode cX12_wordOfPart 32 = .ok (.ireturn, 1) := by decide +kernel
theorem dX12_wordOfPart_33 : decode cX12_wordOfPart 33 = .ok (.aload_n 0, 1) := by decide +kernel
theorem dX12_wordOfPart_34 : decode cX12_wordOfPart 34 = .ok (.ldc 165, 2) := by decide +kernel
theorem dX12_wordOfPart_36 : decode cX12_wordOfPart 36 = .ok (.invokevirtual 145, 3) := by decide +kernel
theorem dX12_wordOfPart_39 : decode cX12_wordOfPart 39 = .ok (.ifCond .eq 5, 3) := by decide +kernel
theorem dX12_wordOfPart_42 : decode cX12_wordOfPart 42 = .ok (.iconst 3, 1) := by decide +kernel
theorem dX12_wordOfPart_43 : decode cX12_wordOfPart 43 = .ok (.ireturn, 1) := by decide +kernel
theorem dX12_wordOfPart_44 : decode cX12_wordOfPart 44 = .ok (.aload_n 0, 1) := by decide +kernel
theorem dX12_wordOfPart_45 : decode cX12_wordOfPart 45 = .ok (.ldc 207, 2) := by decide +kernel
theorem dX12_wordOfPart_47 : decode cX12_wordOfPart 47 = .ok (.invokevirtual 145, 3) := by decide +kernel
theorem dX12_wordOfPart_50 : decode cX12_wordOfPart 50 = .ok (.ifCond .eq 5, 3) := by decide +kernel
theorem dX12_wordOfPart_53 : decode cX12_wordOfPart 53 = .ok (.iconst 4, 1) := by decide +kernel
theorem dX12_wordOfPart_54 : decode cX12_wordOfPart 54 = .ok (.ireturn, 1) := by decide +kernel
theorem dX12_wordOfPart_55 : decode cX12_wordOfPart 55 = .ok (.aload_n 0, 1) := by decide +kernel
theorem dX12_wordOfPart_56 : decode cX12_wordOfPart 56 = .ok (.ldc 214, 2) := by decide +kernel
theorem dX12_wordOfPart_58 : decode cX12_wordOfPart 58 = .ok (.invokevirtual 145, 3) := by decide +kernel
theorem dX12_wordOfPart_61 : decode cX12_wordOfPart 61 = .ok (.ifCond .eq 7, 3) := by decide +kernel
theorem dX12_wordOfPart_64 : decode cX12_wordOfPart 64 = .ok (.iconst 5, 1) := by decide +kernel
theorem dX12_wordOfPart_65 : decode cX12_wordOfPart 65 = .ok (.goto 4, 3) := by decide +kernel
theorem dX12_wordOfPart_68 : decode cX12_wordOfPart 68 = .ok (.iconst (-1), 1) := by decide +kernel
theorem dX12_wordOfPart_69 : decode cX12_wordOfPart 69 = .ok (.ireturn, 1) := by decide +kernel
set_option maxRecDepth 100000 in
set_option maxHeartbeats 200000 in
theorem T_X12_wordOfPart_0 {X : CX} (hX : Ok X cX12_wordOfPart 1 RX12 (some .int)) (hdx : dX X = 9) {r : Int32} (h : Hp) (hf : f_X12_wordOfPart h = some r) : J X ((.inl (some (.int r)), h)) 0 [(0, .ref 30)] [] h := by
  unfold f_X12_wordOfPart at hf
  refine J_aload_n hX 0 dX12_wordOfPart_0 rfl rfl ?_
  refine J_ldcS hX 1016 dX12_wordOfPart_1 rfl rfl ?_
  obtain ⟨r_1, e_2, hf⟩ := bdE hf
  refine V_1 hX [.ref 1016] dX12_wordOfPart_3 cw_X12_145 ob_30 rfl (C_X12_isWord (okG hX) (isStr_of (by decide)) e_2) (ltD hdx rfl) rfl rfl rfl rfl ?_
  rcases ifE hf with ⟨c_3, hf⟩ | ⟨c_3, hf⟩
  · refine J_if_eqF hX 11 dX12_wordOfPart_6 rfl (b2iT c_3) ?_
    refine J_iconst hX 0 dX12_wordOfPart_9 rfl ?_
    exact E_Ip hX dX12_wordOfPart_10 hf
  · refine J_if_eqT hX 11 dX12_wordOfPart_6 rfl (b2iF c_3) ?_
    refine J_aload_n hX 0 dX12_wordOfPart_11 rfl rfl ?_
    refine J_ldcS hX 1017 dX12_wordOfPart_12 rfl rfl ?_
    obtain ⟨r_4, e_5, hf⟩ := bdE hf
    refine V_1 hX [.ref 1017] dX12_wordOfPart_14 cw_X12_145 ob_30 rfl (C_X12_isWord (okG hX) (isStr_of (by decide)) e_5) (ltD hdx rfl) rfl rfl rfl rfl ?_
    rcases ifE hf with ⟨c_6, hf⟩ | ⟨c_6, hf⟩
    · refine J_if_eqF hX 22 dX12_wordOfPart_17 rfl (b2iT c_6) ?_
      refine J_iconst hX 1 dX12_wordOfPart_20 rfl ?_
      exact E_Ip hX dX12_wordOfPart_21 hf
    · refine J_if_eqT hX 22 dX12_wordOfPart_17 rfl (b2iF c_6) ?_
      refine J_aload_n hX 0 dX12_wordOfPart_22 rfl rfl ?_
      refine J_ldcS hX 1019 dX12_wordOfPart_23 rfl rfl ?_
      obtain ⟨r_7, e_8, hf⟩ := bdE hf
      refine V_1 hX [.ref 1019] dX12_wordOfPart_25 cw_X12_145 ob_30 rfl (C_X12_isWord (okG hX) (isStr_of (by decide)) e_8) (ltD hdx rfl) rfl rfl rfl rfl ?_
      rcases ifE hf with ⟨c_9, hf⟩ | ⟨c_9, hf⟩
      · refine J_if_eqF hX 33 dX12_wordOfPart_28 rfl (b2iT c_9) ?_
        refine J_iconst hX 2 dX12_wordOfPart_31 rfl ?_
        exact E_Ip hX dX12_wordOfPart_32 hf
      · refine J_if_eqT hX 33 dX12_wordOfPart_28 rfl (b2iF c_9) ?_
        refine J_aload_n hX 0 dX12_wordOfPart_33 rfl rfl ?_
        refine J_ldcS hX 1020 dX12_wordOfPart_34 rfl rfl ?_
        obtain ⟨r_10, e_11, hf⟩ := bdE hf
        refine V_1 hX [.ref 1020] dX12_wordOfPart_36 cw_X12_145 ob_30 rfl (C_X12_isWord (okG hX) (isStr_of (by decide)) e_11) (ltD hdx rfl) rfl rfl rfl rfl ?_
        rcases ifE hf with ⟨c_12, hf⟩ | ⟨c_12, hf⟩
        · refine J_if_eqF hX 44 dX12_wordOfPart_39 rfl (b2iT c_12) ?_
          refine J_iconst hX 3 dX12_wordOfPart_42 rfl ?_
          exact E_Ip hX dX12_wordOfPart_43 hf
        · refine J_if_eqT hX 44 dX12_wordOfPart_39 rfl (b2iF c_12) ?_
          refine J_aload_n hX 0 dX12_wordOfPart_44 rfl rfl ?_
          refine J_ldcS hX 1029 dX12_wordOfPart_45 rfl rfl ?_
          obtain ⟨r_13, e_14, hf⟩ := bdE hf
          refine V_1 hX [.ref 1029] dX12_wordOfPart_47 cw_X12_145 ob_30 rfl (C_X12_isWord (okG hX) (isStr_of (by decide)) e_14) (ltD hdx rfl) rfl rfl rfl rfl ?_
          rcases ifE hf with ⟨c_15, hf⟩ | ⟨c_15, hf⟩
          · refine J_if_eqF hX 55 dX12_wordOfPart_50 rfl (b2iT c_15) ?_
            refine J_iconst hX 4 dX12_wordOfPart_53 rfl ?_
            exact E_Ip hX dX12_wordOfPart_54 hf
          · refine J_if_eqT hX 55 dX12_wordOfPart_50 rfl (b2iF c_15) ?_
            refine J_aload_n hX 0 dX12_wordOfPart_55 rfl rfl ?_
            refine J_ldcS hX 1038 dX12_wordOfPart_56 rfl rfl ?_
            obtain ⟨r_16, e_17, hf⟩ := bdE hf
            refine V_1 hX [.ref 1038] dX12_wordOfPart_58 cw_X12_145 ob_30 rfl (C_X12_isWord (okG hX) (isStr_of (by decide)) e_17) (ltD hdx rfl) rfl rfl rfl rfl ?_
            rcases ifE hf with ⟨c_18, hf⟩ | ⟨c_18, hf⟩
            · refine J_if_eqF hX 68 dX12_wordOfPart_61 rfl (b2iT c_18) ?_
              refine J_iconst hX 5 dX12_wordOfPart_64 rfl ?_
              refine J_goto hX 69 dX12_wordOfPart_65 rfl ?_
              exact E_Ip hX dX12_wordOfPart_69 hf
            · refine J_if_eqT hX 68 dX12_wordOfPart_61 rfl (b2iF c_18) ?_
              refine J_iconst hX (-1) dX12_wordOfPart_68 rfl ?_
              exact E_Ip hX dX12_wordOfPart_69 hf
set_option maxRecDepth 100000 in
set_option maxHeartbeats 200000 in
theorem C_X12_wordOfPart {G : GX} (hG : GOk G) {h : Hp} {r : Int32} (hf : f_X12_wordOfPart h = some r) : Ctr G 9 yX12_wordOfPart cX12_wordOfPart 1 (some .int) [.ref 30] h ((.inl (some (.int r)), h)) :=
  Ctr_of hG RX12 rfl (by decide) rfl (fun X _ hdx hX => T_X12_wordOfPart_0 hX hdx h hf)
theorem dX12_readPart_0 : decode cX12_readPart 0 = .ok (.aload_n 0, 1) := by decide +kernel
theorem dX12_readPart_1 : decode cX12_readPart 1 = .ok (.invokevirtual 142, 3) := by decide +kernel
theorem dX12_readPart_4 : decode cX12_readPart 4 = .ok (.aload_n 0, 1) := by decide +kernel
theorem dX12_readPart_5 : decode cX12_readPart 5 = .ok (.getfield 117, 3) := by decide +kernel
theorem dX12_readPart_8 : decode cX12_readPart 8 = .ok (.aload_n 0, 1) := by decide +kernel
theorem dX12_readPart_9 : decode cX12_readPart 9 = .ok (.getfield 127, 3) := by decide +kernel
theorem dX12_readPart_12 : decode cX12_readPart 12 = .ok (.if_icmp .ne 7, 3) := by decide +kernel
theorem dX12_readPart_15 : decode cX12_readPart 15 = .ok (.iconst 1, 1) := by decide +kernel
theorem dX12_readPart_16 : decode cX12_readPart 16 = .ok (.goto 4, 3) := by decide +kernel
theorem dX12_readPart_19 : decode cX12_readPart 19 = .ok (.iconst 0, 1) := by decide +kernel
theorem dX12_readPart_20 : decode cX12_readPart 20 = .ok (.istore_n 1, 1) := by decide +kernel
theorem dX12_readPart_21 : decode cX12_readPart 21 = .ok (.iload_n 1, 1) := by decide +kernel
theorem dX12_readPart_22 : decode cX12_readPart 22 = .ok (.ifCond .eq 14, 3) := by decide +kernel
theorem dX12_readPart_25 : decode cX12_readPart 25 = .ok (.aload_n 0, 1) := by decide +kernel
theorem dX12_readPart_26 : decode cX12_readPart 26 = .ok (.iconst 0, 1) := by decide +kernel
theorem dX12_readPart_27 : decode cX12_readPart 27 = .ok (.sipush 999, 3) := by decide +kernel
theorem dX12_readPart_30 : decode cX12_readPart 30 = .ok (.invokevirtual 149, 3) := by decide +kernel
theorem dX12_readPart_33 : decode cX12_readPart 33 = .ok (.goto 7, 3) := by decide +kernel
theorem dX12_readPart_36 : decode cX12_readPart 36 = .ok (.aload_n 0, 1) := by decide +kernel
theorem dX12_readPart_37 : decode cX12_readPart 37 = .ok (.invokevirtual 215, 3) := by decide +kernel
theorem dX12_readPart_40 : decode cX12_readPart 40 = .ok (.istore_n 2, 1) := by decide +kernel
theorem dX12_readPart_41 : decode cX12_readPart 41 = .ok (.aload_n 0, 1) := by decide +kernel
theorem dX12_readPart_42 : decode cX12_readPart 42 = .ok (.iload_n 1, 1) := by decide +kernel
theorem dX12_readPart_43 : decode cX12_readPart 43 = .ok (.ifCond .eq 8, 3) := by decide +kernel
theorem dX12_readPart_46 : decode cX12_readPart 46 = .ok (.bipush 9, 2) := by decide +kernel
theorem dX12_readPart_48 : decode cX12_readPart 48 = .ok (.goto 4, 3) := by decide +kernel
theorem dX12_readPart_51 : decode cX12_readPart 51 = .ok (.iload_n 2, 1) := by decide +kernel
theorem dX12_readPart_52 : decode cX12_readPart 52 = .ok (.iload_n 1, 1) := by decide +kernel
theorem dX12_readPart_53 : decode cX12_readPart 53 = .ok (.ifCond .eq 7, 3) := by decide +kernel
theorem dX12_readPart_56 : decode cX12_readPart 56 = .ok (.iload_n 2, 1) := by decide +kernel
theorem dX12_readPart_57 : decode cX12_readPart 57 = .ok (.goto 4, 3) := by decide +kernel
theorem dX12_readPart_60 : decode cX12_readPart 60 = .ok (.iconst 0, 1) := by decide +kernel
theorem dX12_readPart_61 : decode cX12_readPart 61 = .ok (.invokevirtual 218, 3) := by decide +kernel
theorem dX12_readPart_64 : decode cX12_readPart 64 = .ok (.iload_n 2, 1) := by decide +kernel
theorem dX12_readPart_65 : decode cX12_readPart 65 = .ok (.ifCond .lt 7, 3) := by decide +kernel
theorem dX12_readPart_68 : decode cX12_readPart 68 = .ok (.iconst 1, 1) := by decide +kernel
theorem dX12_readPart_69 : decode cX12_readPart 69 = .ok (.goto 4, 3) := by decide +kernel
theorem dX12_readPart_72 : decode cX12_readPart 72 = .ok (.iconst 0, 1) := by decide +kernel
theorem dX12_readPart_73 : decode cX12_readPart 73 = .ok (.ireturn, 1) := by decide +kernel
set_option maxRecDepth 100000 in
set_option maxHeartbeats 200000 in
theorem T_X12_readPart_61 {X : CX} (hX : Ok X cX12_readPart 3 RX12 (some .boolean)) (hdx : dX X = 10) {r : Bool × Hp} (x2 : Int32) (t0 : Int32) (t1 : Int32) (h : Hp) (hf : F_X12_readPart_61 x2 t0 t1 h = some r) : J X ((.inl (some (.int (b2i r.1))), r.2)) 61 [(2, .int x2)] [.int t0, .int t1, .ref 30] h := by
  unfold F_X12_readPart_61 at hf
  obtain ⟨r_1, e_2, hf⟩ := bdE hf
  refine V_0 hX [.int t1, .int t0] dX12_readPart_61 cw_X12_218 ob_30 rfl (C_X12_emits (okG hX) e_2) (ltD hdx rfl) rfl rfl rfl rfl ?_
  refine J_iload_n hX 0 dX12_readPart_64 rfl rfl ?_
  rcases ifE hf with ⟨c_3, hf⟩ | ⟨c_3, hf⟩
  · refine J_if_ltT hX 72 dX12_readPart_65 rfl c_3 ?_
    refine J_iconst hX 0 dX12_readPart_72 rfl ?_
    exact E_Zi hX dX12_readPart_73 rfl hf
  · refine J_if_ltF hX 72 dX12_readPart_65 rfl c_3 ?_
    refine J_iconst hX 1 dX12_readPart_68 rfl ?_
    refine J_goto hX 73 dX12_readPart_69 rfl ?_
    exact E_Zi hX dX12_readPart_73 rfl hf
set_option maxRecDepth 100000 in
set_option maxHeartbeats 200000 in
theorem T_X12_readPart_52 {X : CX} (hX : Ok X cX12_readPart 3 RX12 (some .boolean)) (hdx : dX X = 10) {r : Bool × Hp} (x1 : Int32) (x2 : Int32) (t0 : Int32) (h : Hp) (hf : F_X12_readPart_52 x1 x2 t0 h = some r) : J X ((.inl (some (.int (b2i r.1))), r.2)) 52 [(1, .int x1), (2, .int x2)] [.int t0, .ref 30] h := by
  unfold F_X12_readPart_52 at hf
  refine J_iload_n hX 0 dX12_readPart_52 rfl rfl ?_
  rcases ifE hf with ⟨c_1, hf⟩ | ⟨c_1, hf⟩
  · refine J_if_eqT hX 60 dX12_readPart_53 rfl c_1 ?_
    refine J_iconst hX 0 dX12_readPart_60 rfl ?_
    refine J_sub [1] [(2, .int x2)] rfl ?_
    exact T_X12_readPart_61 hX hdx x2 0 t0 h hf
  · refine J_if_eqF hX 60 dX12_readPart_53 rfl c_1 ?_
    refine J_iload_n hX 1 dX12_readPart_56 rfl rfl ?_
    refine J_goto hX 61 dX12_readPart_57 rfl ?_
    refine J_sub [1] [(2, .int x2)] rfl ?_
    exact T_X12_readPart_61 hX hdx x2 x2 t0 h hf
set_option maxRecDepth 100000 in
set_option maxHeartbeats 200000 in
theorem T_X12_readPart_40 {X : CX} (hX : Ok X cX12_readPart 3 RX12 (some .boolean)) (hdx : dX X = 10) {r : Bool × Hp} (x1 : Int32) (t0 : Int32) (h : Hp) (hf : F_X12_readPart_40 x1 t0 h = some r) : J X ((.inl (some (.int (b2i r.1))), r.2)) 40 [(0, .ref 30), (1, .int x1)] [.int t0] h := by
  unfold F_X12_readPart_40 at hf
  refine J_istore_n hX [(2, .int t0), (0, .ref 30), (1, .int x1)] dX12_readPart_40 rfl rfl rfl ?_
  refine J_aload_n hX 1 dX12_readPart_41 rfl rfl ?_
  refine J_iload_n hX 2 dX12_readPart_42 rfl rfl ?_
  rcases ifE hf with ⟨c_1, hf⟩ | ⟨c_1, hf⟩
  · refine J_if_eqT hX 51 dX12_readPart_43 rfl c_1 ?_
    refine J_iload_n hX 0 dX12_readPart_51 rfl rfl ?_
    refine J_sub [2, 0] [(1, .int x1), (2, .int t0)] rfl ?_
    exact T_X12_readPart_52 hX hdx x1 t0 t0 h hf
  · refine J_if_eqF hX 51 dX12_readPart_43 rfl c_1 ?_
    refine J_bipush hX 9 dX12_readPart_46 rfl ?_
    refine J_goto hX 52 dX12_readPart_48 rfl ?_
    refine J_sub [2, 0] [(1, .int x1), (2, .int t0)] rfl ?_
    exact T_X12_readPart_52 hX hdx x1 t0 9 h hf
set_option maxRecDepth 100000 in
set_option maxHeartbeats 200000 in
theorem T_X12_readPart_20 {X : CX} (hX : Ok X cX12_readPart 3 RX12 (some .boolean)) (hdx : dX X = 10) {r : Bool × Hp} (t0 : Int32) (h : Hp) (hf : F_X12_readPart_20 t0 h = some r) : J X ((.inl (some (.int (b2i r.1))), r.2)) 20 [(0, .ref 30)] [.int t0] h := by
  unfold F_X12_readPart_20 at hf
  refine J_istore_n hX [(1, .int t0), (0, .ref 30)] dX12_readPart_20 rfl rfl rfl ?_
  refine J_iload_n hX 0 dX12_readPart_21 rfl rfl ?_
  rcases ifE hf with ⟨c_1, hf⟩ | ⟨c_1, hf⟩
  · refine J_if_eqT hX 36 dX12_readPart_22 rfl c_1 ?_
    refine J_aload_n hX 1 dX12_readPart_36 rfl rfl ?_
    obtain ⟨r_2, e_3, hf⟩ := bdE hf
    refine V_1 hX [] dX12_readPart_37 cw_X12_215 ob_30 rfl (C_X12_wordOfPart (okG hX) e_3) (ltD hdx rfl) rfl rfl rfl rfl ?_
    refine J_sub [1, 0] [(0, .ref 30), (1, .int t0)] rfl ?_
    exact T_X12_readPart_40 hX hdx t0 r_2 h hf
  · refine J_if_eqF hX 36 dX12_readPart_22 rfl c_1 ?_
    refine J_aload_n hX 1 dX12_readPart_25 rfl rfl ?_
    refine J_iconst hX 0 dX12_readPart_26 rfl ?_
    refine J_sipush hX 999 dX12_readPart_27 rfl ?_
    obtain ⟨r_4, e_5, hf⟩ := bdE hf
    refine V_1 hX [.int 0, .int 999] dX12_readPart_30 cw_X12_149 ob_30 rfl (C_X12_number (okG hX) e_5) (ltD hdx rfl) rfl rfl rfl rfl ?_
    refine J_goto hX 40 dX12_readPart_33 rfl ?_
    refine J_sub [1, 0] [(0, .ref 30), (1, .int t0)] rfl ?_
    exact T_X12_readPart_40 hX hdx t0 r_4.1 r_4.2 hf
set_option maxRecDepth 100000 in
set_option maxHeartbeats 200000 in
theorem T_X12_readPart_0 {X : CX} (hX : Ok X cX12_readPart 3 RX12 (some .boolean)) (hdx : dX X = 10) {r : Bool × Hp} (h : Hp) (hf : f_X12_readPart h = some r) : J X ((.inl (some (.int (b2i r.1))), r.2)) 0 [(0, .ref 30)] [] h := by
  unfold f_X12_readPart at hf
  refine J_aload_n hX 0 dX12_readPart_0 rfl rfl ?_
  obtain ⟨r_1, e_2, hf⟩ := bdE hf
  refine V_0 hX [] dX12_readPart_1 cw_X12_142 ob_30 rfl (C_X12_letters (okG hX) e_2) (ltD hdx rfl) rfl rfl rfl rfl ?_
  refine J_aload_n hX 0 dX12_readPart_4 rfl rfl ?_
  refine J_getI hX dX12_readPart_5 fl_X12_117 ob_30 rfl ?_
  refine J_aload_n hX 0 dX12_readPart_8 rfl rfl ?_
  refine J_getI hX dX12_readPart_9 fl_X12_127 ob_30 rfl ?_
  rcases ifE hf with ⟨c_3, hf⟩ | ⟨c_3, hf⟩
  · refine J_icmp_neF hX 19 dX12_readPart_12 rfl c_3 ?_
    refine J_iconst hX 1 dX12_readPart_15 rfl ?_
    refine J_goto hX 20 dX12_readPart_16 rfl ?_
    exact T_X12_readPart_20 hX hdx 1 r_1 hf
  · refine J_icmp_neT hX 19 dX12_readPart_12 rfl c_3 ?_
    refine J_iconst hX 0 dX12_readPart_19 rfl ?_
    exact T_X12_readPart_20 hX hdx 0 r_1 hf
set_option maxRecDepth 100000 in
set_option maxHeartbeats 200000 in
theorem C_X12_readPart {G : GX} (hG : GOk G) {h : Hp} {r : Bool × Hp} (hf : f_X12_readPart h = some r) : Ctr G 10 yX12_readPart cX12_readPart 3 (some .boolean) [.ref 30] h ((.inl (some (.int (b2i r.1))), r.2)) :=
  Ctr_of hG RX12 rfl (by decide) rfl (fun X _ hdx hX => T_X12_readPart_0 hX hdx h hf)
theorem dX12_readSum_0 : decode cX12_readSum 0 = .ok (.aload_n 0, 1) := by decide +kernel
theorem dX12_readSum_1 : decode cX12_readSum 1 = .ok (.invokevirtual 221, 3) := by decide +kernel
theorem dX12_readSum_4 : decode cX12_readSum 4 = .ok (.ifCond .ne 5, 3) := by decide +kernel
theorem dX12_readSum_7 : decode cX12_readSum 7 = .ok (.iconst 0, 1) := by decide +kernel
theorem dX12_readSum_8 : decode cX12_readSum 8 = .ok (.ireturn, 1) := by decide +kernel
theorem dX12_readSum_9 : decode cX12_readSum 9 = .ok (.aload_n 0, 1) := by decide +kernel
theorem dX12_readSum_10 : decode cX12_readSum 10 = .ok (.bipush 43, 2) := by decide +kernel
theorem dX12_readSum_12 : decode cX12_readSum 12 = .ok (.invokevirtual 224, 3) := by decide +kernel
theorem dX12_readSum_15 : decode cX12_readSum 15 = .ok (.ifCond .eq 22, 3) := by decide +kernel
theorem dX12_readSum_18 : decode cX12_readSum 18 = .ok (.aload_n 0, 1) := by decide +kernel
theorem dX12_readSum_19 : decode cX12_readSum 19 = .ok (.invokevirtual 221, 3) := by decide +kernel
theorem dX12_readSum_22 : decode cX12_readSum 22 = .ok (.ifCond .ne 5, 3) := by decide +kernel
theorem dX12_readSum_25 : decode cX12_readSum 25 = .ok (.iconst 0, 1) := by decide +kernel
theorem dX12_readSum_26 : decode cX12_readSum 26 = .ok (.ireturn, 1) := by decide +kernel
theorem dX12_readSum_27 : decode cX12_readSum 27 = .ok (.aload_n 0, 1) := by decide +kernel
theorem dX12_readSum_28 : decode cX12_readSum 28 = .ok (.bipush 10, 2) := by decide +kernel
theorem dX12_readSum_30 : decode cX12_readSum 30 = .ok (.iconst 0, 1) := by decide +kernel
theorem dX12_readSum_31 : decode cX12_readSum 31 = .ok (.invokevirtual 218, 3) := by decide +kernel
theorem dX12_readSum_34 : decode cX12_readSum 34 = .ok (.goto (-25), 3) := by decide +kernel
theorem dX12_readSum_37 : decode cX12_readSum 37 = .ok (.iconst 1, 1) := by decide +kernel
theorem dX12_readSum_38 : decode cX12_readSum 38 = .ok (.ireturn, 1) := by decide +kernel
set_option maxRecDepth 100000 in
set_option maxHeartbeats 200000 in
theorem T_X12_readSum_9_s {X : CX} (hX : Ok X cX12_readSum 1 RX12 (some .boolean)) (hdx : dX X = 11) {r : Bool × Hp} (q_9 : Hp → Option (Bool × Hp)) (hq_9 : ∀ (h : Hp), q_9 h = some r → J X ((.inl (some (.int (b2i r.1))), r.2)) 9 [(0, .ref 30)] [] h) (h : Hp) (hf : S_X12_readSum_9 q_9 h = some r) : J X ((.inl (some (.int (b2i r.1))), r.2)) 9 [(0, .ref 30)] [] h := by
  unfold S_X12_readSum_9 at hf
  refine J_aload_n hX 0 dX12_readSum_9 rfl rfl ?_
  refine J_bipush hX 43 dX12_readSum_10 rfl ?_
  obtain ⟨r_1, e_2, hf⟩ := bdE hf
  refine V_1 hX [.int 43] dX12_readSum_12 cw_X12_224 ob_30 rfl (C_X12_sign (okG hX) e_2) (ltD hdx rfl) rfl rfl rfl rfl ?_
  rcases ifE hf with ⟨c_3, hf⟩ | ⟨c_3, hf⟩
  · refine J_if_eqF hX 37 dX12_readSum_15 rfl (b2iT c_3) ?_
    refine J_aload_n hX 0 dX12_readSum_18 rfl rfl ?_
    obtain ⟨r_4, e_5, hf⟩ := bdE hf
    refine V_1 hX [] dX12_readSum_19 cw_X12_221 ob_30 rfl (C_X12_readPart (okG hX) e_5) (ltD hdx rfl) rfl rfl rfl rfl ?_
    rcases ifE hf with ⟨c_6, hf⟩ | ⟨c_6, hf⟩
    · refine J_if_neT hX 27 dX12_readSum_22 rfl (b2iT c_6) ?_
      refine J_aload_n hX 0 dX12_readSum_27 rfl rfl ?_
      refine J_bipush hX 10 dX12_readSum_28 rfl ?_
      refine J_iconst hX 0 dX12_readSum_30 rfl ?_
      obtain ⟨r_7, e_8, hf⟩ := bdE hf
      refine V_0 hX [.int 10, .int 0] dX12_readSum_31 cw_X12_218 ob_30 rfl (C_X12_emits (okG hX) e_8) (ltD hdx rfl) rfl rfl rfl rfl ?_
      refine J_goto hX 9 dX12_readSum_34 rfl ?_
      exact hq_9 r_7 hf
    · refine J_if_neF hX 27 dX12_readSum_22 rfl (b2iF c_6) ?_
      refine J_iconst hX 0 dX12_readSum_25 rfl ?_
      exact E_Zi hX dX12_readSum_26 rfl hf
  · refine J_if_eqT hX 37 dX12_readSum_15 rfl (b2iF c_3) ?_
    refine J_iconst hX 1 dX12_readSum_37 rfl ?_
    exact E_Zi hX dX12_readSum_38 rfl hf
set_option maxRecDepth 100000 in
set_option maxHeartbeats 200000 in
theorem T_X12_readSum_9 {X : CX} (hX : Ok X cX12_readSum 1 RX12 (some .boolean)) (hdx : dX X = 11) {r : Bool × Hp} : ∀ (n : Nat) (h : Hp), F_X12_readSum_9 n h = some r → J X ((.inl (some (.int (b2i r.1))), r.2)) 9 [(0, .ref 30)] [] h := by
  intro n
  induction n with
  | zero => intro h hf; exact nomatch hf
  | succ n ih => intro h hf; exact T_X12_readSum_9_s hX hdx _ (fun h hf => ih h hf) h hf
set_option maxRecDepth 100000 in
set_option maxHeartbeats 200000 in
theorem T_X12_readSum_0 {X : CX} (hX : Ok X cX12_readSum 1 RX12 (some .boolean)) (hdx : dX X = 11) {r : Bool × Hp} (h : Hp) (hf : f_X12_readSum h = some r) : J X ((.inl (some (.int (b2i r.1))), r.2)) 0 [(0, .ref 30)] [] h := by
  unfold f_X12_readSum at hf
  refine J_aload_n hX 0 dX12_readSum_0 rfl rfl ?_
  obtain ⟨r_1, e_2, hf⟩ := bdE hf
  refine V_1 hX [] dX12_readSum_1 cw_X12_221 ob_30 rfl (C_X12_readPart (okG hX) e_2) (ltD hdx rfl) rfl rfl rfl rfl ?_
  rcases ifE hf with ⟨c_3, hf⟩ | ⟨c_3, hf⟩
  · refine J_if_neT hX 9 dX12_readSum_4 rfl (b2iT c_3) ?_
    exact T_X12_readSum_9 hX hdx FU r_1.2 hf
  · refine J_if_neF hX 9 dX12_readSum_4 rfl (b2iF c_3) ?_
    refine J_iconst hX 0 dX12_readSum_7 rfl ?_
    exact E_Zi hX dX12_readSum_8 rfl hf
set_option maxRecDepth 100000 in
set_option maxHeartbeats 200000 in
theorem C_X12_readSum {G : GX} (hG : GOk G) {h : Hp} {r : Bool × Hp} (hf : f_X12_readSum h = some r) : Ctr G 11 yX12_readSum cX12_readSum 1 (some .boolean) [.ref 30] h ((.inl (some (.int (b2i r.1))), r.2)) :=
  Ctr_of hG RX12 rfl (by decide) rfl (fun X _ hdx hX => T_X12_readSum_0 hX hdx h hf)
theorem dX12_readTag_0 : decode cX12_readTag 0 = .ok (.aload_n 0, 1) := by decide +kernel
theorem dX12_readTag_1 : decode cX12_readTag 1 = .ok (.invokevirtual 142, 3) := by decide +kernel
theorem dX12_readTag_4 : decode cX12_readTag 4 = .ok (.aload_n 0, 1) := by decide +kernel
theorem dX12_readTag_5 : decode cX12_readTag 5 = .ok (.ldc 227, 2) := by decide +kernel
theorem dX12_readTag_7 : decode cX12_readTag 7 = .ok (.invokevirtual 145, 3) := by decide +kernel
theorem dX12_readTag_10 : decode cX12_readTag 10 = .ok (.ifCond .eq 8, 3) := by decide +kernel
theorem dX12_readTag_13 : decode cX12_readTag 13 = .ok (.bipush 6, 2) := by decide +kernel
theorem dX12_readTag_15 : decode cX12_readTag 15 = .ok (.goto 32, 3) := by decide +kernel
theorem dX12_readTag_18 : decode cX12_readTag 18 = .ok (.aload_n 0, 1) := by decide +kernel
theorem dX12_readTag_19 : decode cX12_readTag 19 = .ok (.ldc 229, 2) := by decide +kernel
theorem dX12_readTag_21 : decode cX12_readTag 21 = .ok (.invokevirtual 145, 3) := by decide +kernel
theorem dX12_readTag_24 : decode cX12_readTag 24 = .ok (.ifCond .eq 8, 3) := by decide +kernel
theorem dX12_readTag_27 : decode cX12_readTag 27 = .ok (.bipush 7, 2) := by decide +kernel
theorem dX12_readTag_29 : decode cX12_readTag 29 = .ok (.goto 18, 3) := by decide +kernel
theorem dX12_readTag_32 : decode cX12_readTag 32 = .ok (.aload_n 0, 1) := by decide +kernel
theorem dX12_readTag_33 : decode cX12_readTag 33 = .ok (.ldc 231, 2) := by decide +kernel
theorem dX12_readTag_35 : decode cX12_readTag 35 = .ok (.invokevirtual 145, 3) := by decide +kernel
theorem dX12_readTag_38 : decode cX12_readTag 38 = .ok (.ifCond .eq 8, 3) := by decide +kernel
theorem dX12_readTag_41 : decode cX12_readTag 41 = .ok (.bipush 8, 2) := by decide +kernel
theorem dX12_readTag_43 : decode cX12_readTag 43 = .ok (.goto 4, 3) := by decide +kernel
theorem dX12_readTag_46 : decode cX12_readTag 46 = .ok (.iconst (-1), 1) := by decide +kernel
theorem dX12_readTag_47 : decode cX12_readTag 47 = .ok (.istore_n 1, 1) := by decide +kernel
theorem dX12_readTag_48 : decode cX12_readTag 48 = .ok (.iload_n 1, 1) := by decide +kernel
theorem dX12_readTag_49 : decode cX12_readTag 49 = .ok (.ifCond .lt 12, 3) := by decide +kernel
theorem dX12_readTag_52 : decode cX12_readTag 52 = .ok (.aload_n 0, 1) := by decide +kernel
theorem dX12_readTag_53 : decode cX12_readTag 53 = .ok (.iload_n 1, 1) := by decide +kernel
theorem dX12_readTag_54 : decode cX12_readTag 54 = .ok (.iconst 0, 1) := by decide +kernel
theorem dX12_readTag_55 : decode cX12_readTag 55 = .ok (.invokevirtual 218, 3) := by decide +kernel
theorem dX12_readTag_58 : decode cX12_readTag 58 = .ok (.goto 11, 3) := by decide +kernel
theorem dX12_readTag_61 : decode cX12_readTag 61 = .ok (.aload_n 0, 1) := by decide +kernel
theorem dX12_readTag_62 : decode cX12_readTag 62 = .ok (.aload_n 0, 1) := by decide +kernel
theorem dX12_readTag_63 : decode cX12_readTag 63 = .ok (.getfield 127, 3) := by decide +kernel
theorem dX12_readTag_66 : decode cX12_readTag 66 = .ok (.putfield 117, 3) := by decide +kernel
theorem dX12_readTag_69 : decode cX12_readTag 69 = .ok (.iload_n 1, 1) := by decide +kernel
theorem dX12_readTag_70 : decode cX12_readTag 70 = .ok (.ifCond .lt 7, 3) := by decide +kernel
theorem dX12_readTag_73 : decode cX12_readTag 73 = .ok (.iconst 1, 1) := by decide +kernel
theorem dX12_readTag_74 : decode cX12_readTag 74 = .ok (.goto 4, 3) := by decide +kernel
theorem dX12_readTag_77 : decode cX12_readTag 77 = .ok (.iconst 0, 1) := by decide +kernel
theorem dX12_readTag_78 : decode cX12_readTag 78 = .ok (.ireturn, 1) := by decide +kernel
set_option maxRecDepth 100000 in
set_option maxHeartbeats 200000 in
theorem T_X12_readTag_69 {X : CX} (hX : Ok X cX12_readTag 2 RX12 (some .boolean)) (hdx : dX X = 9) {r : Bool × Hp} (x1 : Int32) (h : Hp) (hf : F_X12_readTag_69 x1 h = some r) : J X ((.inl (some (.int (b2i r.1))), r.2)) 69 [(1, .int x1)] [] h := by
  unfold F_X12_readTag_69 at hf
  refine J_iload_n hX 0 dX12_readTag_69 rfl rfl ?_
  rcases ifE hf with ⟨c_1, hf⟩ | ⟨c_1, hf⟩
  · refine J_if_ltT hX 77 dX12_readTag_70 rfl c_1 ?_
    refine J_iconst hX 0 dX12_readTag_77 rfl ?_
    exact E_Zi hX dX12_readTag_78 rfl hf
  · refine J_if_ltF hX 77 dX12_readTag_70 rfl c_1 ?_
    refine J_iconst hX 1 dX12_readTag_73 rfl ?_
    refine J_goto hX 78 dX12_readTag_74 rfl ?_
    exact E_Zi hX dX12_readTag_78 rfl hf
set_option maxRecDepth 100000 in
set_option maxHeartbeats 200000 in
theorem T_X12_readTag_47 {X : CX} (hX : Ok X cX12_readTag 2 RX12 (some .boolean)) (hdx : dX X = 9) {r : Bool × Hp} (t0 : Int32) (h : Hp) (hf : F_X12_readTag_47 t0 h = some r) : J X ((.inl (some (.int (b2i r.1))), r.2)) 47 [(0, .ref 30)] [.int t0] h := by
  unfold F_X12_readTag_47 at hf
  refine J_istore_n hX [(1, .int t0), (0, .ref 30)] dX12_readTag_47 rfl rfl rfl ?_
  refine J_iload_n hX 0 dX12_readTag_48 rfl rfl ?_
  rcases ifE hf with ⟨c_1, hf⟩ | ⟨c_1, hf⟩
  · refine J_if_ltT hX 61 dX12_readTag_49 rfl c_1 ?_
    refine J_aload_n hX 1 dX12_readTag_61 rfl rfl ?_
    refine J_aload_n hX 1 dX12_readTag_62 rfl rfl ?_
    refine J_getI hX dX12_readTag_63 fl_X12_127 ob_30 rfl ?_
    obtain ⟨h_2, e_3, hf⟩ := bndE hf
    refine J_putI hX dX12_readTag_66 fl_X12_117 fw_10_12 ob_30 rfl rfl rfl ?_
    refine J_nmh e_3 ?_
    refine J_sub [0] [(1, .int t0)] rfl ?_
    exact T_X12_readTag_69 hX hdx t0 h_2 hf
  · refine J_if_ltF hX 61 dX12_readTag_49 rfl c_1 ?_
    refine J_aload_n hX 1 dX12_readTag_52 rfl rfl ?_
    refine J_iload_n hX 0 dX12_readTag_53 rfl rfl ?_
    refine J_iconst hX 0 dX12_readTag_54 rfl ?_
    obtain ⟨r_4, e_5, hf⟩ := bdE hf
    refine V_0 hX [.int t0, .int 0] dX12_readTag_55 cw_X12_218 ob_30 rfl (C_X12_emits (okG hX) e_5) (ltD hdx rfl) rfl rfl rfl rfl ?_
    refine J_goto hX 69 dX12_readTag_58 rfl ?_
    refine J_sub [0] [(1, .int t0)] rfl ?_
    exact T_X12_readTag_69 hX hdx t0 r_4 hf
set_option maxRecDepth 100000 in
set_option maxHeartbeats 200000 in
theorem T_X12_readTag_0 {X : CX} (hX : Ok X cX12_readTag 2 RX12 (some .boolean)) (hdx : dX X = 9) {r : Bool × Hp} (h : Hp) (hf : f_X12_readTag h = some r) : J X ((.inl (some (.int (b2i r.1))), r.2)) 0 [(0, .ref 30)] [] h := by
  unfold f_X12_readTag at hf
  refine J_aload_n hX 0 dX12_readTag_0 rfl rfl ?_
  obtain ⟨r_1, e_2, hf⟩ := bdE hf
  refine V_0 hX [] dX12_readTag_1 cw_X12_142 ob_30 rfl (C_X12_letters (okG hX) e_2) (ltD hdx rfl) rfl rfl rfl rfl ?_
  refine J_aload_n hX 0 dX12_readTag_4 rfl rfl ?_
  refine J_ldcS hX 1035 dX12_readTag_5 rfl rfl ?_
  obtain ⟨r_3, e_4, hf⟩ := bdE hf
  refine V_1 hX [.ref 1035] dX12_readTag_7 cw_X12_145 ob_30 rfl (C_X12_isWord (okG hX) (isStr_of (by decide)) e_4) (ltD hdx rfl) rfl rfl rfl rfl ?_
  rcases ifE hf with ⟨c_5, hf⟩ | ⟨c_5, hf⟩
  · refine J_if_eqF hX 18 dX12_readTag_10 rfl (b2iT c_5) ?_
    refine J_bipush hX 6 dX12_readTag_13 rfl ?_
    refine J_goto hX 47 dX12_readTag_15 rfl ?_
    exact T_X12_readTag_47 hX hdx 6 r_1 hf
  · refine J_if_eqT hX 18 dX12_readTag_10 rfl (b2iF c_5) ?_
    refine J_aload_n hX 0 dX12_readTag_18 rfl rfl ?_
    refine J_ldcS hX 1036 dX12_readTag_19 rfl rfl ?_
    obtain ⟨r_6, e_7, hf⟩ := bdE hf
    refine V_1 hX [.ref 1036] dX12_readTag_21 cw_X12_145 ob_30 rfl (C_X12_isWord (okG hX) (isStr_of (by decide)) e_7) (ltD hdx rfl) rfl rfl rfl rfl ?_
    rcases ifE hf with ⟨c_8, hf⟩ | ⟨c_8, hf⟩
    · refine J_if_eqF hX 32 dX12_readTag_24 rfl (b2iT c_8) ?_
      refine J_bipush hX 7 dX12_readTag_27 rfl ?_
      refine J_goto hX 47 dX12_readTag_29 rfl ?_
      exact T_X12_readTag_47 hX hdx 7 r_1 hf
    · refine J_if_eqT hX 32 dX12_readTag_24 rfl (b2iF c_8) ?_
      refine J_aload_n hX 0 dX12_readTag_32 rfl rfl ?_
      refine J_ldcS hX 1037 dX12_readTag_33 rfl rfl ?_
      obtain ⟨r_9, e_10, hf⟩ := bdE hf
      refine V_1 hX [.ref 1037] dX12_readTag_35 cw_X12_145 ob_30 rfl (C_X12_isWord (okG hX) (isStr_of (by decide)) e_10) (ltD hdx rfl) rfl rfl rfl rfl ?_
      rcases ifE hf with ⟨c_11, hf⟩ | ⟨c_11, hf⟩
      · refine J_if_eqF hX 46 dX12_readTag_38 rfl (b2iT c_11) ?_
        refine J_bipush hX 8 dX12_readTag_41 rfl ?_
        refine J_goto hX 47 dX12_readTag_43 rfl ?_
        exact T_X12_readTag_47 hX hdx 8 r_1 hf
      · refine J_if_eqT hX 46 dX12_readTag_38 rfl (b2iF c_11) ?_
        refine J_iconst hX (-1) dX12_readTag_46 rfl ?_
        exact T_X12_readTag_47 hX hdx (-1) r_1 hf
set_option maxRecDepth 100000 in
set_option maxHeartbeats 200000 in
theorem C_X12_readTag {G : GX} (hG : GOk G) {h : Hp} {r : Bool × Hp} (hf : f_X12_readTag h = some r) : Ctr G 9 yX12_readTag cX12_readTag 2 (some .boolean) [.ref 30] h ((.inl (some (.int (b2i r.1))), r.2)) :=
  Ctr_of hG RX12 rfl (by decide) rfl (fun X _ hdx hX => T_X12_readTag_0 hX hdx h hf)
theorem dX12_readAllOf_0 : decode cX12_readAllOf 0 = .ok (.aload_n 0, 1) := by decide +kernel
theorem dX12_readAllOf_1 : decode cX12_readAllOf 1 = .ok (.invokevirtual 241, 3) := by decide +kernel
theorem dX12_readAllOf_4 : decode cX12_readAllOf 4 = .ok (.ifCond .ne 5, 3) := by decide +kernel
theorem dX12_readAllOf_7 : decode cX12_readAllOf 7 = .ok (.iconst 0, 1) := by decide +kernel
theorem dX12_readAllOf_8 : decode cX12_readAllOf 8 = .ok (.ireturn, 1) := by decide +kernel
theorem dX12_readAllOf_9 : decode cX12_readAllOf 9 = .ok (.aload_n 0, 1) := by decide +kernel
theorem dX12_readAllOf_10 : decode cX12_readAllOf 10 = .ok (.ldc 250, 2) := by decide +kernel
theorem dX12_readAllOf_12 : decode cX12_readAllOf 12 = .ok (.invokevirtual 162, 3) := by decide +kernel
theorem dX12_readAllOf_15 : decode cX12_readAllOf 15 = .ok (.ifCond .eq 22, 3) := by decide +kernel
theorem dX12_readAllOf_18 : decode cX12_readAllOf 18 = .ok (.aload_n 0, 1) := by decide +kernel
theorem dX12_readAllOf_19 : decode cX12_readAllOf 19 = .ok (.invokevirtual 241, 3) := by decide +kernel
theorem dX12_readAllOf_22 : decode cX12_readAllOf 22 = .ok (.ifCond .ne 5, 3) := by decide +kernel
theorem dX12_readAllOf_25 : decode cX12_readAllOf 25 = .ok (.iconst 0, 1) := by decide +kernel
theorem dX12_readAllOf_26 : decode cX12_readAllOf 26 = .ok (.ireturn, 1) := by decide +kernel
theorem dX12_readAllOf_27 : decode cX12_readAllOf 27 = .ok (.aload_n 0, 1) := by decide +kernel
theorem dX12_readAllOf_28 : decode cX12_readAllOf 28 = .ok (.bipush 14, 2) := by decide +kernel
theorem dX12_readAllOf_30 : decode cX12_readAllOf 30 = .ok (.iconst 0, 1) := by decide +kernel
theorem dX12_readAllOf_31 : decode cX12_readAllOf 31 = .ok (.invokevirtual 218, 3) := by decide +kernel
theorem dX12_readAllOf_34 : decode cX12_readAllOf 34 = .ok (.goto (-25), 3) := by decide +kernel
theorem dX12_readAllOf_37 : decode cX12_readAllOf 37 = .ok (.iconst 1, 1) := by decide +kernel
theorem dX12_readAllOf_38 : decode cX12_readAllOf 38 = .ok (.ireturn, 1) := by decide +kernel
set_option maxRecDepth 100000 in
set_option maxHeartbeats 200000 in
theorem T_X12_readAllOf_9_s {X : CX} {D : Nat} (hX : Ok X cX12_readAllOf 1 RX12 (some .boolean)) (hdx : dX X = D + 1) (hD : 12 ≤ D) (rec : Hp → Option (Bool × Hp)) (hrec : ∀ (h : Hp) (r : Bool × Hp), rec h = some r → Ctr X.1 D yX12_readAtom cX12_readAtom 2 (some .boolean) [.ref 30] h ((.inl (some (.int (b2i r.1))), r.2))) {r : Bool × Hp} (q_9 : Hp → Option (Bool × Hp)) (hq_9 : ∀ (h : Hp), q_9 h = some r → J X ((.inl (some (.int (b2i r.1))), r.2)) 9 [(0, .ref 30)] [] h) (h : Hp) (hf : S_X12_readAllOf_9 rec q_9 h = some r) : J X ((.inl (some (.int (b2i r.1))), r.2)) 9 [(0, .ref 30)] [] h := by
  unfold S_X12_readAllOf_9 at hf
  refine J_aload_n hX 0 dX12_readAllOf_9 rfl rfl ?_
  refine J_ldcS hX 1039 dX12_readAllOf_10 rfl rfl ?_
  obtain ⟨r_1, e_2, hf⟩ := bdE hf
  refine V_1 hX [.ref 1039] dX12_readAllOf_12 cw_X12_162 ob_30 rfl (C_X12_passes (okG hX) (isStr_of (by decide)) e_2) (by rw [hdx]; omega) rfl rfl rfl rfl ?_
  rcases ifE hf with ⟨c_3, hf⟩ | ⟨c_3, hf⟩
  · refine J_if_eqF hX 37 dX12_readAllOf_15 rfl (b2iT c_3) ?_
    refine J_aload_n hX 0 dX12_readAllOf_18 rfl rfl ?_
    obtain ⟨r_4, e_5, hf⟩ := bdE hf
    refine V_1 hX [] dX12_readAllOf_19 cw_X12_241 ob_30 rfl (hrec r_1.2 _ e_5) (by rw [hdx]; omega) rfl rfl rfl rfl ?_
    rcases ifE hf with ⟨c_6, hf⟩ | ⟨c_6, hf⟩
    · refine J_if_neT hX 27 dX12_readAllOf_22 rfl (b2iT c_6) ?_
      refine J_aload_n hX 0 dX12_readAllOf_27 rfl rfl ?_
      refine J_bipush hX 14 dX12_readAllOf_28 rfl ?_
      refine J_iconst hX 0 dX12_readAllOf_30 rfl ?_
      obtain ⟨r_7, e_8, hf⟩ := bdE hf
      refine V_0 hX [.int 14, .int 0] dX12_readAllOf_31 cw_X12_218 ob_30 rfl (C_X12_emits (okG hX) e_8) (by rw [hdx]; omega) rfl rfl rfl rfl ?_
      refine J_goto hX 9 dX12_readAllOf_34 rfl ?_
      exact hq_9 r_7 hf
    · refine J_if_neF hX 27 dX12_readAllOf_22 rfl (b2iF c_6) ?_
      refine J_iconst hX 0 dX12_readAllOf_25 rfl ?_
      exact E_Zi hX dX12_readAllOf_26 rfl hf
  · refine J_if_eqT hX 37 dX12_readAllOf_15 rfl (b2iF c_3) ?_
    refine J_iconst hX 1 dX12_readAllOf_37 rfl ?_
    exact E_Zi hX dX12_readAllOf_38 rfl hf
set_option maxRecDepth 100000 in
set_option maxHeartbeats 200000 in
theorem T_X12_readAllOf_9 {X : CX} {D : Nat} (hX : Ok X cX12_readAllOf 1 RX12 (some .boolean)) (hdx : dX X = D + 1) (hD : 12 ≤ D) (rec : Hp → Option (Bool × Hp)) (hrec : ∀ (h : Hp) (r : Bool × Hp), rec h = some r → Ctr X.1 D yX12_readAtom cX12_readAtom 2 (some .boolean) [.ref 30] h ((.inl (some (.int (b2i r.1))), r.2))) {r : Bool × Hp} : ∀ (n : Nat) (h : Hp), F_X12_readAllOf_9 rec n h = some r → J X ((.inl (some (.int (b2i r.1))), r.2)) 9 [(0, .ref 30)] [] h := by
  intro n
  induction n with
  | zero => intro h hf; exact nomatch hf
  | succ n ih => intro h hf; exact T_X12_readAllOf_9_s hX hdx hD rec hrec _ (fun h hf => ih h hf) h hf
set_option maxRecDepth 100000 in
set_option maxHeartbeats 200000 in
theorem T_X12_readAllOf_0 {X : CX} {D : Nat} (hX : Ok X cX12_readAllOf 1 RX12 (some .boolean)) (hdx : dX X = D + 1) (hD : 12 ≤ D) (rec : Hp → Option (Bool × Hp)) (hrec : ∀ (h : Hp) (r : Bool × Hp), rec h = some r → Ctr X.1 D yX12_readAtom cX12_readAtom 2 (some .boolean) [.ref 30] h ((.inl (some (.int (b2i r.1))), r.2))) {r : Bool × Hp} (h : Hp) (hf : f_X12_readAllOf rec h = some r) : J X ((.inl (some (.int (b2i r.1))), r.2)) 0 [(0, .ref 30)] [] h := by
  unfold f_X12_readAllOf at hf
  refine J_aload_n hX 0 dX12_readAllOf_0 rfl rfl ?_
  obtain ⟨r_1, e_2, hf⟩ := bdE hf
  refine V_1 hX [] dX12_readAllOf_1 cw_X12_241 ob_30 rfl (hrec h _ e_2) (by rw [hdx]; omega) rfl rfl rfl rfl ?_
  rcases ifE hf with ⟨c_3, hf⟩ | ⟨c_3, hf⟩
  · refine J_if_neT hX 9 dX12_readAllOf_4 rfl (b2iT c_3) ?_
    exact T_X12_readAllOf_9 hX hdx hD rec hrec FU r_1.2 hf
  · refine J_if_neF hX 9 dX12_readAllOf_4 rfl (b2iF c_3) ?_
    refine J_iconst hX 0 dX12_readAllOf_7 rfl ?_
    exact E_Zi hX dX12_readAllOf_8 rfl hf
set_option maxRecDepth 100000 in
set_option maxHeartbeats 200000 in
theorem C_X12_readAllOf {G : GX} (hG : GOk G) {D : Nat} (hD : 12 ≤ D) (rec : Hp → Option (Bool × Hp)) (hrec : ∀ (h : Hp) (r : Bool × Hp), rec h = some r → Ctr G D yX12_readAtom cX12_readAtom 2 (some .boolean) [.ref 30] h ((.inl (some (.int (b2i r.1))), r.2))) {h : Hp} {r : Bool × Hp} (hf : f_X12_readAllOf rec h = some r) : Ctr G (D + 1) yX12_readAllOf cX12_readAllOf 1 (some .boolean) [.ref 30] h ((.inl (some (.int (b2i r.1))), r.2)) :=
  Ctr_of hG RX12 rfl (by decide) rfl (fun X hX1 hdx hX => T_X12_readAllOf_0 hX hdx hD rec (by rw [hX1]; exact hrec) h hf)
theorem dX12_readCond_0 : decode cX12_readCond 0 = .ok (.aload_n 0, 1) := by decide +kernel
theorem dX12_readCond_1 : decode cX12_readCond 1 = .ok (.invokevirtual 252, 3) := by decide +kernel
theorem dX12_readCond_4 : decode cX12_readCond 4 = .ok (.ifCond .ne 5, 3) := by decide +kernel
theorem dX12_readCond_7 : decode cX12_readCond 7 = .ok (.iconst 0, 1) := by decide +kernel
theorem dX12_readCond_8 : decode cX12_readCond 8 = .ok (.ireturn, 1) := by decide +kernel
theorem dX12_readCond_9 : decode cX12_readCond 9 = .ok (.aload_n 0, 1) := by decide +kernel
theorem dX12_readCond_10 : decode cX12_readCond 10 = .ok (.ldc 255, 2) := by decide +kernel
theorem dX12_readCond_12 : decode cX12_readCond 12 = .ok (.invokevirtual 162, 3) := by decide +kernel
theorem dX12_readCond_15 : decode cX12_readCond 15 = .ok (.ifCond .eq 22, 3) := by decide +kernel
theorem dX12_readCond_18 : decode cX12_readCond 18 = .ok (.aload_n 0, 1) := by decide +kernel
theorem dX12_readCond_19 : decode cX12_readCond 19 = .ok (.invokevirtual 252, 3) := by decide +kernel
theorem dX12_readCond_22 : decode cX12_readCond 22 = .ok (.ifCond .ne 5, 3) := by decide +kernel
theorem dX12_readCond_25 : decode cX12_readCond 25 = .ok (.iconst 0, 1) := by decide +kernel
theorem dX12_readCond_26 : decode cX12_readCond 26 = .ok (.ireturn, 1) := by decide +kernel
theorem dX12_readCond_27 : decode cX12_readCond 27 = .ok (.aload_n 0, 1) := by decide +kernel
theorem dX12_readCond_28 : decode cX12_readCond 28 = .ok (.bipush 15, 2) := by decide +kernel
theorem dX12_readCond_30 : decode cX12_readCond 30 = .ok (.iconst 0, 1) := by decide +kernel
theorem dX12_readCond_31 : decode cX12_readCond 31 = .ok (.invokevirtual 218, 3) := by decide +kernel
theorem dX12_readCond_34 : decode cX12_readCond 34 = .ok (.goto (-25), 3) := by decide +kernel
theorem dX12_readCond_37 : decode cX12_readCond 37 = .ok (.iconst 1, 1) := by decide +kernel
theorem dX12_readCond_38 : decode cX12_readCond 38 = .ok (.ireturn, 1) := by decide +kernel
set_option maxRecDepth 100000 in
set_option maxHeartbeats 200000 in
theorem T_X12_readCond_9_s {X : CX} {D : Nat} (hX : Ok X cX12_readCond 1 RX12 (some .boolean)) (hdx : dX X = D + 2) (hD : 12 ≤ D) (rec : Hp → Option (Bool × Hp)) (hrec : ∀ (h : Hp) (r : Bool × Hp), rec h = some r → Ctr X.1 D yX12_readAtom cX12_readAtom 2 (some .boolean) [.ref 30] h ((.inl (some (.int (b2i r.1))), r.2))) {r : Bool × Hp} (q_9 : Hp → Option (Bool × Hp)) (hq_9 : ∀ (h : Hp), q_9 h = some r → J X ((.inl (some (.int (b2i r.1))), r.2)) 9 [(0, .ref 30)] [] h) (h : Hp) (hf : S_X12_readCond_9 rec q_9 h = some r) : J X ((.inl (some (.int (b2i r.1))), r.2)) 9 [(0, .ref 30)] [] h := by
  unfold S_X12_readCond_9 at hf
  refine J_aload_n hX 0 dX12_readCond_9 rfl rfl ?_
  refine J_ldcS hX 1040 dX12_readCond_10 rfl rfl ?_
  obtain ⟨r_1, e_2, hf⟩ := bdE hf
  refine V_1 hX [.ref 1040] dX12_readCond_12 cw_X12_162 ob_30 rfl (C_X12_passes (okG hX) (isStr_of (by decide)) e_2) (by rw [hdx]; omega) rfl rfl rfl rfl ?_
  rcases ifE hf with ⟨c_3, hf⟩ | ⟨c_3, hf⟩
  · refine J_if_eqF hX 37 dX12_readCond_15 rfl (b2iT c_3) ?_
    refine J_aload_n hX 0 dX12_readCond_18 rfl rfl ?_
    obtain ⟨r_4, e_5, hf⟩ := bdE hf
    refine V_1 hX [] dX12_readCond_19 cw_X12_252 ob_30 rfl (C_X12_readAllOf (okG hX) hD rec hrec e_5) (by rw [hdx]; omega) rfl rfl rfl rfl ?_
    rcases ifE hf with ⟨c_6, hf⟩ | ⟨c_6, hf⟩
    · refine J_if_neT hX 27 dX12_readCond_22 rfl (b2iT c_6) ?_
      refine J_aload_n hX 0 dX12_readCond_27 rfl rfl ?_
      refine J_bipush hX 15 dX12_readCond_28 rfl ?_
      refine J_iconst hX 0 dX12_readCond_30 rfl ?_
      obtain ⟨r_7, e_8, hf⟩ := bdE hf
      refine V_0 hX [.int 15, .int 0] dX12_readCond_31 cw_X12_218 ob_30 rfl (C_X12_emits (okG hX) e_8) (by rw [hdx]; omega) rfl rfl rfl rfl ?_
      refine J_goto hX 9 dX12_readCond_34 rfl ?_
      exact hq_9 r_7 hf
    · refine J_if_neF hX 27 dX12_readCond_22 rfl (b2iF c_6) ?_
      refine J_iconst hX 0 dX12_readCond_25 rfl ?_
      exact E_Zi hX dX12_readCond_26 rfl hf
  · refine J_if_eqT hX 37 dX12_readCond_15 rfl (b2iF c_3) ?_
    refine J_iconst hX 1 dX12_readCond_37 rfl ?_
    exact E_Zi hX dX12_readCond_38 rfl hf
set_option maxRecDepth 100000 in
set_option maxHeartbeats 200000 in
theorem T_X12_readCond_9 {X : CX} {D : Nat} (hX : Ok X cX12_readCond 1 RX12 (some .boolean)) (hdx : dX X = D + 2) (hD : 12 ≤ D) (rec : Hp → Option (Bool × Hp)) (hrec : ∀ (h : Hp) (r : Bool × Hp), rec h = some r → Ctr X.1 D yX12_readAtom cX12_readAtom 2 (some .boolean) [.ref 30] h ((.inl (some (.int (b2i r.1))), r.2))) {r : Bool × Hp} : ∀ (n : Nat) (h : Hp), F_X12_readCond_9 rec n h = some r → J X ((.inl (some (.int (b2i r.1))), r.2)) 9 [(0, .ref 30)] [] h := by
  intro n
  induction n with
  | zero => intro h hf; exact nomatch hf
  | succ n ih => intro h hf; exact T_X12_readCond_9_s hX hdx hD rec hrec _ (fun h hf => ih h hf) h hf
set_option maxRecDepth 100000 in
set_option maxHeartbeats 200000 in
theorem T_X12_readCond_0 {X : CX} {D : Nat} (hX : Ok X cX12_readCond 1 RX12 (some .boolean)) (hdx : dX X = D + 2) (hD : 12 ≤ D) (rec : Hp → Option (Bool × Hp)) (hrec : ∀ (h : Hp) (r : Bool × Hp), rec h = some r → Ctr X.1 D yX12_readAtom cX12_readAtom 2 (some .boolean) [.ref 30] h ((.inl (some (.int (b2i r.1))), r.2))) {r : Bool × Hp} (h : Hp) (hf : f_X12_readCond rec h = some r) : J X ((.inl (some (.int (b2i r.1))), r.2)) 0 [(0, .ref 30)] [] h := by
  unfold f_X12_readCond at hf
  refine J_aload_n hX 0 dX12_readCond_0 rfl rfl ?_
  obtain ⟨r_1, e_2, hf⟩ := bdE hf
  refine V_1 hX [] dX12_readCond_1 cw_X12_252 ob_30 rfl (C_X12_readAllOf (okG hX) hD rec hrec e_2) (by rw [hdx]; omega) rfl rfl rfl rfl ?_
  rcases ifE hf with ⟨c_3, hf⟩ | ⟨c_3, hf⟩
  · refine J_if_neT hX 9 dX12_readCond_4 rfl (b2iT c_3) ?_
    exact T_X12_readCond_9 hX hdx hD rec hrec FU r_1.2 hf
  · refine J_if_neF hX 9 dX12_readCond_4 rfl (b2iF c_3) ?_
    refine J_iconst hX 0 dX12_readCond_7 rfl ?_
    exact E_Zi hX dX12_readCond_8 rfl hf
set_option maxRecDepth 100000 in
set_option maxHeartbeats 200000 in
theorem C_X12_readCond {G : GX} (hG : GOk G) {D : Nat} (hD : 12 ≤ D) (rec : Hp → Option (Bool × Hp)) (hrec : ∀ (h : Hp) (r : Bool × Hp), rec h = some r → Ctr G D yX12_readAtom cX12_readAtom 2 (some .boolean) [.ref 30] h ((.inl (some (.int (b2i r.1))), r.2))) {h : Hp} {r : Bool × Hp} (hf : f_X12_readCond rec h = some r) : Ctr G (D + 2) yX12_readCond cX12_readCond 1 (some .boolean) [.ref 30] h ((.inl (some (.int (b2i r.1))), r.2)) :=
  Ctr_of hG RX12 rfl (by decide) rfl (fun X hX1 hdx hX => T_X12_readCond_0 hX hdx hD rec (by rw [hX1]; exact hrec) h hf)
theorem dX12_readAtom_0 : decode cX12_readAtom 0 = .ok (.aload_n 0, 1) := by decide +kernel
theorem dX12_readAtom_1 : decode cX12_readAtom 1 = .ok (.bipush 40, 2) := by decide +kernel
theorem dX12_readAtom_3 : decode cX12_readAtom 3 = .ok (.invokevirtual 224, 3) := by decide +kernel
theorem dX12_readAtom_6 : decode cX12_readAtom 6 = .ok (.ifCond .eq 50, 3) := by decide +kernel
theorem dX12_readAtom_9 : decode cX12_readAtom 9 = .ok (.aload_n 0, 1) := by decide +kernel
theorem dX12_readAtom_10 : decode cX12_readAtom 10 = .ok (.getfield 233, 3) := by decide +kernel
theorem dX12_readAtom_13 : decode cX12_readAtom 13 = .ok (.bipush 6, 2) := by decide +kernel
theorem dX12_readAtom_15 : decode cX12_readAtom 15 = .ok (.if_icmp .ne 5, 3) := by decide +kernel
theorem dX12_readAtom_18 : decode cX12_readAtom 18 = .ok (.iconst 0, 1) := by decide +kernel
theorem dX12_readAtom_19 : decode cX12_readAtom 19 = .ok (.ireturn, 1) := by decide +kernel
theorem dX12_readAtom_20 : decode cX12_readAtom 20 = .ok (.aload_n 0, 1) := by decide +kernel
theorem dX12_readAtom_21 : decode cX12_readAtom 21 = .ok (.dup, 1) := by decide +kernel
theorem dX12_readAtom_22 : decode cX12_readAtom 22 = .ok (.getfield 233, 3) := by decide +kernel
theorem dX12_readAtom_25 : decode cX12_readAtom 25 = .ok (.iconst 1, 1) := by decide +kernel
theorem dX12_readAtom_26 : decode cX12_readAtom 26 = .ok (.iadd, 1) := by decide +kernel
theorem dX12_readAtom_27 : decode cX12_readAtom 27 = .ok (.putfield 233, 3) := by decide +kernel
theorem dX12_readAtom_30 : decode cX12_readAtom 30 = .ok (.aload_n 0, 1) := by decide +kernel
theorem dX12_readAtom_31 : decode cX12_readAtom 31 = .ok (.invokevirtual 236, 3) := by decide +kernel
theorem dX12_readAtom_34 : decode cX12_readAtom 34 = .ok (.ifCond .ne 5, 3) := by decide +kernel
theorem dX12_readAtom_37 : decode cX12_readAtom 37 = .ok (.iconst 0, 1) := by decide +kernel
theorem dX12_readAtom_38 : decode cX12_readAtom 38 = .ok (.ireturn, 1) := by decide +kernel
theorem dX12_readAtom_39 : decode cX12_readAtom 39 = .ok (.aload_n 0, 1) := by decide +kernel
theorem dX12_readAtom_40 : decode cX12_readAtom 40 = .ok (.dup, 1) := by decide +kernel
theorem dX12_readAtom_41 : decode cX12_readAtom 41 = .ok (.getfield 233, 3) := by decide +kernel
theorem dX12_readAtom_44 : decode cX12_readAtom 44 = .ok (.iconst 1, 1) := by decide +kernel
theorem dX12_readAtom_45 : decode cX12_readAtom 45 = .ok (.isub, 1) := by decide +kernel
theorem dX12_readAtom_46 : decode cX12_readAtom 46 = .ok (.putfield 233, 3) := by decide +kernel
theorem dX12_readAtom_49 : decode cX12_readAtom 49 = .ok (.aload_n 0, 1) := by decide +kernel
theorem dX12_readAtom_50 : decode cX12_readAtom 50 = .ok (.bipush 41, 2) := by decide +kernel
theorem dX12_readAtom_52 : decode cX12_readAtom 52 = .ok (.invokevirtual 224, 3) := by decide +kernel
theorem dX12_readAtom_55 : decode cX12_readAtom 55 = .ok (.ireturn, 1) := by decide +kernel
theorem dX12_readAtom_56 : decode cX12_readAtom 56 = .ok (.aload_n 0, 1) := by decide +kernel
theorem dX12_readAtom_57 : decode cX12_readAtom 57 = .ok (.ldc 239, 2) := by decide +kernel
theorem dX12_readAtom_59 : decode cX12_readAtom 59 = .ok (.invokevirtual 162, 3) := by decide +kernel
theorem dX12_readAtom_62 : decode cX12_readAtom 62 = .ok (.ifCond .eq 52, 3) := by decide +kernel
theorem dX12_readAtom_65 : decode cX12_readAtom 65 = .ok (.aload_n 0, 1) := by decide +kernel
theorem dX12_readAtom_66 : decode cX12_readAtom 66 = .ok (.getfield 233, 3) := by decide +kernel
theorem dX12_readAtom_69 : decode cX12_readAtom 69 = .ok (.bipush 6, 2) := by decide +kernel
theorem dX12_readAtom_71 : decode cX12_readAtom 71 = .ok (.if_icmp .ne 5, 3) := by decide +kernel
theorem dX12_readAtom_74 : decode cX12_readAtom 74 = .ok (.iconst 0, 1) := by decide +kernel
theorem dX12_readAtom_75 : decode cX12_readAtom 75 = .ok (.ireturn, 1) := by decide +kernel
theorem dX12_readAtom_76 : decode cX12_readAtom 76 = .ok (.aload_n 0, 1) := by decide +kernel
theorem dX12_readAtom_77 : decode cX12_readAtom 77 = .ok (.dup, 1) := by decide +kernel
theorem dX12_readAtom_78 : decode cX12_readAtom 78 = .ok (.getfield 233, 3) := by decide +kernel
theorem dX12_readAtom_81 : decode cX12_readAtom 81 = .ok (.iconst 1, 1) := by decide +kernel
theorem dX12_readAtom_82 : decode cX12_readAtom 82 = .ok (.iadd, 1) := by decide +kernel
theorem dX12_readAtom_83 : decode cX12_readAtom 83 = .ok (.putfield 233, 3) := by decide +kernel
theorem dX12_readAtom_86 : decode cX12_readAtom 86 = .ok (.aload_n 0, 1) := by decide +kernel
theorem dX12_readAtom_87 : decode cX12_readAtom 87 = .ok (.invokevirtual 241, 3) := by decide +kernel
theorem dX12_readAtom_90 : decode cX12_readAtom 90 = .ok (.ifCond .ne 5, 3) := by decide +kernel
theorem dX12_readAtom_93 : decode cX12_readAtom 93 = .ok (.iconst 0, 1) := by decide +kernel
theorem dX12_readAtom_94 : decode cX12_readAtom 94 = .ok (.ireturn, 1) := by decide +kernel
theorem dX12_readAtom_95 : decode cX12_readAtom 95 = .ok (.aload_n 0, 1) := by decide +kernel
theorem dX12_readAtom_96 : decode cX12_readAtom 96 = .ok (.dup, 1) := by decide +kernel
theorem dX12_readAtom_97 : decode cX12_readAtom 97 = .ok (.getfield 233, 3) := by decide +kernel
theorem dX12_readAtom_100 : decode cX12_readAtom 100 = .ok (.iconst 1, 1) := by decide +kernel
theorem dX12_readAtom_101 : decode cX12_readAtom 101 = .ok (.isub, 1) := by decide +kernel
theorem dX12_readAtom_102 : decode cX12_readAtom 102 = .ok (.putfield 233, 3) := by decide +kernel
theorem dX12_readAtom_105 : decode cX12_readAtom 105 = .ok (.aload_n 0, 1) := by decide +kernel
theorem dX12_readAtom_106 : decode cX12_readAtom 106 = .ok (.bipush 13, 2) := by decide +kernel
theorem dX12_readAtom_108 : decode cX12_readAtom 108 = .ok (.iconst 0, 1) := by decide +kernel
theorem dX12_readAtom_109 : decode cX12_readAtom 109 = .ok (.invokevirtual 218, 3) := by decide +kernel
theorem dX12_readAtom_112 : decode cX12_readAtom 112 = .ok (.iconst 1, 1) := by decide +kernel
theorem dX12_readAtom_113 : decode cX12_readAtom 113 = .ok (.ireturn, 1) := by decide +kernel
theorem dX12_readAtom_114 : decode cX12_readAtom 114 = .ok (.aload_n 0, 1) := by decide +kernel
theorem dX12_readAtom_115 : decode cX12_readAtom 115 = .ok (.invokevirtual 244, 3) := by decide +kernel
theorem dX12_readAtom_118 : decode cX12_readAtom 118 = .ok (.ifCond .eq 5, 3) := by decide +kernel
theorem dX12_readAtom_121 : decode cX12_readAtom 121 = .ok (.iconst 1, 1) := by decide +kernel
theorem dX12_readAtom_122 : decode cX12_readAtom 122 = .ok (.ireturn, 1) := by decide +kernel
theorem dX12_readAtom_123 : decode cX12_readAtom 123 = .ok (.aload_n 0, 1) := by decide +kernel
theorem dX12_readAtom_124 : decode cX12_readAtom 124 = .ok (.invokevirtual 247, 3) := by decide +kernel
theorem dX12_readAtom_127 : decode cX12_readAtom 127 = .ok (.ifCond .ne 5, 3) := by decide +kernel
theorem dX12_readAtom_130 : decode cX12_readAtom 130 = .ok (.iconst 0, 1) := by decide +kernel
theorem dX12_readAtom_131 : decode cX12_readAtom 131 = .ok (.ireturn, 1) := by decide +kernel
theorem dX12_readAtom_132 : decode cX12_readAtom 132 = .ok (.aload_n 0, 1) := by decide +kernel
theorem dX12_readAtom_133 : decode cX12_readAtom 133 = .ok (.bipush 60, 2) := by decide +kernel
theorem dX12_readAtom_135 : decode cX12_readAtom 135 = .ok (.invokevirtual 224, 3) := by decide +kernel
theorem dX12_readAtom_138 : decode cX12_readAtom 138 = .ok (.istore_n 1, 1) := by decide +kernel
theorem dX12_readAtom_139 : decode cX12_readAtom 139 = .ok (.iload_n 1, 1) := by decide +kernel
theorem dX12_readAtom_140 : decode cX12_readAtom 140 = .ok (.ifCond .ne 12, 3) := by decide +kernel
theorem dX12_readAtom_143 : decode cX12_readAtom 143 = .ok (.aload_n 0, 1) := by decide +kernel
theorem dX12_readAtom_144 : decode cX12_readAtom 144 = .ok (.bipush 62, 2) := by decide +kernel
theorem dX12_readAtom_146 : decode cX12_readAtom 146 = .ok (.invokevirtual 224, 3) := by decide +kernel
theorem dX12_readAtom_149 : decode cX12_readAtom 149 = .ok (.ifCond .eq 10, 3) := by decide +kernel
theorem dX12_readAtom_152 : decode cX12_readAtom 152 = .ok (.aload_n 0, 1) := by decide +kernel
theorem dX12_readAtom_153 : decode cX12_readAtom 153 = .ok (.invokevirtual 247, 3) := by decide +kernel
theorem dX12_readAtom_156 : decode cX12_readAtom 156 = .ok (.ifCond .ne 5, 3) := by decide +kernel
theorem dX12_readAtom_159 : decode cX12_readAtom 159 = .ok (.iconst 0, 1) := by decide +kernel
theorem dX12_readAtom_160 : decode cX12_readAtom 160 = .ok (.ireturn, 1) := by decide +kernel
theorem dX12_readAtom_161 : decode cX12_readAtom 161 = .ok (.aload_n 0, 1) := by decide +kernel
theorem dX12_readAtom_162 : decode cX12_readAtom 162 = .ok (.iload_n 1, 1) := by decide +kernel
theorem dX12_readAtom_163 : decode cX12_readAtom 163 = .ok (.ifCond .eq 8, 3) := by decide +kernel
theorem dX12_readAtom_166 : decode cX12_readAtom 166 = .ok (.bipush 11, 2) := by decide +kernel
theorem dX12_readAtom_168 : decode cX12_readAtom 168 = .ok (.goto 5, 3) := by decide +kernel
theorem dX12_readAtom_171 : decode cX12_readAtom 171 = .ok (.bipush 12, 2) := by decide +kernel
theorem dX12_readAtom_173 : decode cX12_readAtom 173 = .ok (.iconst 0, 1) := by decide +kernel
theorem dX12_readAtom_174 : decode cX12_readAtom 174 = .ok (.invokevirtual 218, 3) := by decide +kernel
theorem dX12_readAtom_177 : decode cX12_readAtom 177 = .ok (.iconst 1, 1) := by decide +kernel
theorem dX12_readAtom_178 : decode cX12_readAtom 178 = .ok (.ireturn, 1) := by decide +kernel
set_option maxRecDepth 100000 in
set_option maxHeartbeats 200000 in
theorem T_X12_readAtom_173 {X : CX} {D : Nat} (hX : Ok X cX12_readAtom 2 RX12 (some .boolean)) (hdx : dX X = D + 3) (hD : 12 ≤ D) (rec : Hp → Option (Bool × Hp)) (hrec : ∀ (h : Hp) (r : Bool × Hp), rec h = some r → Ctr X.1 D yX12_readAtom cX12_readAtom 2 (some .boolean) [.ref 30] h ((.inl (some (.int (b2i r.1))), r.2))) {r : Bool × Hp} (t0 : Int32) (h : Hp) (hf : F_X12_readAtom_173 rec t0 h = some r) : J X ((.inl (some (.int (b2i r.1))), r.2)) 173 [] [.int t0, .ref 30] h := by
  unfold F_X12_readAtom_173 at hf
  refine J_iconst hX 0 dX12_readAtom_173 rfl ?_
  obtain ⟨r_1, e_2, hf⟩ := bdE hf
  refine V_0 hX [.int t0, .int 0] dX12_readAtom_174 cw_X12_218 ob_30 rfl (C_X12_emits (okG hX) e_2) (by rw [hdx]; omega) rfl rfl rfl rfl ?_
  refine J_iconst hX 1 dX12_readAtom_177 rfl ?_
  exact E_Zi hX dX12_readAtom_178 rfl hf
set_option maxRecDepth 100000 in
set_option maxHeartbeats 200000 in
theorem T_X12_readAtom_152 {X : CX} {D : Nat} (hX : Ok X cX12_readAtom 2 RX12 (some .boolean)) (hdx : dX X = D + 3) (hD : 12 ≤ D) (rec : Hp → Option (Bool × Hp)) (hrec : ∀ (h : Hp) (r : Bool × Hp), rec h = some r → Ctr X.1 D yX12_readAtom cX12_readAtom 2 (some .boolean) [.ref 30] h ((.inl (some (.int (b2i r.1))), r.2))) {r : Bool × Hp} (x1 : Int32) (h : Hp) (hf : F_X12_readAtom_152 rec x1 h = some r) : J X ((.inl (some (.int (b2i r.1))), r.2)) 152 [(0, .ref 30), (1, .int x1)] [] h := by
  unfold F_X12_readAtom_152 at hf
  refine J_aload_n hX 0 dX12_readAtom_152 rfl rfl ?_
  obtain ⟨r_1, e_2, hf⟩ := bdE hf
  refine V_1 hX [] dX12_readAtom_153 cw_X12_247 ob_30 rfl (C_X12_readSum (okG hX) e_2) (by rw [hdx]; omega) rfl rfl rfl rfl ?_
  rcases ifE hf with ⟨c_3, hf⟩ | ⟨c_3, hf⟩
  · refine J_if_neT hX 161 dX12_readAtom_156 rfl (b2iT c_3) ?_
    refine J_aload_n hX 0 dX12_readAtom_161 rfl rfl ?_
    refine J_iload_n hX 1 dX12_readAtom_162 rfl rfl ?_
    rcases ifE hf with ⟨c_4, hf⟩ | ⟨c_4, hf⟩
    · refine J_if_eqT hX 171 dX12_readAtom_163 rfl c_4 ?_
      refine J_bipush hX 12 dX12_readAtom_171 rfl ?_
      refine J_sub [] [] rfl ?_
      exact T_X12_readAtom_173 hX hdx hD rec hrec 12 r_1.2 hf
    · refine J_if_eqF hX 171 dX12_readAtom_163 rfl c_4 ?_
      refine J_bipush hX 11 dX12_readAtom_166 rfl ?_
      refine J_goto hX 173 dX12_readAtom_168 rfl ?_
      refine J_sub [] [] rfl ?_
      exact T_X12_readAtom_173 hX hdx hD rec hrec 11 r_1.2 hf
  · refine J_if_neF hX 161 dX12_readAtom_156 rfl (b2iF c_3) ?_
    refine J_iconst hX 0 dX12_readAtom_159 rfl ?_
    exact E_Zi hX dX12_readAtom_160 rfl hf
set_option maxRecDepth 100000 in
set_option maxHeartbeats 200000 in
theorem T_X12_readAtom_0 {X : CX} {D : Nat} (hX : Ok X cX12_readAtom 2 RX12 (some .boolean)) (hdx : dX X = D + 3) (hD : 12 ≤ D) (rec : Hp → Option (Bool × Hp)) (hrec : ∀ (h : Hp) (r : Bool × Hp), rec h = some r → Ctr X.1 D yX12_readAtom cX12_readAtom 2 (some .boolean) [.ref 30] h ((.inl (some (.int (b2i r.1))), r.2))) {r : Bool × Hp} (h : Hp) (hf : b_X12_readAtom rec h = some r) : J X ((.inl (some (.int (b2i r.1))), r.2)) 0 [(0, .ref 30)] [] h := by
  unfold b_X12_readAtom at hf
  refine J_aload_n hX 0 dX12_readAtom_0 rfl rfl ?_
  refine J_bipush hX 40 dX12_readAtom_1 rfl ?_
  obtain ⟨r_1, e_2, hf⟩ := bdE hf
  refine V_1 hX [.int 40] dX12_readAtom_3 cw_X12_224 ob_30 rfl (C_X12_sign (okG hX) e_2) (by rw [hdx]; omega) rfl rfl rfl rfl ?_
  rcases ifE hf with ⟨c_3, hf⟩ | ⟨c_3, hf⟩
  · refine J_if_eqF hX 56 dX12_readAtom_6 rfl (b2iT c_3) ?_
    refine J_aload_n hX 0 dX12_readAtom_9 rfl rfl ?_
    refine J_getI hX dX12_readAtom_10 fl_X12_233 ob_30 rfl ?_
    refine J_bipush hX 6 dX12_readAtom_13 rfl ?_
    rcases ifE hf with ⟨c_4, hf⟩ | ⟨c_4, hf⟩
    · refine J_icmp_neF hX 20 dX12_readAtom_15 rfl c_4 ?_
      refine J_iconst hX 0 dX12_readAtom_18 rfl ?_
      exact E_Zi hX dX12_readAtom_19 rfl hf
    · refine J_icmp_neT hX 20 dX12_readAtom_15 rfl c_4 ?_
      refine J_aload_n hX 0 dX12_readAtom_20 rfl rfl ?_
      refine J_dup hX dX12_readAtom_21 rfl ?_
      refine J_getI hX dX12_readAtom_22 fl_X12_233 ob_30 rfl ?_
      refine J_iconst hX 1 dX12_readAtom_25 rfl ?_
      refine J_iadd hX dX12_readAtom_26 ?_
      obtain ⟨h_5, e_6, hf⟩ := bndE hf
      refine J_putI hX dX12_readAtom_27 fl_X12_233 fw_10_15 ob_30 rfl rfl rfl ?_
      refine J_nmh e_6 ?_
      refine J_aload_n hX 0 dX12_readAtom_30 rfl rfl ?_
      obtain ⟨r_7, e_8, hf⟩ := bdE hf
      refine V_1 hX [] dX12_readAtom_31 cw_X12_236 ob_30 rfl (C_X12_readCond (okG hX) hD rec hrec e_8) (by rw [hdx]; omega) rfl rfl rfl rfl ?_
      rcases ifE hf with ⟨c_9, hf⟩ | ⟨c_9, hf⟩
      · refine J_if_neT hX 39 dX12_readAtom_34 rfl (b2iT c_9) ?_
        refine J_aload_n hX 0 dX12_readAtom_39 rfl rfl ?_
        refine J_dup hX dX12_readAtom_40 rfl ?_
        refine J_getI hX dX12_readAtom_41 fl_X12_233 ob_30 rfl ?_
        refine J_iconst hX 1 dX12_readAtom_44 rfl ?_
        refine J_isub hX dX12_readAtom_45 ?_
        obtain ⟨h_10, e_11, hf⟩ := bndE hf
        refine J_putI hX dX12_readAtom_46 fl_X12_233 fw_10_15 ob_30 rfl rfl rfl ?_
        refine J_nmh e_11 ?_
        refine J_aload_n hX 0 dX12_readAtom_49 rfl rfl ?_
        refine J_bipush hX 41 dX12_readAtom_50 rfl ?_
        obtain ⟨r_12, e_13, hf⟩ := bdE hf
        refine V_1 hX [.int 41] dX12_readAtom_52 cw_X12_224 ob_30 rfl (C_X12_sign (okG hX) e_13) (by rw [hdx]; omega) rfl rfl rfl rfl ?_
        exact E_Zi hX dX12_readAtom_55 rfl hf
      · refine J_if_neF hX 39 dX12_readAtom_34 rfl (b2iF c_9) ?_
        refine J_iconst hX 0 dX12_readAtom_37 rfl ?_
        exact E_Zi hX dX12_readAtom_38 rfl hf
  · refine J_if_eqT hX 56 dX12_readAtom_6 rfl (b2iF c_3) ?_
    refine J_aload_n hX 0 dX12_readAtom_56 rfl rfl ?_
    refine J_ldcS hX 1034 dX12_readAtom_57 rfl rfl ?_
    obtain ⟨r_14, e_15, hf⟩ := bdE hf
    refine V_1 hX [.ref 1034] dX12_readAtom_59 cw_X12_162 ob_30 rfl (C_X12_passes (okG hX) (isStr_of (by decide)) e_15) (by rw [hdx]; omega) rfl rfl rfl rfl ?_
    rcases ifE hf with ⟨c_16, hf⟩ | ⟨c_16, hf⟩
    · refine J_if_eqF hX 114 dX12_readAtom_62 rfl (b2iT c_16) ?_
      refine J_aload_n hX 0 dX12_readAtom_65 rfl rfl ?_
      refine J_getI hX dX12_readAtom_66 fl_X12_233 ob_30 rfl ?_
      refine J_bipush hX 6 dX12_readAtom_69 rfl ?_
      rcases ifE hf with ⟨c_17, hf⟩ | ⟨c_17, hf⟩
      · refine J_icmp_neF hX 76 dX12_readAtom_71 rfl c_17 ?_
        refine J_iconst hX 0 dX12_readAtom_74 rfl ?_
        exact E_Zi hX dX12_readAtom_75 rfl hf
      · refine J_icmp_neT hX 76 dX12_readAtom_71 rfl c_17 ?_
        refine J_aload_n hX 0 dX12_readAtom_76 rfl rfl ?_
        refine J_dup hX dX12_readAtom_77 rfl ?_
        refine J_getI hX dX12_readAtom_78 fl_X12_233 ob_30 rfl ?_
        refine J_iconst hX 1 dX12_readAtom_81 rfl ?_
        refine J_iadd hX dX12_readAtom_82 ?_
        obtain ⟨h_18, e_19, hf⟩ := bndE hf
        refine J_putI hX dX12_readAtom_83 fl_X12_233 fw_10_15 ob_30 rfl rfl rfl ?_
        refine J_nmh e_19 ?_
        refine J_aload_n hX 0 dX12_readAtom_86 rfl rfl ?_
        obtain ⟨r_20, e_21, hf⟩ := bdE hf
        refine V_1 hX [] dX12_readAtom_87 cw_X12_241 ob_30 rfl (hrec h_18 _ e_21) (by rw [hdx]; omega) rfl rfl rfl rfl ?_
        rcases ifE hf with ⟨c_22, hf⟩ | ⟨c_22, hf⟩
        · refine J_if_neT hX 95 dX12_readAtom_90 rfl (b2iT c_22) ?_
          refine J_aload_n hX 0 dX12_readAtom_95 rfl rfl ?_
          refine J_dup hX dX12_readAtom_96 rfl ?_
          refine J_getI hX dX12_readAtom_97 fl_X12_233 ob_30 rfl ?_
          refine J_iconst hX 1 dX12_readAtom_100 rfl ?_
          refine J_isub hX dX12_readAtom_101 ?_
          obtain ⟨h_23, e_24, hf⟩ := bndE hf
          refine J_putI hX dX12_readAtom_102 fl_X12_233 fw_10_15 ob_30 rfl rfl rfl ?_
          refine J_nmh e_24 ?_
          refine J_aload_n hX 0 dX12_readAtom_105 rfl rfl ?_
          refine J_bipush hX 13 dX12_readAtom_106 rfl ?_
          refine J_iconst hX 0 dX12_readAtom_108 rfl ?_
          obtain ⟨r_25, e_26, hf⟩ := bdE hf
          refine V_0 hX [.int 13, .int 0] dX12_readAtom_109 cw_X12_218 ob_30 rfl (C_X12_emits (okG hX) e_26) (by rw [hdx]; omega) rfl rfl rfl rfl ?_
          refine J_iconst hX 1 dX12_readAtom_112 rfl ?_
          exact E_Zi hX dX12_readAtom_113 rfl hf
        · refine J_if_neF hX 95 dX12_readAtom_90 rfl (b2iF c_22) ?_
          refine J_iconst hX 0 dX12_readAtom_93 rfl ?_
          exact E_Zi hX dX12_readAtom_94 rfl hf
    · refine J_if_eqT hX 114 dX12_readAtom_62 rfl (b2iF c_16) ?_
      refine J_aload_n hX 0 dX12_readAtom_114 rfl rfl ?_
      obtain ⟨r_27, e_28, hf⟩ := bdE hf
      refine V_1 hX [] dX12_readAtom_115 cw_X12_244 ob_30 rfl (C_X12_readTag (okG hX) e_28) (by rw [hdx]; omega) rfl rfl rfl rfl ?_
      rcases ifE hf with ⟨c_29, hf⟩ | ⟨c_29, hf⟩
      · refine J_if_eqF hX 123 dX12_readAtom_118 rfl (b2iT c_29) ?_
        refine J_iconst hX 1 dX12_readAtom_121 rfl ?_
        exact E_Zi hX dX12_readAtom_122 rfl hf
      · refine J_if_eqT hX 123 dX12_readAtom_118 rfl (b2iF c_29) ?_
        refine J_aload_n hX 0 dX12_readAtom_123 rfl rfl ?_
        obtain ⟨r_30, e_31, hf⟩ := bdE hf
        refine V_1 hX [] dX12_readAtom_124 cw_X12_247 ob_30 rfl (C_X12_readSum (okG hX) e_31) (by rw [hdx]; omega) rfl rfl rfl rfl ?_
        rcases ifE hf with ⟨c_32, hf⟩ | ⟨c_32, hf⟩
        · refine J_if_neT hX 132 dX12_readAtom_127 rfl (b2iT c_32) ?_
          refine J_aload_n hX 0 dX12_readAtom_132 rfl rfl ?_
          refine J_bipush hX 60 dX12_readAtom_133 rfl ?_
          obtain ⟨r_33, e_34, hf⟩ := bdE hf
          refine V_1 hX [.int 60] dX12_readAtom_135 cw_X12_224 ob_30 rfl (C_X12_sign (okG hX) e_34) (by rw [hdx]; omega) rfl rfl rfl rfl ?_
          obtain ⟨x1_35, e_36, hf⟩ := bndE hf
          refine J_nm e_36 ?_
          refine J_istore_n hX [(1, .int x1_35), (0, .ref 30)] dX12_readAtom_138 rfl rfl rfl ?_
          refine J_iload_n hX 0 dX12_readAtom_139 rfl rfl ?_
          rcases ifE hf with ⟨c_37, hf⟩ | ⟨c_37, hf⟩
          · refine J_if_neF hX 152 dX12_readAtom_140 rfl c_37 ?_
            refine J_aload_n hX 1 dX12_readAtom_143 rfl rfl ?_
            refine J_bipush hX 62 dX12_readAtom_144 rfl ?_
            obtain ⟨r_38, e_39, hf⟩ := bdE hf
            refine V_1 hX [.int 62] dX12_readAtom_146 cw_X12_224 ob_30 rfl (C_X12_sign (okG hX) e_39) (by rw [hdx]; omega) rfl rfl rfl rfl ?_
            rcases ifE hf with ⟨c_40, hf⟩ | ⟨c_40, hf⟩
            · refine J_if_eqF hX 159 dX12_readAtom_149 rfl (b2iT c_40) ?_
              refine J_sub [1, 0] [(0, .ref 30), (1, .int x1_35)] rfl ?_
              exact T_X12_readAtom_152 hX hdx hD rec hrec x1_35 r_38.2 hf
            · refine J_if_eqT hX 159 dX12_readAtom_149 rfl (b2iF c_40) ?_
              refine J_iconst hX 0 dX12_readAtom_159 rfl ?_
              exact E_Zi hX dX12_readAtom_160 rfl hf
          · refine J_if_neT hX 152 dX12_readAtom_140 rfl c_37 ?_
            refine J_sub [1, 0] [(0, .ref 30), (1, .int x1_35)] rfl ?_
            exact T_X12_readAtom_152 hX hdx hD rec hrec x1_35 r_33.2 hf
        · refine J_if_neF hX 132 dX12_readAtom_127 rfl (b2iF c_32) ?_
          refine J_iconst hX 0 dX12_readAtom_130 rfl ?_
          exact E_Zi hX dX12_readAtom_131 rfl hf
set_option maxRecDepth 100000 in
set_option maxHeartbeats 200000 in
theorem C_X12_readAtom {G : GX} (hG : GOk G) : ∀ (n : Nat) (h : Hp) (r : Bool × Hp), f_X12_readAtom n h = some r → Ctr G (12 + 3 * n) yX12_readAtom cX12_readAtom 2 (some .boolean) [.ref 30] h ((.inl (some (.int (b2i r.1))), r.2)) := by
  intro n
  induction n with
  | zero => intro h r hf; exact nomatch hf
  | succ n ih =>
    intro h r hf
    exact Ctr_of hG RX12 rfl (by decide) rfl (fun X hX1 hdx hX => T_X12_readAtom_0 (D := 12 + 3 * n) hX hdx (by omega) (f_X12_readAtom n) (by rw [hX1]; exact ih) h hf)
theorem dX12_readLawLine_0 : decode cX12_readLawLine 0 = .ok (.sipush 1342, 3) := by decide +kernel
theorem dX12_readLawLine_3 : decode cX12_readLawLine 3 = .ok (.iconst 4, 1) := by decide +kernel
theorem dX12_readLawLine_4 : decode cX12_readLawLine 4 = .ok (.iload_n 1, 1) := by decide +kernel
theorem dX12_readLawLine_5 : decode cX12_readLawLine 5 = .ok (.imul, 1) := by decide +kernel
theorem dX12_readLawLine_6 : decode cX12_readLawLine 6 = .ok (.iadd, 1) := by decide +kernel
theorem dX12_readLawLine_7 : decode cX12_readLawLine 7 = .ok (.istore_n 2, 1) := by decide +kernel
theorem dX12_readLawLine_8 : decode cX12_readLawLine 8 = .ok (.aload_n 0, 1) := by decide +kernel
theorem dX12_readLawLine_9 : decode cX12_readLawLine 9 = .ok (.getfield 13, 3) := by decide +kernel
theorem dX12_readLawLine_12 : decode cX12_readLawLine 12 = .ok (.iload_n 2, 1) := by decide +kernel
theorem dX12_readLawLine_13 : decode cX12_readLawLine 13 = .ok (.aload_n 0, 1) := by decide +kernel
theorem dX12_readLawLine_14 : decode cX12_readLawLine 14 = .ok (.ldc 158, 2) := by decide +kernel
theorem dX12_readLawLine_16 : decode cX12_readLawLine 16 = .ok (.invokevirtual 145, 3) := by decide +kernel
theorem dX12_readLawLine_19 : decode cX12_readLawLine 19 = .ok (.ifCond .eq 7, 3) := by decide +kernel
theorem dX12_readLawLine_22 : decode cX12_readLawLine 22 = .ok (.iconst 0, 1) := by decide +kernel
theorem dX12_readLawLine_23 : decode cX12_readLawLine 23 = .ok (.goto 32, 3) := by decide +kernel
theorem dX12_readLawLine_26 : decode cX12_readLawLine 26 = .ok (.aload_n 0, 1) := by decide +kernel
theorem dX12_readLawLine_27 : decode cX12_readLawLine 27 = .ok (.ldc_w 257, 3) := by decide +kernel
theorem dX12_readLawLine_30 : decode cX12_readLawLine 30 = .ok (.invokevirtual 145, 3) := by decide +kernel
theorem dX12_readLawLine_33 : decode cX12_readLawLine 33 = .ok (.ifCond .eq 7, 3) := by decide +kernel
theorem dX12_readLawLine_36 : decode cX12_readLawLine 36 = .ok (.iconst 1, 1) := by decide +kernel
theorem dX12_readLawLine_37 : decode cX12_readLawLine 37 = .ok (.goto 18, 3) := by decide +kernel
theorem dX12_readLawLine_40 : decode cX12_readLawLine 40 = .ok (.aload_n 0, 1) := by decide +kernel
theorem dX12_readLawLine_41 : decode cX12_readLawLine 41 = .ok (.ldc_w 259, 3) := by decide +kernel
theorem dX12_readLawLine_44 : decode cX12_readLawLine 44 = .ok (.invokevirtual 145, 3) := by decide +kernel
theorem dX12_readLawLine_47 : decode cX12_readLawLine 47 = .ok (.ifCond .eq 7, 3) := by decide +kernel
theorem dX12_readLawLine_50 : decode cX12_readLawLine 50 = .ok (.iconst 2, 1) := by decide +kernel
theorem dX12_readLawLine_51 : decode cX12_readLawLine 51 = .ok (.goto 4, 3) := by decide +kernel
theorem dX12_readLawLine_54 : decode cX12_readLawLine 54 = .ok (.iconst (-1), 1) := by decide +kernel
theorem dX12_readLawLine_55 : decode cX12_readLawLine 55 = .ok (.iastore, 1) := by decide +kernel
theorem dX12_readLawLine_56 : decode cX12_readLawLine 56 = .ok (.aload_n 0, 1) := by decide +kernel
theorem dX12_readLawLine_57 : decode cX12_readLawLine 57 = .ok (.getfield 13, 3) := by decide +kernel
theorem dX12_readLawLine_60 : decode cX12_readLawLine 60 = .ok (.iload_n 2, 1) := by decide +kernel
theorem dX12_readLawLine_61 : decode cX12_readLawLine 61 = .ok (.iaload, 1) := by decide +kernel
theorem dX12_readLawLine_62 : decode cX12_readLawLine 62 = .ok (.ifCond .ge 5, 3) := by decide +kernel
theorem dX12_readLawLine_65 : decode cX12_readLawLine 65 = .ok (.iconst 0, 1) := by decide +kernel
theorem dX12_readLawLine_66 : decode cX12_readLawLine 66 = .ok (.ireturn, 1) := by decide +kernel
theorem dX12_readLawLine_67 : decode cX12_readLawLine 67 = .ok (.aload_n 0, 1) := by decide +kernel
theorem dX12_readLawLine_68 : decode cX12_readLawLine 68 = .ok (.getfield 13, 3) := by decide +kernel
theorem dX12_readLawLine_71 : decode cX12_readLawLine 71 = .ok (.iload_n 2, 1) := by decide +kernel
theorem dX12_readLawLine_72 : decode cX12_readLawLine 72 = .ok (.iconst 1, 1) := by decide +kernel
theorem dX12_readLawLine_73 : decode cX12_readLawLine 73 = .ok (.iadd, 1) := by decide +kernel
theorem dX12_readLawLine_74 : decode cX12_readLawLine 74 = .ok (.aload_n 0, 1) := by decide +kernel
theorem dX12_readLawLine_75 : decode cX12_readLawLine 75 = .ok (.iconst 0, 1) := by decide +kernel
theorem dX12_readLawLine_76 : decode cX12_readLawLine 76 = .ok (.bipush 99, 2) := by decide +kernel
theorem dX12_readLawLine_78 : decode cX12_readLawLine 78 = .ok (.invokevirtual 149, 3) := by decide +kernel
theorem dX12_readLawLine_81 : decode cX12_readLawLine 81 = .ok (.iastore, 1) := by decide +kernel
theorem dX12_readLawLine_82 : decode cX12_readLawLine 82 = .ok (.aload_n 0, 1) := by decide +kernel
theorem dX12_readLawLine_83 : decode cX12_readLawLine 83 = .ok (.getfield 13, 3) := by decide +kernel
theorem dX12_readLawLine_86 : decode cX12_readLawLine 86 = .ok (.iload_n 2, 1) := by decide +kernel
theorem dX12_readLawLine_87 : decode cX12_readLawLine 87 = .ok (.iconst 1, 1) := by decide +kernel
theorem dX12_readLawLine_88 : decode cX12_readLawLine 88 = .ok (.iadd, 1) := by decide +kernel
theorem dX12_readLawLine_89 : decode cX12_readLawLine 89 = .ok (.iaload, 1) := by decide +kernel
theorem dX12_readLawLine_90 : decode cX12_readLawLine 90 = .ok (.ifCond .ge 5, 3) := by decide +kernel
theorem dX12_readLawLine_93 : decode cX12_readLawLine 93 = .ok (.iconst 0, 1) := by decide +kernel
theorem dX12_readLawLine_94 : decode cX12_readLawLine 94 = .ok (.ireturn, 1) := by decide +kernel
theorem dX12_readLawLine_95 : decode cX12_readLawLine 95 = .ok (.aload_n 0, 1) := by decide +kernel
theorem dX12_readLawLine_96 : decode cX12_readLawLine 96 = .ok (.getfield 13, 3) := by decide +kernel
theorem dX12_readLawLine_99 : decode cX12_readLawLine 99 = .ok (.iload_n 2, 1) := by decide +kernel
theorem dX12_readLawLine_100 : decode cX12_readLawLine 100 = .ok (.iconst 2, 1) := by decide +kernel
theorem dX12_readLawLine_101 : decode cX12_readLawLine 101 = .ok (.iadd, 1) := by decide +kernel
theorem dX12_readLawLine_102 : decode cX12_readLawLine 102 = .ok (.aload_n 0, 1) := by decide +kernel
theorem dX12_readLawLine_103 : decode cX12_readLawLine 103 = .ok (.getfield 211, 3) := by decide +kernel
theorem dX12_readLawLine_106 : decode cX12_readLawLine 106 = .ok (.iastore, 1) := by decide +kernel
theorem dX12_readLawLine_107 : decode cX12_readLawLine 107 = .ok (.aload_n 0, 1) := by decide +kernel
theorem dX12_readLawLine_108 : decode cX12_readLawLine 108 = .ok (.iconst 0, 1) := by decide +kernel
theorem dX12_readLawLine_109 : decode cX12_readLawLine 109 = .ok (.putfield 233, 3) := by decide +kernel
theorem dX12_readLawLine_112 : decode cX12_readLawLine 112 = .ok (.aload_n 0, 1) := by decide +kernel
theorem dX12_readLawLine_113 : decode cX12_readLawLine 113 = .ok (.ldc_w 261, 3) := by decide +kernel
theorem dX12_readLawLine_116 : decode cX12_readLawLine 116 = .ok (.invokevirtual 162, 3) := by decide +kernel
theorem dX12_readLawLine_119 : decode cX12_readLawLine 119 = .ok (.ifCond .eq 12, 3) := by decide +kernel
theorem dX12_readLawLine_122 : decode cX12_readLawLine 122 = .ok (.aload_n 0, 1) := by decide +kernel
theorem dX12_readLawLine_123 : decode cX12_readLawLine 123 = .ok (.invokevirtual 236, 3) := by decide +kernel
theorem dX12_readLawLine_126 : decode cX12_readLawLine 126 = .ok (.ifCond .ne 5, 3) := by decide +kernel
theorem dX12_readLawLine_129 : decode cX12_readLawLine 129 = .ok (.iconst 0, 1) := by decide +kernel
theorem dX12_readLawLine_130 : decode cX12_readLawLine 130 = .ok (.ireturn, 1) := by decide +kernel
theorem dX12_readLawLine_131 : decode cX12_readLawLine 131 = .ok (.aload_n 0, 1) := by decide +kernel
theorem dX12_readLawLine_132 : decode cX12_readLawLine 132 = .ok (.getfield 13, 3) := by decide +kernel
theorem dX12_readLawLine_135 : decode cX12_readLawLine 135 = .ok (.iload_n 2, 1) := by decide +kernel
theorem dX12_readLawLine_136 : decode cX12_readLawLine 136 = .ok (.iconst 3, 1) := by decide +kernel
theorem dX12_readLawLine_137 : decode cX12_readLawLine 137 = .ok (.iadd, 1) := by decide +kernel
theorem dX12_readLawLine_138 : decode cX12_readLawLine 138 = .ok (.aload_n 0, 1) := by decide +kernel
theorem dX12_readLawLine_139 : decode cX12_readLawLine 139 = .ok (.getfield 211, 3) := by decide +kernel
theorem dX12_readLawLine_142 : decode cX12_readLawLine 142 = .ok (.iastore, 1) := by decide +kernel
theorem dX12_readLawLine_143 : decode cX12_readLawLine 143 = .ok (.iconst 1, 1) := by decide +kernel
theorem dX12_readLawLine_144 : decode cX12_readLawLine 144 = .ok (.ireturn, 1) := by decide +kernel
set_option maxRecDepth 100000 in
set_option maxHeartbeats 200000 in
theorem T_X12_readLawLine_131 {X : CX} (hX : Ok X cX12_readLawLine 3 RX12 (some .boolean)) (hdx : dX X = 45) {r : Bool × Hp} (x2 : Int32) (h : Hp) (hf : F_X12_readLawLine_131 x2 h = some r) : J X ((.inl (some (.int (b2i r.1))), r.2)) 131 [(0, .ref 30), (2, .int x2)] [] h := by
  unfold F_X12_readLawLine_131 at hf
  refine J_aload_n hX 0 dX12_readLawLine_131 rfl rfl ?_
  refine J_getR hX 31 dX12_readLawLine_132 fl_X12_13 ob_30 rfl rfl ?_
  refine J_iload_n hX 1 dX12_readLawLine_135 rfl rfl ?_
  refine J_iconst hX 3 dX12_readLawLine_136 rfl ?_
  refine J_iadd hX dX12_readLawLine_137 ?_
  refine J_aload_n hX 0 dX12_readLawLine_138 rfl rfl ?_
  refine J_getI hX dX12_readLawLine_139 fl_X12_211 ob_30 rfl ?_
  obtain ⟨g_1, hf⟩ := gdE hf
  obtain ⟨h_2, e_3, hf⟩ := bndE hf
  refine J_ast hX ((x2 + 3).toNatClampNeg) (h 30 18) dX12_readLawLine_142 ar_31 (Or.inl ⟨rfl, rfl, rfl⟩) g_1 rfl ?_
  refine J_nmh e_3 ?_
  refine J_iconst hX 1 dX12_readLawLine_143 rfl ?_
  exact E_Zi hX dX12_readLawLine_144 rfl hf
set_option maxRecDepth 100000 in
set_option maxHeartbeats 200000 in
theorem T_X12_readLawLine_55 {X : CX} (hX : Ok X cX12_readLawLine 3 RX12 (some .boolean)) (hdx : dX X = 45) {r : Bool × Hp} (x2 : Int32) (t0 : Int32) (t1 : Int32) (h : Hp) (hf : F_X12_readLawLine_55 x2 t0 t1 h = some r) : J X ((.inl (some (.int (b2i r.1))), r.2)) 55 [(0, .ref 30), (2, .int x2)] [.int t0, .int t1, .ref 31] h := by
  unfold F_X12_readLawLine_55 at hf
  obtain ⟨g_1, hf⟩ := gdE hf
  obtain ⟨h_2, e_3, hf⟩ := bndE hf
  refine J_ast hX t1.toNatClampNeg t0 dX12_readLawLine_55 ar_31 (Or.inl ⟨rfl, rfl, rfl⟩) g_1 rfl ?_
  refine J_nmh e_3 ?_
  refine J_aload_n hX 0 dX12_readLawLine_56 rfl rfl ?_
  refine J_getR hX 31 dX12_readLawLine_57 fl_X12_13 ob_30 rfl rfl ?_
  refine J_iload_n hX 1 dX12_readLawLine_60 rfl rfl ?_
  obtain ⟨g_4, hf⟩ := gdE hf
  refine J_ald hX x2.toNatClampNeg dX12_readLawLine_61 ar_31 (Or.inl ⟨rfl, rfl⟩) g_4 rfl ?_
  rcases ifE hf with ⟨c_5, hf⟩ | ⟨c_5, hf⟩
  · refine J_if_geF hX 67 dX12_readLawLine_62 rfl c_5 ?_
    refine J_iconst hX 0 dX12_readLawLine_65 rfl ?_
    exact E_Zi hX dX12_readLawLine_66 rfl hf
  · refine J_if_geT hX 67 dX12_readLawLine_62 rfl c_5 ?_
    refine J_aload_n hX 0 dX12_readLawLine_67 rfl rfl ?_
    refine J_getR hX 31 dX12_readLawLine_68 fl_X12_13 ob_30 rfl rfl ?_
    refine J_iload_n hX 1 dX12_readLawLine_71 rfl rfl ?_
    refine J_iconst hX 1 dX12_readLawLine_72 rfl ?_
    refine J_iadd hX dX12_readLawLine_73 ?_
    refine J_aload_n hX 0 dX12_readLawLine_74 rfl rfl ?_
    refine J_iconst hX 0 dX12_readLawLine_75 rfl ?_
    refine J_bipush hX 99 dX12_readLawLine_76 rfl ?_
    obtain ⟨r_6, e_7, hf⟩ := bdE hf
    refine V_1 hX [.int 0, .int 99] dX12_readLawLine_78 cw_X12_149 ob_30 rfl (C_X12_number (okG hX) e_7) (ltD hdx rfl) rfl rfl rfl rfl ?_
    obtain ⟨g_8, hf⟩ := gdE hf
    obtain ⟨h_9, e_10, hf⟩ := bndE hf
    refine J_ast hX ((x2 + 1).toNatClampNeg) r_6.1 dX12_readLawLine_81 ar_31 (Or.inl ⟨rfl, rfl, rfl⟩) g_8 rfl ?_
    refine J_nmh e_10 ?_
    refine J_aload_n hX 0 dX12_readLawLine_82 rfl rfl ?_
    refine J_getR hX 31 dX12_readLawLine_83 fl_X12_13 ob_30 rfl rfl ?_
    refine J_iload_n hX 1 dX12_readLawLine_86 rfl rfl ?_
    refine J_iconst hX 1 dX12_readLawLine_87 rfl ?_
    refine J_iadd hX dX12_readLawLine_88 ?_
    obtain ⟨g_11, hf⟩ := gdE hf
    refine J_ald hX ((x2 + 1).toNatClampNeg) dX12_readLawLine_89 ar_31 (Or.inl ⟨rfl, rfl⟩) g_11 rfl ?_
    rcases ifE hf with ⟨c_12, hf⟩ | ⟨c_12, hf⟩
    · refine J_if_geF hX 95 dX12_readLawLine_90 rfl c_12 ?_
      refine J_iconst hX 0 dX12_readLawLine_93 rfl ?_
      exact E_Zi hX dX12_readLawLine_94 rfl hf
    · refine J_if_geT hX 95 dX12_readLawLine_90 rfl c_12 ?_
      refine J_aload_n hX 0 dX12_readLawLine_95 rfl rfl ?_
      refine J_getR hX 31 dX12_readLawLine_96 fl_X12_13 ob_30 rfl rfl ?_
      refine J_iload_n hX 1 dX12_readLawLine_99 rfl rfl ?_
      refine J_iconst hX 2 dX12_readLawLine_100 rfl ?_
      refine J_iadd hX dX12_readLawLine_101 ?_
      refine J_aload_n hX 0 dX12_readLawLine_102 rfl rfl ?_
      refine J_getI hX dX12_readLawLine_103 fl_X12_211 ob_30 rfl ?_
      obtain ⟨g_13, hf⟩ := gdE hf
      obtain ⟨h_14, e_15, hf⟩ := bndE hf
      refine J_ast hX ((x2 + 2).toNatClampNeg) (h_9 30 18) dX12_readLawLine_106 ar_31 (Or.inl ⟨rfl, rfl, rfl⟩) g_13 rfl ?_
      refine J_nmh e_15 ?_
      refine J_aload_n hX 0 dX12_readLawLine_107 rfl rfl ?_
      refine J_iconst hX 0 dX12_readLawLine_108 rfl ?_
      obtain ⟨h_16, e_17, hf⟩ := bndE hf
      refine J_putI hX dX12_readLawLine_109 fl_X12_233 fw_10_15 ob_30 rfl rfl rfl ?_
      refine J_nmh e_17 ?_
      refine J_aload_n hX 0 dX12_readLawLine_112 rfl rfl ?_
      refine J_ldcwS hX 1033 dX12_readLawLine_113 rfl rfl ?_
      obtain ⟨r_18, e_19, hf⟩ := bdE hf
      refine V_1 hX [.ref 1033] dX12_readLawLine_116 cw_X12_162 ob_30 rfl (C_X12_passes (okG hX) (isStr_of (by decide)) e_19) (ltD hdx rfl) rfl rfl rfl rfl ?_
      rcases ifE hf with ⟨c_20, hf⟩ | ⟨c_20, hf⟩
      · refine J_if_eqF hX 131 dX12_readLawLine_119 rfl (b2iT c_20) ?_
        refine J_aload_n hX 0 dX12_readLawLine_122 rfl rfl ?_
        obtain ⟨r_21, e_22, hf⟩ := bdE hf
        refine V_1 hX [] dX12_readLawLine_123 cw_X12_236 ob_30 rfl (C_X12_readCond (okG hX) (D := 42) (by decide) (f_X12_readAtom 10) (C_X12_readAtom (okG hX) 10) e_22) (ltD hdx rfl) rfl rfl rfl rfl ?_
        rcases ifE hf with ⟨c_23, hf⟩ | ⟨c_23, hf⟩
        · refine J_if_neT hX 131 dX12_readLawLine_126 rfl (b2iT c_23) ?_
          exact T_X12_readLawLine_131 hX hdx x2 r_21.2 hf
        · refine J_if_neF hX 131 dX12_readLawLine_126 rfl (b2iF c_23) ?_
          refine J_iconst hX 0 dX12_readLawLine_129 rfl ?_
          exact E_Zi hX dX12_readLawLine_130 rfl hf
      · refine J_if_eqT hX 131 dX12_readLawLine_119 rfl (b2iF c_20) ?_
        exact T_X12_readLawLine_131 hX hdx x2 r_18.2 hf
set_option maxRecDepth 100000 in
set_option maxHeartbeats 200000 in
theorem T_X12_readLawLine_0 {X : CX} (hX : Ok X cX12_readLawLine 3 RX12 (some .boolean)) (hdx : dX X = 45) {r : Bool × Hp} (x1 : Int32) (h : Hp) (hf : f_X12_readLawLine x1 h = some r) : J X ((.inl (some (.int (b2i r.1))), r.2)) 0 [(0, .ref 30), (1, .int x1)] [] h := by
  unfold f_X12_readLawLine at hf
  refine J_sipush hX 1342 dX12_readLawLine_0 rfl ?_
  refine J_iconst hX 4 dX12_readLawLine_3 rfl ?_
  refine J_iload_n hX 1 dX12_readLawLine_4 rfl rfl ?_
  refine J_imul hX dX12_readLawLine_5 ?_
  refine J_iadd hX dX12_readLawLine_6 ?_
  obtain ⟨x2_1, e_2, hf⟩ := bndE hf
  refine J_nm e_2 ?_
  refine J_istore_n hX [(2, .int x2_1), (0, .ref 30), (1, .int x1)] dX12_readLawLine_7 rfl rfl rfl ?_
  refine J_aload_n hX 1 dX12_readLawLine_8 rfl rfl ?_
  refine J_getR hX 31 dX12_readLawLine_9 fl_X12_13 ob_30 rfl rfl ?_
  refine J_iload_n hX 0 dX12_readLawLine_12 rfl rfl ?_
  refine J_aload_n hX 1 dX12_readLawLine_13 rfl rfl ?_
  refine J_ldcS hX 1018 dX12_readLawLine_14 rfl rfl ?_
  obtain ⟨r_3, e_4, hf⟩ := bdE hf
  refine V_1 hX [.ref 1018] dX12_readLawLine_16 cw_X12_145 ob_30 rfl (C_X12_isWord (okG hX) (isStr_of (by decide)) e_4) (ltD hdx rfl) rfl rfl rfl rfl ?_
  rcases ifE hf with ⟨c_5, hf⟩ | ⟨c_5, hf⟩
  · refine J_if_eqF hX 26 dX12_readLawLine_19 rfl (b2iT c_5) ?_
    refine J_iconst hX 0 dX12_readLawLine_22 rfl ?_
    refine J_goto hX 55 dX12_readLawLine_23 rfl ?_
    refine J_sub [1, 0] [(0, .ref 30), (2, .int x2_1)] rfl ?_
    exact T_X12_readLawLine_55 hX hdx x2_1 0 x2_1 h hf
  · refine J_if_eqT hX 26 dX12_readLawLine_19 rfl (b2iF c_5) ?_
    refine J_aload_n hX 1 dX12_readLawLine_26 rfl rfl ?_
    refine J_ldcwS hX 1031 dX12_readLawLine_27 rfl rfl ?_
    obtain ⟨r_6, e_7, hf⟩ := bdE hf
    refine V_1 hX [.ref 1031] dX12_readLawLine_30 cw_X12_145 ob_30 rfl (C_X12_isWord (okG hX) (isStr_of (by decide)) e_7) (ltD hdx rfl) rfl rfl rfl rfl ?_
    rcases ifE hf with ⟨c_8, hf⟩ | ⟨c_8, hf⟩
    · refine J_if_eqF hX 40 dX12_readLawLine_33 rfl (b2iT c_8) ?_
      refine J_iconst hX 1 dX12_readLawLine_36 rfl ?_
      refine J_goto hX 55 dX12_readLawLine_37 rfl ?_
      refine J_sub [1, 0] [(0, .ref 30), (2, .int x2_1)] rfl ?_
      exact T_X12_readLawLine_55 hX hdx x2_1 1 x2_1 h hf
    · refine J_if_eqT hX 40 dX12_readLawLine_33 rfl (b2iF c_8) ?_
      refine J_aload_n hX 1 dX12_readLawLine_40 rfl rfl ?_
      refine J_ldcwS hX 1032 dX12_readLawLine_41 rfl rfl ?_
      obtain ⟨r_9, e_10, hf⟩ := bdE hf
      refine V_1 hX [.ref 1032] dX12_readLawLine_44 cw_X12_145 ob_30 rfl (C_X12_isWord (okG hX) (isStr_of (by decide)) e_10) (ltD hdx rfl) rfl rfl rfl rfl ?_
      rcases ifE hf with ⟨c_11, hf⟩ | ⟨c_11, hf⟩
      · refine J_if_eqF hX 54 dX12_readLawLine_47 rfl (b2iT c_11) ?_
        refine J_iconst hX 2 dX12_readLawLine_50 rfl ?_
        refine J_goto hX 55 dX12_readLawLine_51 rfl ?_
        refine J_sub [1, 0] [(0, .ref 30), (2, .int x2_1)] rfl ?_
        exact T_X12_readLawLine_55 hX hdx x2_1 2 x2_1 h hf
      · refine J_if_eqT hX 54 dX12_readLawLine_47 rfl (b2iF c_11) ?_
        refine J_iconst hX (-1) dX12_readLawLine_54 rfl ?_
        refine J_sub [1, 0] [(0, .ref 30), (2, .int x2_1)] rfl ?_
        exact T_X12_readLawLine_55 hX hdx x2_1 (-1) x2_1 h hf
set_option maxRecDepth 100000 in
set_option maxHeartbeats 200000 in
theorem C_X12_readLawLine {G : GX} (hG : GOk G) {x1 : Int32} {h : Hp} {r : Bool × Hp} (hf : f_X12_readLawLine x1 h = some r) : Ctr G 45 yX12_readLawLine cX12_readLawLine 3 (some .boolean) [.ref 30, .int x1] h ((.inl (some (.int (b2i r.1))), r.2)) :=
  Ctr_of hG RX12 rfl (by decide) rfl (fun X _ hdx hX => T_X12_readLawLine_0 hX hdx x1 h hf)
theorem dX12_readLine_0 : decode cX12_readLine 0 = .ok (.aload_n 0, 1) := by decide +kernel
theorem dX12_readLine_1 : decode cX12_readLine 1 = .ok (.invokevirtual 142, 3) := by decide +kernel
theorem dX12_readLine_4 : decode cX12_readLine 4 = .ok (.iload_n 2, 1) := by decide +kernel
theorem dX12_readLine_5 : decode cX12_readLine 5 = .ok (.iload_n 1, 1) := by decide +kernel
theorem dX12_readLine_6 : decode cX12_readLine 6 = .ok (.ifCond .eq 8, 3) := by decide +kernel
theorem dX12_readLine_9 : decode cX12_readLine 9 = .ok (.bipush 14, 2) := by decide +kernel
theorem dX12_readLine_11 : decode cX12_readLine 11 = .ok (.goto 5, 3) := by decide +kernel
theorem dX12_readLine_14 : decode cX12_readLine 14 = .ok (.bipush 12, 2) := by decide +kernel
theorem dX12_readLine_16 : decode cX12_readLine 16 = .ok (.if_icmp .ge 29, 3) := by decide +kernel
theorem dX12_readLine_19 : decode cX12_readLine 19 = .ok (.iload_n 1, 1) := by decide +kernel
theorem dX12_readLine_20 : decode cX12_readLine 20 = .ok (.ifCond .eq 13, 3) := by decide +kernel
theorem dX12_readLine_23 : decode cX12_readLine 23 = .ok (.aload_n 0, 1) := by decide +kernel
theorem dX12_readLine_24 : decode cX12_readLine 24 = .ok (.invokevirtual 263, 3) := by decide +kernel
theorem dX12_readLine_27 : decode cX12_readLine 27 = .ok (.ifCond .eq 18, 3) := by decide +kernel
theorem dX12_readLine_30 : decode cX12_readLine 30 = .ok (.goto 11, 3) := by decide +kernel
theorem dX12_readLine_33 : decode cX12_readLine 33 = .ok (.aload_n 0, 1) := by decide +kernel
theorem dX12_readLine_34 : decode cX12_readLine 34 = .ok (.iload_n 2, 1) := by decide +kernel
theorem dX12_readLine_35 : decode cX12_readLine 35 = .ok (.invokevirtual 266, 3) := by decide +kernel
theorem dX12_readLine_38 : decode cX12_readLine 38 = .ok (.ifCond .eq 7, 3) := by decide +kernel
theorem dX12_readLine_41 : decode cX12_readLine 41 = .ok (.iconst 1, 1) := by decide +kernel
theorem dX12_readLine_42 : decode cX12_readLine 42 = .ok (.goto 4, 3) := by decide +kernel
theorem dX12_readLine_45 : decode cX12_readLine 45 = .ok (.iconst 0, 1) := by decide +kernel
theorem dX12_readLine_46 : decode cX12_readLine 46 = .ok (.ireturn, 1) := by decide +kernel
set_option maxRecDepth 100000 in
set_option maxHeartbeats 200000 in
theorem T_X12_readLine_16 {X : CX} (hX : Ok X cX12_readLine 3 RX12 (some .boolean)) (hdx : dX X = 46) {r : Bool × Hp} (x1 : Int32) (x2 : Int32) (t0 : Int32) (t1 : Int32) (h : Hp) (hf : F_X12_readLine_16 x1 x2 t0 t1 h = some r) : J X ((.inl (some (.int (b2i r.1))), r.2)) 16 [(0, .ref 30), (1, .int x1), (2, .int x2)] [.int t0, .int t1] h := by
  unfold F_X12_readLine_16 at hf
  rcases ifE hf with ⟨c_1, hf⟩ | ⟨c_1, hf⟩
  · refine J_icmp_geF hX 45 dX12_readLine_16 rfl c_1 ?_
    refine J_iload_n hX 1 dX12_readLine_19 rfl rfl ?_
    rcases ifE hf with ⟨c_2, hf⟩ | ⟨c_2, hf⟩
    · refine J_if_eqT hX 33 dX12_readLine_20 rfl c_2 ?_
      refine J_aload_n hX 0 dX12_readLine_33 rfl rfl ?_
      refine J_iload_n hX 2 dX12_readLine_34 rfl rfl ?_
      obtain ⟨r_3, e_4, hf⟩ := bdE hf
      refine V_1 hX [.int x2] dX12_readLine_35 cw_X12_266 ob_30 rfl (C_X12_readLawLine (okG hX) e_4) (ltD hdx rfl) rfl rfl rfl rfl ?_
      rcases ifE hf with ⟨c_5, hf⟩ | ⟨c_5, hf⟩
      · refine J_if_eqF hX 45 dX12_readLine_38 rfl (b2iT c_5) ?_
        refine J_iconst hX 1 dX12_readLine_41 rfl ?_
        refine J_goto hX 46 dX12_readLine_42 rfl ?_
        exact E_Zi hX dX12_readLine_46 rfl hf
      · refine J_if_eqT hX 45 dX12_readLine_38 rfl (b2iF c_5) ?_
        refine J_iconst hX 0 dX12_readLine_45 rfl ?_
        exact E_Zi hX dX12_readLine_46 rfl hf
    · refine J_if_eqF hX 33 dX12_readLine_20 rfl c_2 ?_
      refine J_aload_n hX 0 dX12_readLine_23 rfl rfl ?_
      obtain ⟨r_6, e_7, hf⟩ := bdE hf
      refine V_1 hX [] dX12_readLine_24 cw_X12_263 ob_30 rfl (C_X12_readCityLine (okG hX) e_7) (ltD hdx rfl) rfl rfl rfl rfl ?_
      rcases ifE hf with ⟨c_8, hf⟩ | ⟨c_8, hf⟩
      · refine J_if_eqF hX 45 dX12_readLine_27 rfl (b2iT c_8) ?_
        refine J_goto hX 41 dX12_readLine_30 rfl ?_
        refine J_iconst hX 1 dX12_readLine_41 rfl ?_
        refine J_goto hX 46 dX12_readLine_42 rfl ?_
        exact E_Zi hX dX12_readLine_46 rfl hf
      · refine J_if_eqT hX 45 dX12_readLine_27 rfl (b2iF c_8) ?_
        refine J_iconst hX 0 dX12_readLine_45 rfl ?_
        exact E_Zi hX dX12_readLine_46 rfl hf
  · refine J_icmp_geT hX 45 dX12_readLine_16 rfl c_1 ?_
    refine J_iconst hX 0 dX12_readLine_45 rfl ?_
    exact E_Zi hX dX12_readLine_46 rfl hf
set_option maxRecDepth 100000 in
set_option maxHeartbeats 200000 in
theorem T_X12_readLine_0 {X : CX} (hX : Ok X cX12_readLine 3 RX12 (some .boolean)) (hdx : dX X = 46) {r : Bool × Hp} (x1 : Int32) (x2 : Int32) (h : Hp) (hf : f_X12_readLine x1 x2 h = some r) : J X ((.inl (some (.int (b2i r.1))), r.2)) 0 [(0, .ref 30), (1, .int x1), (2, .int x2)] [] h := by
  unfold f_X12_readLine at hf
  refine J_aload_n hX 0 dX12_readLine_0 rfl rfl ?_
  obtain ⟨r_1, e_2, hf⟩ := bdE hf
  refine V_0 hX [] dX12_readLine_1 cw_X12_142 ob_30 rfl (C_X12_letters (okG hX) e_2) (ltD hdx rfl) rfl rfl rfl rfl ?_
  refine J_iload_n hX 2 dX12_readLine_4 rfl rfl ?_
  refine J_iload_n hX 1 dX12_readLine_5 rfl rfl ?_
  rcases ifE hf with ⟨c_3, hf⟩ | ⟨c_3, hf⟩
  · refine J_if_eqT hX 14 dX12_readLine_6 rfl c_3 ?_
    refine J_bipush hX 12 dX12_readLine_14 rfl ?_
    exact T_X12_readLine_16 hX hdx x1 x2 12 x2 r_1 hf
  · refine J_if_eqF hX 14 dX12_readLine_6 rfl c_3 ?_
    refine J_bipush hX 14 dX12_readLine_9 rfl ?_
    refine J_goto hX 16 dX12_readLine_11 rfl ?_
    exact T_X12_readLine_16 hX hdx x1 x2 14 x2 r_1 hf
set_option maxRecDepth 100000 in
set_option maxHeartbeats 200000 in
theorem C_X12_readLine {G : GX} (hG : GOk G) {x1 : Int32} {x2 : Int32} {h : Hp} {r : Bool × Hp} (hf : f_X12_readLine x1 x2 h = some r) : Ctr G 46 yX12_readLine cX12_readLine 3 (some .boolean) [.ref 30, .int x1, .int x2] h ((.inl (some (.int (b2i r.1))), r.2)) :=
  Ctr_of hG RX12 rfl (by decide) rfl (fun X _ hdx hX => T_X12_readLine_0 hX hdx x1 x2 h hf)
theorem dX12_readAll_0 : decode cX12_readAll 0 = .ok (.aload_n 0, 1) := by decide +kernel
theorem dX12_readAll_1 : decode cX12_readAll 1 = .ok (.invokevirtual 269, 3) := by decide +kernel
theorem dX12_readAll_4 : decode cX12_readAll 4 = .ok (.aload_n 0, 1) := by decide +kernel
theorem dX12_readAll_5 : decode cX12_readAll 5 = .ok (.iconst 0, 1) := by decide +kernel
theorem dX12_readAll_6 : decode cX12_readAll 6 = .ok (.putfield 211, 3) := by decide +kernel
theorem dX12_readAll_9 : decode cX12_readAll 9 = .ok (.aload_n 0, 1) := by decide +kernel
theorem dX12_readAll_10 : decode cX12_readAll 10 = .ok (.invokevirtual 130, 3) := by decide +kernel
theorem dX12_readAll_13 : decode cX12_readAll 13 = .ok (.aload_n 0, 1) := by decide +kernel
theorem dX12_readAll_14 : decode cX12_readAll 14 = .ok (.getfield 117, 3) := by decide +kernel
theorem dX12_readAll_17 : decode cX12_readAll 17 = .ok (.aload_n 0, 1) := by decide +kernel
theorem dX12_readAll_18 : decode cX12_readAll 18 = .ok (.getfield 120, 3) := by decide +kernel
theorem dX12_readAll_21 : decode cX12_readAll 21 = .ok (.if_icmp .ne 5, 3) := by decide +kernel
theorem dX12_readAll_24 : decode cX12_readAll 24 = .ok (.iconst 0, 1) := by decide +kernel
theorem dX12_readAll_25 : decode cX12_readAll 25 = .ok (.ireturn, 1) := by decide +kernel
theorem dX12_readAll_26 : decode cX12_readAll 26 = .ok (.iconst 0, 1) := by decide +kernel
theorem dX12_readAll_27 : decode cX12_readAll 27 = .ok (.istore_n 2, 1) := by decide +kernel
theorem dX12_readAll_28 : decode cX12_readAll 28 = .ok (.aload_n 0, 1) := by decide +kernel
theorem dX12_readAll_29 : decode cX12_readAll 29 = .ok (.iload_n 1, 1) := by decide +kernel
theorem dX12_readAll_30 : decode cX12_readAll 30 = .ok (.iload_n 2, 1) := by decide +kernel
theorem dX12_readAll_31 : decode cX12_readAll 31 = .ok (.invokevirtual 272, 3) := by decide +kernel
theorem dX12_readAll_34 : decode cX12_readAll 34 = .ok (.ifCond .ne 5, 3) := by decide +kernel
theorem dX12_readAll_37 : decode cX12_readAll 37 = .ok (.iconst (-1), 1) := by decide +kernel
theorem dX12_readAll_38 : decode cX12_readAll 38 = .ok (.ireturn, 1) := by decide +kernel
theorem dX12_readAll_39 : decode cX12_readAll 39 = .ok (.aload_n 0, 1) := by decide +kernel
theorem dX12_readAll_40 : decode cX12_readAll 40 = .ok (.invokevirtual 130, 3) := by decide +kernel
theorem dX12_readAll_43 : decode cX12_readAll 43 = .ok (.aload_n 0, 1) := by decide +kernel
theorem dX12_readAll_44 : decode cX12_readAll 44 = .ok (.getfield 117, 3) := by decide +kernel
theorem dX12_readAll_47 : decode cX12_readAll 47 = .ok (.aload_n 0, 1) := by decide +kernel
theorem dX12_readAll_48 : decode cX12_readAll 48 = .ok (.getfield 120, 3) := by decide +kernel
theorem dX12_readAll_51 : decode cX12_readAll 51 = .ok (.if_icmp .ne 7, 3) := by decide +kernel
theorem dX12_readAll_54 : decode cX12_readAll 54 = .ok (.iload_n 2, 1) := by decide +kernel
theorem dX12_readAll_55 : decode cX12_readAll 55 = .ok (.iconst 1, 1) := by decide +kernel
theorem dX12_readAll_56 : decode cX12_readAll 56 = .ok (.iadd, 1) := by decide +kernel
theorem dX12_readAll_57 : decode cX12_readAll 57 = .ok (.ireturn, 1) := by decide +kernel
theorem dX12_readAll_58 : decode cX12_readAll 58 = .ok (.aload_n 0, 1) := by decide +kernel
theorem dX12_readAll_59 : decode cX12_readAll 59 = .ok (.bipush 59, 2) := by decide +kernel
theorem dX12_readAll_61 : decode cX12_readAll 61 = .ok (.bipush 59, 2) := by decide +kernel
theorem dX12_readAll_63 : decode cX12_readAll 63 = .ok (.invokevirtual 123, 3) := by decide +kernel
theorem dX12_readAll_66 : decode cX12_readAll 66 = .ok (.ifCond .ne 5, 3) := by decide +kernel
theorem dX12_readAll_69 : decode cX12_readAll 69 = .ok (.iconst (-1), 1) := by decide +kernel
theorem dX12_readAll_70 : decode cX12_readAll 70 = .ok (.ireturn, 1) := by decide +kernel
theorem dX12_readAll_71 : decode cX12_readAll 71 = .ok (.aload_n 0, 1) := by decide +kernel
theorem dX12_readAll_72 : decode cX12_readAll 72 = .ok (.dup, 1) := by decide +kernel
theorem dX12_readAll_73 : decode cX12_readAll 73 = .ok (.getfield 117, 3) := by decide +kernel
theorem dX12_readAll_76 : decode cX12_readAll 76 = .ok (.iconst 1, 1) := by decide +kernel
theorem dX12_readAll_77 : decode cX12_readAll 77 = .ok (.iadd, 1) := by decide +kernel
theorem dX12_readAll_78 : decode cX12_readAll 78 = .ok (.putfield 117, 3) := by decide +kernel
theorem dX12_readAll_81 : decode cX12_readAll 81 = .ok (.iinc 2 1, 3) := by decide +kernel
theorem dX12_readAll_84 : decode cX12_readAll 84 = .ok (.goto (-56), 3) := by decide +kernel
set_option maxRecDepth 100000 in
set_option maxHeartbeats 200000 in
theorem T_X12_readAll_28_s {X : CX} (hX : Ok X cX12_readAll 3 RX12 (some .int)) (hdx : dX X = 47) {r : Int32 × Hp} (x1 : Int32) (q_28 : Int32 → Hp → Option (Int32 × Hp)) (hq_28 : ∀ (x2 : Int32) (h : Hp), q_28 x2 h = some r → J X ((.inl (some (.int r.1)), r.2)) 28 [(0, .ref 30), (1, .int x1), (2, .int x2)] [] h) (x2 : Int32) (h : Hp) (hf : S_X12_readAll_28 x1 q_28 x2 h = some r) : J X ((.inl (some (.int r.1)), r.2)) 28 [(0, .ref 30), (1, .int x1), (2, .int x2)] [] h := by
  unfold S_X12_readAll_28 at hf
  refine J_aload_n hX 0 dX12_readAll_28 rfl rfl ?_
  refine J_iload_n hX 1 dX12_readAll_29 rfl rfl ?_
  refine J_iload_n hX 2 dX12_readAll_30 rfl rfl ?_
  obtain ⟨r_1, e_2, hf⟩ := bdE hf
  refine V_1 hX [.int x1, .int x2] dX12_readAll_31 cw_X12_272 ob_30 rfl (C_X12_readLine (okG hX) e_2) (ltD hdx rfl) rfl rfl rfl rfl ?_
  rcases ifE hf with ⟨c_3, hf⟩ | ⟨c_3, hf⟩
  · refine J_if_neT hX 39 dX12_readAll_34 rfl (b2iT c_3) ?_
    refine J_aload_n hX 0 dX12_readAll_39 rfl rfl ?_
    obtain ⟨r_4, e_5, hf⟩ := bdE hf
    refine V_0 hX [] dX12_readAll_40 cw_X12_130 ob_30 rfl (C_X12_blanks (okG hX) e_5) (ltD hdx rfl) rfl rfl rfl rfl ?_
    refine J_aload_n hX 0 dX12_readAll_43 rfl rfl ?_
    refine J_getI hX dX12_readAll_44 fl_X12_117 ob_30 rfl ?_
    refine J_aload_n hX 0 dX12_readAll_47 rfl rfl ?_
    refine J_getI hX dX12_readAll_48 fl_X12_120 ob_30 rfl ?_
    rcases ifE hf with ⟨c_6, hf⟩ | ⟨c_6, hf⟩
    · refine J_icmp_neF hX 58 dX12_readAll_51 rfl c_6 ?_
      refine J_iload_n hX 2 dX12_readAll_54 rfl rfl ?_
      refine J_iconst hX 1 dX12_readAll_55 rfl ?_
      refine J_iadd hX dX12_readAll_56 ?_
      exact E_Ii hX dX12_readAll_57 hf
    · refine J_icmp_neT hX 58 dX12_readAll_51 rfl c_6 ?_
      refine J_aload_n hX 0 dX12_readAll_58 rfl rfl ?_
      refine J_bipush hX 59 dX12_readAll_59 rfl ?_
      refine J_bipush hX 59 dX12_readAll_61 rfl ?_
      obtain ⟨r_7, e_8, hf⟩ := bdE hf
      refine V_1 hX [.int 59, .int 59] dX12_readAll_63 cw_X12_123 ob_30 rfl (C_X12_isAt (okG hX) e_8) (ltD hdx rfl) rfl rfl rfl rfl ?_
      rcases ifE hf with ⟨c_9, hf⟩ | ⟨c_9, hf⟩
      · refine J_if_neT hX 71 dX12_readAll_66 rfl (b2iT c_9) ?_
        refine J_aload_n hX 0 dX12_readAll_71 rfl rfl ?_
        refine J_dup hX dX12_readAll_72 rfl ?_
        refine J_getI hX dX12_readAll_73 fl_X12_117 ob_30 rfl ?_
        refine J_iconst hX 1 dX12_readAll_76 rfl ?_
        refine J_iadd hX dX12_readAll_77 ?_
        obtain ⟨h_10, e_11, hf⟩ := bndE hf
        refine J_putI hX dX12_readAll_78 fl_X12_117 fw_10_12 ob_30 rfl rfl rfl ?_
        refine J_nmh e_11 ?_
        refine J_iinc hX (x2 + 1) 2 [(2, .int (x2 + 1)), (0, .ref 30), (1, .int x1)] dX12_readAll_81 rfl rfl rfl rfl ?_
        refine J_goto hX 28 dX12_readAll_84 rfl ?_
        refine J_sub [1, 2, 0] [(0, .ref 30), (1, .int x1), (2, .int (x2 + 1))] rfl ?_
        exact hq_28 (x2 + 1) h_10 hf
      · refine J_if_neF hX 71 dX12_readAll_66 rfl (b2iF c_9) ?_
        refine J_iconst hX (-1) dX12_readAll_69 rfl ?_
        exact E_Ii hX dX12_readAll_70 hf
  · refine J_if_neF hX 39 dX12_readAll_34 rfl (b2iF c_3) ?_
    refine J_iconst hX (-1) dX12_readAll_37 rfl ?_
    exact E_Ii hX dX12_readAll_38 hf
set_option maxRecDepth 100000 in
set_option maxHeartbeats 200000 in
theorem T_X12_readAll_28 {X : CX} (hX : Ok X cX12_readAll 3 RX12 (some .int)) (hdx : dX X = 47) {r : Int32 × Hp} (x1 : Int32) : ∀ (n : Nat) (x2 : Int32) (h : Hp), F_X12_readAll_28 x1 n x2 h = some r → J X ((.inl (some (.int r.1)), r.2)) 28 [(0, .ref 30), (1, .int x1), (2, .int x2)] [] h := by
  intro n
  induction n with
  | zero => intro x2 h hf; exact nomatch hf
  | succ n ih => intro x2 h hf; exact T_X12_readAll_28_s hX hdx x1 _ (fun x2 h hf => ih x2 h hf) x2 h hf
set_option maxRecDepth 100000 in
set_option maxHeartbeats 200000 in
theorem T_X12_readAll_0 {X : CX} (hX : Ok X cX12_readAll 3 RX12 (some .int)) (hdx : dX X = 47) {r : Int32 × Hp} (x1 : Int32) (h : Hp) (hf : f_X12_readAll x1 h = some r) : J X ((.inl (some (.int r.1)), r.2)) 0 [(0, .ref 30), (1, .int x1)] [] h := by
  unfold f_X12_readAll at hf
  refine J_aload_n hX 0 dX12_readAll_0 rfl rfl ?_
  obtain ⟨r_1, e_2, hf⟩ := bdE hf
  refine V_0 hX [] dX12_readAll_1 cw_X12_269 ob_30 rfl (C_X12_uses (okG hX) e_2) (ltD hdx rfl) rfl rfl rfl rfl ?_
  refine J_aload_n hX 0 dX12_readAll_4 rfl rfl ?_
  refine J_iconst hX 0 dX12_readAll_5 rfl ?_
  obtain ⟨h_3, e_4, hf⟩ := bndE hf
  refine J_putI hX dX12_readAll_6 fl_X12_211 fw_10_18 ob_30 rfl rfl rfl ?_
  refine J_nmh e_4 ?_
  refine J_aload_n hX 0 dX12_readAll_9 rfl rfl ?_
  obtain ⟨r_5, e_6, hf⟩ := bdE hf
  refine V_0 hX [] dX12_readAll_10 cw_X12_130 ob_30 rfl (C_X12_blanks (okG hX) e_6) (ltD hdx rfl) rfl rfl rfl rfl ?_
  refine J_aload_n hX 0 dX12_readAll_13 rfl rfl ?_
  refine J_getI hX dX12_readAll_14 fl_X12_117 ob_30 rfl ?_
  refine J_aload_n hX 0 dX12_readAll_17 rfl rfl ?_
  refine J_getI hX dX12_readAll_18 fl_X12_120 ob_30 rfl ?_
  rcases ifE hf with ⟨c_7, hf⟩ | ⟨c_7, hf⟩
  · refine J_icmp_neF hX 26 dX12_readAll_21 rfl c_7 ?_
    refine J_iconst hX 0 dX12_readAll_24 rfl ?_
    exact E_Ii hX dX12_readAll_25 hf
  · refine J_icmp_neT hX 26 dX12_readAll_21 rfl c_7 ?_
    refine J_iconst hX 0 dX12_readAll_26 rfl ?_
    refine J_istore_n hX [(2, .int 0), (0, .ref 30), (1, .int x1)] dX12_readAll_27 rfl rfl rfl ?_
    refine J_sub [1, 2, 0] [(0, .ref 30), (1, .int x1), (2, .int 0)] rfl ?_
    exact T_X12_readAll_28 hX hdx x1 FU 0 r_5 hf
set_option maxRecDepth 100000 in
set_option maxHeartbeats 200000 in
theorem C_X12_readAll {G : GX} (hG : GOk G) {x1 : Int32} {h : Hp} {r : Int32 × Hp} (hf : f_X12_readAll x1 h = some r) : Ctr G 47 yX12_readAll cX12_readAll 3 (some .int) [.ref 30, .int x1] h ((.inl (some (.int r.1)), r.2)) :=
  Ctr_of hG RX12 rfl (by decide) rfl (fun X _ hdx hX => T_X12_readAll_0 hX hdx x1 h hf)
theorem dX12_city_0 : decode cX12_city 0 = .ok (.iconst 0, 1) := by decide +kernel
theorem dX12_city_1 : decode cX12_city 1 = .ok (.istore_n 1, 1) := by decide +kernel
theorem dX12_city_2 : decode cX12_city 2 = .ok (.iload_n 1, 1) := by decide +kernel
theorem dX12_city_3 : decode cX12_city 3 = .ok (.sipush 1341, 3) := by decide +kernel
theorem dX12_city_6 : decode cX12_city 6 = .ok (.if_icmp .ge 21, 3) := by decide +kernel
theorem dX12_city_9 : decode cX12_city 9 = .ok (.aload_n 0, 1) := by decide +kernel
theorem dX12_city_10 : decode cX12_city 10 = .ok (.getfield 20, 3) := by decide +kernel
theorem dX12_city_13 : decode cX12_city 13 = .ok (.iload_n 1, 1) := by decide +kernel
theorem dX12_city_14 : decode cX12_city 14 = .ok (.aload_n 0, 1) := by decide +kernel
theorem dX12_city_15 : decode cX12_city 15 = .ok (.getfield 13, 3) := by decide +kernel
theorem dX12_city_18 : decode cX12_city 18 = .ok (.iload_n 1, 1) := by decide +kernel
theorem dX12_city_19 : decode cX12_city 19 = .ok (.iaload, 1) := by decide +kernel
theorem dX12_city_20 : decode cX12_city 20 = .ok (.iastore, 1) := by decide +kernel
theorem dX12_city_21 : decode cX12_city 21 = .ok (.iinc 1 1, 3) := by decide +kernel
theorem dX12_city_24 : decode cX12_city 24 = .ok (.goto (-22), 3) := by decide +kernel
theorem dX12_city_27 : decode cX12_city 27 = .ok (.aload_n 0, 1) := by decide +kernel
theorem dX12_city_28 : decode cX12_city 28 = .ok (.iconst 1, 1) := by decide +kernel
theorem dX12_city_29 : decode cX12_city 29 = .ok (.invokevirtual 276, 3) := by decide +kernel
theorem dX12_city_32 : decode cX12_city 32 = .ok (.istore_n 1, 1) := by decide +kernel
theorem dX12_city_33 : decode cX12_city 33 = .ok (.aload_n 0, 1) := by decide +kernel
theorem dX12_city_34 : decode cX12_city 34 = .ok (.iload_n 1, 1) := by decide +kernel
theorem dX12_city_35 : decode cX12_city 35 = .ok (.ifCond .ge 10, 3) := by decide +kernel
theorem dX12_city_38 : decode cX12_city 38 = .ok (.aload_n 0, 1) := by decide +kernel
theorem dX12_city_39 : decode cX12_city 39 = .ok (.getfield 127, 3) := by decide +kernel
theorem dX12_city_42 : decode cX12_city 42 = .ok (.goto 4, 3) := by decide +kernel
theorem dX12_city_45 : decode cX12_city 45 = .ok (.iconst (-1), 1) := by decide +kernel
theorem dX12_city_46 : decode cX12_city 46 = .ok (.putfield 39, 3) := by decide +kernel
theorem dX12_city_49 : decode cX12_city 49 = .ok (.aload_n 0, 1) := by decide +kernel
theorem dX12_city_50 : decode cX12_city 50 = .ok (.iload_n 1, 1) := by decide +kernel
theorem dX12_city_51 : decode cX12_city 51 = .ok (.ifCond .ge 7, 3) := by decide +kernel
theorem dX12_city_54 : decode cX12_city 54 = .ok (.iconst 1, 1) := by decide +kernel
theorem dX12_city_55 : decode cX12_city 55 = .ok (.goto 4, 3) := by decide +kernel
theorem dX12_city_58 : decode cX12_city 58 = .ok (.iconst 0, 1) := by decide +kernel
theorem dX12_city_59 : decode cX12_city 59 = .ok (.iconst 1, 1) := by decide +kernel
theorem dX12_city_60 : decode cX12_city 60 = .ok (.invokevirtual 280, 3) := by decide +kernel
theorem dX12_city_63 : decode cX12_city 63 = .ok (.ifCond .ne 27, 3) := by decide +kernel
theorem dX12_city_66 : decode cX12_city 66 = .ok (.aload_n 0, 1) := by decide +kernel
theorem dX12_city_67 : decode cX12_city 67 = .ok (.aload_n 0, 1) := by decide +kernel
theorem dX12_city_68 : decode cX12_city 68 = .ok (.getfield 13, 3) := by decide +kernel
theorem dX12_city_71 : decode cX12_city 71 = .ok (.iconst 2, 1) := by decide +kernel
theorem dX12_city_72 : decode cX12_city 72 = .ok (.iaload, 1) := by decide +kernel
theorem dX12_city_73 : decode cX12_city 73 = .ok (.bipush 12, 2) := by decide +kernel
theorem dX12_city_75 : decode cX12_city 75 = .ok (.if_icmp .ne 7, 3) := by decide +kernel
theorem dX12_city_78 : decode cX12_city 78 = .ok (.iconst 1, 1) := by decide +kernel
theorem dX12_city_79 : decode cX12_city 79 = .ok (.goto 4, 3) := by decide +kernel
theorem dX12_city_82 : decode cX12_city 82 = .ok (.iconst 0, 1) := by decide +kernel
theorem dX12_city_83 : decode cX12_city 83 = .ok (.iconst 2, 1) := by decide +kernel
theorem dX12_city_84 : decode cX12_city 84 = .ok (.invokevirtual 280, 3) := by decide +kernel
theorem dX12_city_87 : decode cX12_city 87 = .ok (.ifCond .eq 32, 3) := by decide +kernel
theorem dX12_city_90 : decode cX12_city 90 = .ok (.iconst 0, 1) := by decide +kernel
theorem dX12_city_91 : decode cX12_city 91 = .ok (.istore_n 2, 1) := by decide +kernel
theorem dX12_city_92 : decode cX12_city 92 = .ok (.iload_n 2, 1) := by decide +kernel
theorem dX12_city_93 : decode cX12_city 93 = .ok (.sipush 1341, 3) := by decide +kernel
theorem dX12_city_96 : decode cX12_city 96 = .ok (.if_icmp .ge 21, 3) := by decide +kernel
theorem dX12_city_99 : decode cX12_city 99 = .ok (.aload_n 0, 1) := by decide +kernel
theorem dX12_city_100 : decode cX12_city 100 = .ok (.getfield 13, 3) := by decide +kernel
theorem dX12_city_103 : decode cX12_city 103 = .ok (.iload_n 2, 1) := by decide +kernel
theorem dX12_city_104 : decode cX12_city 104 = .ok (.aload_n 0, 1) := by decide +kernel
theorem dX12_city_105 : decode cX12_city 105 = .ok (.getfield 20, 3) := by decide +kernel
theorem dX12_city_108 : decode cX12_city 108 = .ok (.iload_n 2, 1) := by decide +kernel
theorem dX12_city_109 : decode cX12_city 109 = .ok (.iaload, 1) := by decide +kernel
theorem dX12_city_110 : decode cX12_city 110 = .ok (.iastore, 1) := by decide +kernel
theorem dX12_city_111 : decode cX12_city 111 = .ok (.iinc 2 1, 3) := by decide +kernel
theorem dX12_city_114 : decode cX12_city 114 = .ok (.goto (-22), 3) := by decide +kernel
theorem dX12_city_117 : decode cX12_city 117 = .ok (.iconst 0, 1) := by decide +kernel
theorem dX12_city_118 : decode cX12_city 118 = .ok (.ireturn, 1) := by decide +kernel
theorem dX12_city_119 : decode cX12_city 119 = .ok (.aload_n 0, 1) := by decide +kernel
theorem dX12_city_120 : decode cX12_city 120 = .ok (.getfield 13, 3) := by decide +kernel
theorem dX12_city_123 : decode cX12_city 123 = .ok (.iconst 2, 1) := by decide +kernel
theorem dX12_city_124 : decode cX12_city 124 = .ok (.dup2, 1) := by decide +kernel
theorem dX12_city_125 : decode cX12_city 125 = .ok (.iaload, 1) := by decide +kernel
theorem dX12_city_126 : decode cX12_city 126 = .ok (.iconst 1, 1) := by decide +kernel
theorem dX12_city_127 : decode cX12_city 127 = .ok (.iadd, 1) := by decide +kernel
theorem dX12_city_128 : decode cX12_city 128 = .ok (.iastore, 1) := by decide +kernel
theorem dX12_city_129 : decode cX12_city 129 = .ok (.aload_n 0, 1) := by decide +kernel
theorem dX12_city_130 : decode cX12_city 130 = .ok (.iconst 0, 1) := by decide +kernel
theorem dX12_city_131 : decode cX12_city 131 = .ok (.putfield 71, 3) := by decide +kernel
theorem dX12_city_134 : decode cX12_city 134 = .ok (.aload_n 0, 1) := by decide +kernel
theorem dX12_city_135 : decode cX12_city 135 = .ok (.getfield 13, 3) := by decide +kernel
theorem dX12_city_138 : decode cX12_city 138 = .ok (.iconst 2, 1) := by decide +kernel
theorem dX12_city_139 : decode cX12_city 139 = .ok (.iaload, 1) := by decide +kernel
theorem dX12_city_140 : decode cX12_city 140 = .ok (.ireturn, 1) := by decide +kernel
set_option maxRecDepth 100000 in
set_option maxHeartbeats 200000 in
theorem T_X12_city_92_s {X : CX} (hX : Ok X cX12_city 3 RX12 (some .int)) (hdx : dX X = 48) {r : Int32 × Hp} (q_92 : Int32 → Hp → Option (Int32 × Hp)) (hq_92 : ∀ (x2 : Int32) (h : Hp), q_92 x2 h = some r → J X ((.inl (some (.int r.1)), r.2)) 92 [(0, .ref 30), (2, .int x2)] [] h) (x2 : Int32) (h : Hp) (hf : S_X12_city_92 q_92 x2 h = some r) : J X ((.inl (some (.int r.1)), r.2)) 92 [(0, .ref 30), (2, .int x2)] [] h := by
  unfold S_X12_city_92 at hf
  refine J_iload_n hX 1 dX12_city_92 rfl rfl ?_
  refine J_sipush hX 1341 dX12_city_93 rfl ?_
  rcases ifE hf with ⟨c_1, hf⟩ | ⟨c_1, hf⟩
  · refine J_icmp_geF hX 117 dX12_city_96 rfl c_1 ?_
    refine J_aload_n hX 0 dX12_city_99 rfl rfl ?_
    refine J_getR hX 31 dX12_city_100 fl_X12_13 ob_30 rfl rfl ?_
    refine J_iload_n hX 1 dX12_city_103 rfl rfl ?_
    refine J_aload_n hX 0 dX12_city_104 rfl rfl ?_
    refine J_getR hX 33 dX12_city_105 fl_X12_20 ob_30 rfl rfl ?_
    refine J_iload_n hX 1 dX12_city_108 rfl rfl ?_
    obtain ⟨g_2, hf⟩ := gdE hf
    refine J_ald hX x2.toNatClampNeg dX12_city_109 ar_33 (Or.inl ⟨rfl, rfl⟩) g_2 rfl ?_
    obtain ⟨g_3, hf⟩ := gdE hf
    obtain ⟨h_4, e_5, hf⟩ := bndE hf
    refine J_ast hX x2.toNatClampNeg (h 33 x2.toNatClampNeg) dX12_city_110 ar_31 (Or.inl ⟨rfl, rfl, rfl⟩) g_3 rfl ?_
    refine J_nmh e_5 ?_
    refine J_iinc hX (x2 + 1) 1 [(2, .int (x2 + 1)), (0, .ref 30)] dX12_city_111 rfl rfl rfl rfl ?_
    refine J_goto hX 92 dX12_city_114 rfl ?_
    refine J_sub [1, 0] [(0, .ref 30), (2, .int (x2 + 1))] rfl ?_
    exact hq_92 (x2 + 1) h_4 hf
  · refine J_icmp_geT hX 117 dX12_city_96 rfl c_1 ?_
    refine J_iconst hX 0 dX12_city_117 rfl ?_
    exact E_Ii hX dX12_city_118 hf
set_option maxRecDepth 100000 in
set_option maxHeartbeats 200000 in
theorem T_X12_city_92 {X : CX} (hX : Ok X cX12_city 3 RX12 (some .int)) (hdx : dX X = 48) {r : Int32 × Hp} : ∀ (n : Nat) (x2 : Int32) (h : Hp), F_X12_city_92 n x2 h = some r → J X ((.inl (some (.int r.1)), r.2)) 92 [(0, .ref 30), (2, .int x2)] [] h := by
  intro n
  induction n with
  | zero => intro x2 h hf; exact nomatch hf
  | succ n ih => intro x2 h hf; exact T_X12_city_92_s hX hdx _ (fun x2 h hf => ih x2 h hf) x2 h hf
set_option maxRecDepth 100000 in
set_option maxHeartbeats 200000 in
theorem T_X12_city_83 {X : CX} (hX : Ok X cX12_city 3 RX12 (some .int)) (hdx : dX X = 48) {r : Int32 × Hp} (t0 : Int32) (h : Hp) (hf : F_X12_city_83 t0 h = some r) : J X ((.inl (some (.int r.1)), r.2)) 83 [(0, .ref 30)] [.int t0, .ref 30] h := by
  unfold F_X12_city_83 at hf
  refine J_iconst hX 2 dX12_city_83 rfl ?_
  obtain ⟨r_1, e_2, hf⟩ := bdE hf
  refine V_1 hX [.int t0, .int 2] dX12_city_84 cw_X12_280 ob_30 rfl (C_X12_throwsIf (okG hX) e_2) (ltD hdx rfl) rfl rfl rfl rfl ?_
  rcases ifE hf with ⟨c_3, hf⟩ | ⟨c_3, hf⟩
  · refine J_if_eqF hX 119 dX12_city_87 rfl (b2iT c_3) ?_
    refine J_iconst hX 0 dX12_city_90 rfl ?_
    refine J_istore_n hX [(2, .int 0), (0, .ref 30)] dX12_city_91 rfl rfl rfl ?_
    refine J_sub [1, 0] [(0, .ref 30), (2, .int 0)] rfl ?_
    exact T_X12_city_92 hX hdx FU 0 r_1.2 hf
  · refine J_if_eqT hX 119 dX12_city_87 rfl (b2iF c_3) ?_
    refine J_aload_n hX 0 dX12_city_119 rfl rfl ?_
    refine J_getR hX 31 dX12_city_120 fl_X12_13 ob_30 rfl rfl ?_
    refine J_iconst hX 2 dX12_city_123 rfl ?_
    refine J_dup2 hX dX12_city_124 rfl rfl ?_
    refine J_ald hX 2 dX12_city_125 ar_31 (Or.inl ⟨rfl, rfl⟩) (by decide) (by decide) ?_
    refine J_iconst hX 1 dX12_city_126 rfl ?_
    refine J_iadd hX dX12_city_127 ?_
    obtain ⟨h_4, e_5, hf⟩ := bndE hf
    refine J_ast hX 2 ((r_1.2 31 2) + 1) dX12_city_128 ar_31 (Or.inl ⟨rfl, rfl, rfl⟩) (by decide) (by decide) ?_
    refine J_nmh e_5 ?_
    refine J_aload_n hX 0 dX12_city_129 rfl rfl ?_
    refine J_iconst hX 0 dX12_city_130 rfl ?_
    obtain ⟨h_6, e_7, hf⟩ := bndE hf
    refine J_putI hX dX12_city_131 fl_X12_71 fw_10_7 ob_30 rfl rfl rfl ?_
    refine J_nmh e_7 ?_
    refine J_aload_n hX 0 dX12_city_134 rfl rfl ?_
    refine J_getR hX 31 dX12_city_135 fl_X12_13 ob_30 rfl rfl ?_
    refine J_iconst hX 2 dX12_city_138 rfl ?_
    refine J_ald hX 2 dX12_city_139 ar_31 (Or.inl ⟨rfl, rfl⟩) (by decide) (by decide) ?_
    exact E_Ii hX dX12_city_140 hf
set_option maxRecDepth 100000 in
set_option maxHeartbeats 200000 in
theorem T_X12_city_59 {X : CX} (hX : Ok X cX12_city 3 RX12 (some .int)) (hdx : dX X = 48) {r : Int32 × Hp} (t0 : Int32) (h : Hp) (hf : F_X12_city_59 t0 h = some r) : J X ((.inl (some (.int r.1)), r.2)) 59 [(0, .ref 30)] [.int t0, .ref 30] h := by
  unfold F_X12_city_59 at hf
  refine J_iconst hX 1 dX12_city_59 rfl ?_
  obtain ⟨r_1, e_2, hf⟩ := bdE hf
  refine V_1 hX [.int t0, .int 1] dX12_city_60 cw_X12_280 ob_30 rfl (C_X12_throwsIf (okG hX) e_2) (ltD hdx rfl) rfl rfl rfl rfl ?_
  rcases ifE hf with ⟨c_3, hf⟩ | ⟨c_3, hf⟩
  · refine J_if_neT hX 90 dX12_city_63 rfl (b2iT c_3) ?_
    refine J_iconst hX 0 dX12_city_90 rfl ?_
    refine J_istore_n hX [(2, .int 0), (0, .ref 30)] dX12_city_91 rfl rfl rfl ?_
    refine J_sub [1, 0] [(0, .ref 30), (2, .int 0)] rfl ?_
    exact T_X12_city_92 hX hdx FU 0 r_1.2 hf
  · refine J_if_neF hX 90 dX12_city_63 rfl (b2iF c_3) ?_
    refine J_aload_n hX 0 dX12_city_66 rfl rfl ?_
    refine J_aload_n hX 0 dX12_city_67 rfl rfl ?_
    refine J_getR hX 31 dX12_city_68 fl_X12_13 ob_30 rfl rfl ?_
    refine J_iconst hX 2 dX12_city_71 rfl ?_
    refine J_ald hX 2 dX12_city_72 ar_31 (Or.inl ⟨rfl, rfl⟩) (by decide) (by decide) ?_
    refine J_bipush hX 12 dX12_city_73 rfl ?_
    rcases ifE hf with ⟨c_4, hf⟩ | ⟨c_4, hf⟩
    · refine J_icmp_neF hX 82 dX12_city_75 rfl c_4 ?_
      refine J_iconst hX 1 dX12_city_78 rfl ?_
      refine J_goto hX 83 dX12_city_79 rfl ?_
      exact T_X12_city_83 hX hdx 1 r_1.2 hf
    · refine J_icmp_neT hX 82 dX12_city_75 rfl c_4 ?_
      refine J_iconst hX 0 dX12_city_82 rfl ?_
      exact T_X12_city_83 hX hdx 0 r_1.2 hf
set_option maxRecDepth 100000 in
set_option maxHeartbeats 200000 in
theorem T_X12_city_46 {X : CX} (hX : Ok X cX12_city 3 RX12 (some .int)) (hdx : dX X = 48) {r : Int32 × Hp} (x1 : Int32) (t0 : Int32) (h : Hp) (hf : F_X12_city_46 x1 t0 h = some r) : J X ((.inl (some (.int r.1)), r.2)) 46 [(0, .ref 30), (1, .int x1)] [.int t0, .ref 30] h := by
  unfold F_X12_city_46 at hf
  obtain ⟨h_1, e_2, hf⟩ := bndE hf
  refine J_putI hX dX12_city_46 fl_X12_39 fw_10_16 ob_30 rfl rfl rfl ?_
  refine J_nmh e_2 ?_
  refine J_aload_n hX 0 dX12_city_49 rfl rfl ?_
  refine J_iload_n hX 1 dX12_city_50 rfl rfl ?_
  rcases ifE hf with ⟨c_3, hf⟩ | ⟨c_3, hf⟩
  · refine J_if_geF hX 58 dX12_city_51 rfl c_3 ?_
    refine J_iconst hX 1 dX12_city_54 rfl ?_
    refine J_goto hX 59 dX12_city_55 rfl ?_
    refine J_sub [0] [(0, .ref 30)] rfl ?_
    exact T_X12_city_59 hX hdx 1 h_1 hf
  · refine J_if_geT hX 58 dX12_city_51 rfl c_3 ?_
    refine J_iconst hX 0 dX12_city_58 rfl ?_
    refine J_sub [0] [(0, .ref 30)] rfl ?_
    exact T_X12_city_59 hX hdx 0 h_1 hf
set_option maxRecDepth 100000 in
set_option maxHeartbeats 200000 in
theorem T_X12_city_2_s {X : CX} (hX : Ok X cX12_city 3 RX12 (some .int)) (hdx : dX X = 48) {r : Int32 × Hp} (q_2 : Int32 → Hp → Option (Int32 × Hp)) (hq_2 : ∀ (x1 : Int32) (h : Hp), q_2 x1 h = some r → J X ((.inl (some (.int r.1)), r.2)) 2 [(0, .ref 30), (1, .int x1)] [] h) (x1 : Int32) (h : Hp) (hf : S_X12_city_2 q_2 x1 h = some r) : J X ((.inl (some (.int r.1)), r.2)) 2 [(0, .ref 30), (1, .int x1)] [] h := by
  unfold S_X12_city_2 at hf
  refine J_iload_n hX 1 dX12_city_2 rfl rfl ?_
  refine J_sipush hX 1341 dX12_city_3 rfl ?_
  rcases ifE hf with ⟨c_1, hf⟩ | ⟨c_1, hf⟩
  · refine J_icmp_geF hX 27 dX12_city_6 rfl c_1 ?_
    refine J_aload_n hX 0 dX12_city_9 rfl rfl ?_
    refine J_getR hX 33 dX12_city_10 fl_X12_20 ob_30 rfl rfl ?_
    refine J_iload_n hX 1 dX12_city_13 rfl rfl ?_
    refine J_aload_n hX 0 dX12_city_14 rfl rfl ?_
    refine J_getR hX 31 dX12_city_15 fl_X12_13 ob_30 rfl rfl ?_
    refine J_iload_n hX 1 dX12_city_18 rfl rfl ?_
    obtain ⟨g_2, hf⟩ := gdE hf
    refine J_ald hX x1.toNatClampNeg dX12_city_19 ar_31 (Or.inl ⟨rfl, rfl⟩) g_2 rfl ?_
    obtain ⟨g_3, hf⟩ := gdE hf
    obtain ⟨h_4, e_5, hf⟩ := bndE hf
    refine J_ast hX x1.toNatClampNeg (h 31 x1.toNatClampNeg) dX12_city_20 ar_33 (Or.inl ⟨rfl, rfl, rfl⟩) g_3 rfl ?_
    refine J_nmh e_5 ?_
    refine J_iinc hX (x1 + 1) 1 [(1, .int (x1 + 1)), (0, .ref 30)] dX12_city_21 rfl rfl rfl rfl ?_
    refine J_goto hX 2 dX12_city_24 rfl ?_
    refine J_sub [1, 0] [(0, .ref 30), (1, .int (x1 + 1))] rfl ?_
    exact hq_2 (x1 + 1) h_4 hf
  · refine J_icmp_geT hX 27 dX12_city_6 rfl c_1 ?_
    refine J_aload_n hX 0 dX12_city_27 rfl rfl ?_
    refine J_iconst hX 1 dX12_city_28 rfl ?_
    obtain ⟨r_6, e_7, hf⟩ := bdE hf
    refine V_1 hX [.int 1] dX12_city_29 cw_X12_276 ob_30 rfl (C_X12_readAll (okG hX) e_7) (ltD hdx rfl) rfl rfl rfl rfl ?_
    refine J_istore_n hX [(1, .int r_6.1), (0, .ref 30)] dX12_city_32 rfl rfl rfl ?_
    refine J_aload_n hX 1 dX12_city_33 rfl rfl ?_
    refine J_iload_n hX 0 dX12_city_34 rfl rfl ?_
    rcases ifE hf with ⟨c_8, hf⟩ | ⟨c_8, hf⟩
    · refine J_if_geF hX 45 dX12_city_35 rfl c_8 ?_
      refine J_aload_n hX 1 dX12_city_38 rfl rfl ?_
      refine J_getI hX dX12_city_39 fl_X12_127 ob_30 rfl ?_
      refine J_goto hX 46 dX12_city_42 rfl ?_
      refine J_sub [1, 0] [(0, .ref 30), (1, .int r_6.1)] rfl ?_
      exact T_X12_city_46 hX hdx r_6.1 (r_6.2 30 14) r_6.2 hf
    · refine J_if_geT hX 45 dX12_city_35 rfl c_8 ?_
      refine J_iconst hX (-1) dX12_city_45 rfl ?_
      refine J_sub [1, 0] [(0, .ref 30), (1, .int r_6.1)] rfl ?_
      exact T_X12_city_46 hX hdx r_6.1 (-1) r_6.2 hf
set_option maxRecDepth 100000 in
set_option maxHeartbeats 200000 in
theorem T_X12_city_2 {X : CX} (hX : Ok X cX12_city 3 RX12 (some .int)) (hdx : dX X = 48) {r : Int32 × Hp} : ∀ (n : Nat) (x1 : Int32) (h : Hp), F_X12_city_2 n x1 h = some r → J X ((.inl (some (.int r.1)), r.2)) 2 [(0, .ref 30), (1, .int x1)] [] h := by
  intro n
  induction n with
  | zero => intro x1 h hf; exact nomatch hf
  | succ n ih => intro x1 h hf; exact T_X12_city_2_s hX hdx _ (fun x1 h hf => ih x1 h hf) x1 h hf
set_option maxRecDepth 100000 in
set_option maxHeartbeats 200000 in
theorem T_X12_city_0 {X : CX} (hX : Ok X cX12_city 3 RX12 (some .int)) (hdx : dX X = 48) {r : Int32 × Hp} (h : Hp) (hf : f_X12_city h = some r) : J X ((.inl (some (.int r.1)), r.2)) 0 [(0, .ref 30)] [] h := by
  unfold f_X12_city at hf
  refine J_iconst hX 0 dX12_city_0 rfl ?_
  refine J_istore_n hX [(1, .int 0), (0, .ref 30)] dX12_city_1 rfl rfl rfl ?_
  refine J_sub [1, 0] [(0, .ref 30), (1, .int 0)] rfl ?_
  exact T_X12_city_2 hX hdx FU 0 h hf
set_option maxRecDepth 100000 in
set_option maxHeartbeats 200000 in
theorem C_X12_city {G : GX} (hG : GOk G) {h : Hp} {r : Int32 × Hp} (hf : f_X12_city h = some r) : Ctr G 48 yX12_city cX12_city 3 (some .int) [.ref 30] h ((.inl (some (.int r.1)), r.2)) :=
  Ctr_of hG RX12 rfl (by decide) rfl (fun X _ hdx hX => T_X12_city_0 hX hdx h hf)
theorem dX12_law_0 : decode cX12_law 0 = .ok (.aload_n 0, 1) := by decide +kernel
theorem dX12_law_1 : decode cX12_law 1 = .ok (.iconst 0, 1) := by decide +kernel
theorem dX12_law_2 : decode cX12_law 2 = .ok (.invokevirtual 276, 3) := by decide +kernel
theorem dX12_law_5 : decode cX12_law 5 = .ok (.istore_n 1, 1) := by decide +kernel
theorem dX12_law_6 : decode cX12_law 6 = .ok (.aload_n 0, 1) := by decide +kernel
theorem dX12_law_7 : decode cX12_law 7 = .ok (.iload_n 1, 1) := by decide +kernel
theorem dX12_law_8 : decode cX12_law 8 = .ok (.ifCond .ge 10, 3) := by decide +kernel
theorem dX12_law_11 : decode cX12_law 11 = .ok (.aload_n 0, 1) := by decide +kernel
theorem dX12_law_12 : decode cX12_law 12 = .ok (.getfield 127, 3) := by decide +kernel
theorem dX12_law_15 : decode cX12_law 15 = .ok (.goto 4, 3) := by decide +kernel
theorem dX12_law_18 : decode cX12_law 18 = .ok (.iconst (-1), 1) := by decide +kernel
theorem dX12_law_19 : decode cX12_law 19 = .ok (.putfield 39, 3) := by decide +kernel
theorem dX12_law_22 : decode cX12_law 22 = .ok (.aload_n 0, 1) := by decide +kernel
theorem dX12_law_23 : decode cX12_law 23 = .ok (.iload_n 1, 1) := by decide +kernel
theorem dX12_law_24 : decode cX12_law 24 = .ok (.ifCond .ge 7, 3) := by decide +kernel
theorem dX12_law_27 : decode cX12_law 27 = .ok (.iconst 1, 1) := by decide +kernel
theorem dX12_law_28 : decode cX12_law 28 = .ok (.goto 4, 3) := by decide +kernel
theorem dX12_law_31 : decode cX12_law 31 = .ok (.iconst 0, 1) := by decide +kernel
theorem dX12_law_32 : decode cX12_law 32 = .ok (.iconst 1, 1) := by decide +kernel
theorem dX12_law_33 : decode cX12_law 33 = .ok (.invokevirtual 280, 3) := by decide +kernel
theorem dX12_law_36 : decode cX12_law 36 = .ok (.ifCond .eq 5, 3) := by decide +kernel
theorem dX12_law_39 : decode cX12_law 39 = .ok (.iconst 0, 1) := by decide +kernel
theorem dX12_law_40 : decode cX12_law 40 = .ok (.ireturn, 1) := by decide +kernel
theorem dX12_law_41 : decode cX12_law 41 = .ok (.aload_n 0, 1) := by decide +kernel
theorem dX12_law_42 : decode cX12_law 42 = .ok (.getfield 13, 3) := by decide +kernel
theorem dX12_law_45 : decode cX12_law 45 = .ok (.sipush 1341, 3) := by decide +kernel
theorem dX12_law_48 : decode cX12_law 48 = .ok (.iload_n 1, 1) := by decide +kernel
theorem dX12_law_49 : decode cX12_law 49 = .ok (.iastore, 1) := by decide +kernel
theorem dX12_law_50 : decode cX12_law 50 = .ok (.iconst 0, 1) := by decide +kernel
theorem dX12_law_51 : decode cX12_law 51 = .ok (.istore_n 2, 1) := by decide +kernel
theorem dX12_law_52 : decode cX12_law 52 = .ok (.iload_n 2, 1) := by decide +kernel
theorem dX12_law_53 : decode cX12_law 53 = .ok (.sipush 849, 3) := by decide +kernel
theorem dX12_law_56 : decode cX12_law 56 = .ok (.if_icmp .ge 29, 3) := by decide +kernel
theorem dX12_law_59 : decode cX12_law 59 = .ok (.aload_n 0, 1) := by decide +kernel
theorem dX12_law_60 : decode cX12_law 60 = .ok (.getfield 13, 3) := by decide +kernel
theorem dX12_law_63 : decode cX12_law 63 = .ok (.sipush 492, 3) := by decide +kernel
theorem dX12_law_66 : decode cX12_law 66 = .ok (.iload_n 2, 1) := by decide +kernel
theorem dX12_law_67 : decode cX12_law 67 = .ok (.iadd, 1) := by decide +kernel
theorem dX12_law_68 : decode cX12_law 68 = .ok (.aload_n 0, 1) := by decide +kernel
theorem dX12_law_69 : decode cX12_law 69 = .ok (.getfield 13, 3) := by decide +kernel
theorem dX12_law_72 : decode cX12_law 72 = .ok (.sipush 1341, 3) := by decide +kernel
theorem dX12_law_75 : decode cX12_law 75 = .ok (.iload_n 2, 1) := by decide +kernel
theorem dX12_law_76 : decode cX12_law 76 = .ok (.iadd, 1) := by decide +kernel
theorem dX12_law_77 : decode cX12_law 77 = .ok (.iaload, 1) := by decide +kernel
theorem dX12_law_78 : decode cX12_law 78 = .ok (.iastore, 1) := by decide +kernel
theorem dX12_law_79 : decode cX12_law 79 = .ok (.iinc 2 1, 3) := by decide +kernel
theorem dX12_law_82 : decode cX12_law 82 = .ok (.goto (-30), 3) := by decide +kernel
theorem dX12_law_85 : decode cX12_law 85 = .ok (.aload_n 0, 1) := by decide +kernel
theorem dX12_law_86 : decode cX12_law 86 = .ok (.getfield 13, 3) := by decide +kernel
theorem dX12_law_89 : decode cX12_law 89 = .ok (.iconst 3, 1) := by decide +kernel
theorem dX12_law_90 : decode cX12_law 90 = .ok (.iconst 1, 1) := by decide +kernel
theorem dX12_law_91 : decode cX12_law 91 = .ok (.iastore, 1) := by decide +kernel
theorem dX12_law_92 : decode cX12_law 92 = .ok (.aload_n 0, 1) := by decide +kernel
theorem dX12_law_93 : decode cX12_law 93 = .ok (.iconst 0, 1) := by decide +kernel
theorem dX12_law_94 : decode cX12_law 94 = .ok (.putfield 71, 3) := by decide +kernel
theorem dX12_law_97 : decode cX12_law 97 = .ok (.iload_n 1, 1) := by decide +kernel
theorem dX12_law_98 : decode cX12_law 98 = .ok (.ireturn, 1) := by decide +kernel
set_option maxRecDepth 100000 in
set_option maxHeartbeats 200000 in
theorem T_X12_law_52_s {X : CX} (hX : Ok X cX12_law 3 RX12 (some .int)) (hdx : dX X = 48) {r : Int32 × Hp} (x1 : Int32) (q_52 : Int32 → Hp → Option (Int32 × Hp)) (hq_52 : ∀ (x2 : Int32) (h : Hp), q_52 x2 h = some r → J X ((.inl (some (.int r.1)), r.2)) 52 [(0, .ref 30), (1, .int x1), (2, .int x2)] [] h) (x2 : Int32) (h : Hp) (hf : S_X12_law_52 x1 q_52 x2 h = some r) : J X ((.inl (some (.int r.1)), r.2)) 52 [(0, .ref 30), (1, .int x1), (2, .int x2)] [] h := by
  unfold S_X12_law_52 at hf
  refine J_iload_n hX 2 dX12_law_52 rfl rfl ?_
  refine J_sipush hX 849 dX12_law_53 rfl ?_
  rcases ifE hf with ⟨c_1, hf⟩ | ⟨c_1, hf⟩
  · refine J_icmp_geF hX 85 dX12_law_56 rfl c_1 ?_
    refine J_aload_n hX 0 dX12_law_59 rfl rfl ?_
    refine J_getR hX 31 dX12_law_60 fl_X12_13 ob_30 rfl rfl ?_
    refine J_sipush hX 492 dX12_law_63 rfl ?_
    refine J_iload_n hX 2 dX12_law_66 rfl rfl ?_
    refine J_iadd hX dX12_law_67 ?_
    refine J_aload_n hX 0 dX12_law_68 rfl rfl ?_
    refine J_getR hX 31 dX12_law_69 fl_X12_13 ob_30 rfl rfl ?_
    refine J_sipush hX 1341 dX12_law_72 rfl ?_
    refine J_iload_n hX 2 dX12_law_75 rfl rfl ?_
    refine J_iadd hX dX12_law_76 ?_
    obtain ⟨g_2, hf⟩ := gdE hf
    refine J_ald hX ((1341 + x2).toNatClampNeg) dX12_law_77 ar_31 (Or.inl ⟨rfl, rfl⟩) g_2 rfl ?_
    obtain ⟨g_3, hf⟩ := gdE hf
    obtain ⟨h_4, e_5, hf⟩ := bndE hf
    refine J_ast hX ((492 + x2).toNatClampNeg) (h 31 ((1341 + x2).toNatClampNeg)) dX12_law_78 ar_31 (Or.inl ⟨rfl, rfl, rfl⟩) g_3 rfl ?_
    refine J_nmh e_5 ?_
    refine J_iinc hX (x2 + 1) 2 [(2, .int (x2 + 1)), (0, .ref 30), (1, .int x1)] dX12_law_79 rfl rfl rfl rfl ?_
    refine J_goto hX 52 dX12_law_82 rfl ?_
    refine J_sub [1, 2, 0] [(0, .ref 30), (1, .int x1), (2, .int (x2 + 1))] rfl ?_
    exact hq_52 (x2 + 1) h_4 hf
  · refine J_icmp_geT hX 85 dX12_law_56 rfl c_1 ?_
    refine J_aload_n hX 0 dX12_law_85 rfl rfl ?_
    refine J_getR hX 31 dX12_law_86 fl_X12_13 ob_30 rfl rfl ?_
    refine J_iconst hX 3 dX12_law_89 rfl ?_
    refine J_iconst hX 1 dX12_law_90 rfl ?_
    obtain ⟨h_6, e_7, hf⟩ := bndE hf
    refine J_ast hX 3 1 dX12_law_91 ar_31 (Or.inl ⟨rfl, rfl, rfl⟩) (by decide) (by decide) ?_
    refine J_nmh e_7 ?_
    refine J_aload_n hX 0 dX12_law_92 rfl rfl ?_
    refine J_iconst hX 0 dX12_law_93 rfl ?_
    obtain ⟨h_8, e_9, hf⟩ := bndE hf
    refine J_putI hX dX12_law_94 fl_X12_71 fw_10_7 ob_30 rfl rfl rfl ?_
    refine J_nmh e_9 ?_
    refine J_iload_n hX 1 dX12_law_97 rfl rfl ?_
    exact E_Ii hX dX12_law_98 hf
set_option maxRecDepth 100000 in
set_option maxHeartbeats 200000 in
theorem T_X12_law_52 {X : CX} (hX : Ok X cX12_law 3 RX12 (some .int)) (hdx : dX X = 48) {r : Int32 × Hp} (x1 : Int32) : ∀ (n : Nat) (x2 : Int32) (h : Hp), F_X12_law_52 x1 n x2 h = some r → J X ((.inl (some (.int r.1)), r.2)) 52 [(0, .ref 30), (1, .int x1), (2, .int x2)] [] h := by
  intro n
  induction n with
  | zero => intro x2 h hf; exact nomatch hf
  | succ n ih => intro x2 h hf; exact T_X12_law_52_s hX hdx x1 _ (fun x2 h hf => ih x2 h hf) x2 h hf
set_option maxRecDepth 100000 in
set_option maxHeartbeats 200000 in
theorem T_X12_law_32 {X : CX} (hX : Ok X cX12_law 3 RX12 (some .int)) (hdx : dX X = 48) {r : Int32 × Hp} (x1 : Int32) (t0 : Int32) (h : Hp) (hf : F_X12_law_32 x1 t0 h = some r) : J X ((.inl (some (.int r.1)), r.2)) 32 [(0, .ref 30), (1, .int x1)] [.int t0, .ref 30] h := by
  unfold F_X12_law_32 at hf
  refine J_iconst hX 1 dX12_law_32 rfl ?_
  obtain ⟨r_1, e_2, hf⟩ := bdE hf
  refine V_1 hX [.int t0, .int 1] dX12_law_33 cw_X12_280 ob_30 rfl (C_X12_throwsIf (okG hX) e_2) (ltD hdx rfl) rfl rfl rfl rfl ?_
  rcases ifE hf with ⟨c_3, hf⟩ | ⟨c_3, hf⟩
  · refine J_if_eqF hX 41 dX12_law_36 rfl (b2iT c_3) ?_
    refine J_iconst hX 0 dX12_law_39 rfl ?_
    exact E_Ii hX dX12_law_40 hf
  · refine J_if_eqT hX 41 dX12_law_36 rfl (b2iF c_3) ?_
    refine J_aload_n hX 0 dX12_law_41 rfl rfl ?_
    refine J_getR hX 31 dX12_law_42 fl_X12_13 ob_30 rfl rfl ?_
    refine J_sipush hX 1341 dX12_law_45 rfl ?_
    refine J_iload_n hX 1 dX12_law_48 rfl rfl ?_
    obtain ⟨h_4, e_5, hf⟩ := bndE hf
    refine J_ast hX 1341 x1 dX12_law_49 ar_31 (Or.inl ⟨rfl, rfl, rfl⟩) (by decide) (by decide) ?_
    refine J_nmh e_5 ?_
    refine J_iconst hX 0 dX12_law_50 rfl ?_
    refine J_istore_n hX [(2, .int 0), (0, .ref 30), (1, .int x1)] dX12_law_51 rfl rfl rfl ?_
    refine J_sub [1, 2, 0] [(0, .ref 30), (1, .int x1), (2, .int 0)] rfl ?_
    exact T_X12_law_52 hX hdx x1 FU 0 h_4 hf
set_option maxRecDepth 100000 in
set_option maxHeartbeats 200000 in
theorem T_X12_law_19 {X : CX} (hX : Ok X cX12_law 3 RX12 (some .int)) (hdx : dX X = 48) {r : Int32 × Hp} (x1 : Int32) (t0 : Int32) (h : Hp) (hf : F_X12_law_19 x1 t0 h = some r) : J X ((.inl (some (.int r.1)), r.2)) 19 [(0, .ref 30), (1, .int x1)] [.int t0, .ref 30] h := by
  unfold F_X12_law_19 at hf
  obtain ⟨h_1, e_2, hf⟩ := bndE hf
  refine J_putI hX dX12_law_19 fl_X12_39 fw_10_16 ob_30 rfl rfl rfl ?_
  refine J_nmh e_2 ?_
  refine J_aload_n hX 0 dX12_law_22 rfl rfl ?_
  refine J_iload_n hX 1 dX12_law_23 rfl rfl ?_
  rcases ifE hf with ⟨c_3, hf⟩ | ⟨c_3, hf⟩
  · refine J_if_geF hX 31 dX12_law_24 rfl c_3 ?_
    refine J_iconst hX 1 dX12_law_27 rfl ?_
    refine J_goto hX 32 dX12_law_28 rfl ?_
    exact T_X12_law_32 hX hdx x1 1 h_1 hf
  · refine J_if_geT hX 31 dX12_law_24 rfl c_3 ?_
    refine J_iconst hX 0 dX12_law_31 rfl ?_
    exact T_X12_law_32 hX hdx x1 0 h_1 hf
set_option maxRecDepth 100000 in
set_option maxHeartbeats 200000 in
theorem T_X12_law_0 {X : CX} (hX : Ok X cX12_law 3 RX12 (some .int)) (hdx : dX X = 48) {r : Int32 × Hp} (h : Hp) (hf : f_X12_law h = some r) : J X ((.inl (some (.int r.1)), r.2)) 0 [(0, .ref 30)] [] h := by
  unfold f_X12_law at hf
  refine J_aload_n hX 0 dX12_law_0 rfl rfl ?_
  refine J_iconst hX 0 dX12_law_1 rfl ?_
  obtain ⟨r_1, e_2, hf⟩ := bdE hf
  refine V_1 hX [.int 0] dX12_law_2 cw_X12_276 ob_30 rfl (C_X12_readAll (okG hX) e_2) (ltD hdx rfl) rfl rfl rfl rfl ?_
  refine J_istore_n hX [(1, .int r_1.1), (0, .ref 30)] dX12_law_5 rfl rfl rfl ?_
  refine J_aload_n hX 1 dX12_law_6 rfl rfl ?_
  refine J_iload_n hX 0 dX12_law_7 rfl rfl ?_
  rcases ifE hf with ⟨c_3, hf⟩ | ⟨c_3, hf⟩
  · refine J_if_geF hX 18 dX12_law_8 rfl c_3 ?_
    refine J_aload_n hX 1 dX12_law_11 rfl rfl ?_
    refine J_getI hX dX12_law_12 fl_X12_127 ob_30 rfl ?_
    refine J_goto hX 19 dX12_law_15 rfl ?_
    refine J_sub [1, 0] [(0, .ref 30), (1, .int r_1.1)] rfl ?_
    exact T_X12_law_19 hX hdx r_1.1 (r_1.2 30 14) r_1.2 hf
  · refine J_if_geT hX 18 dX12_law_8 rfl c_3 ?_
    refine J_iconst hX (-1) dX12_law_18 rfl ?_
    refine J_sub [1, 0] [(0, .ref 30), (1, .int r_1.1)] rfl ?_
    exact T_X12_law_19 hX hdx r_1.1 (-1) r_1.2 hf
set_option maxRecDepth 100000 in
set_option maxHeartbeats 200000 in
theorem C_X12_law {G : GX} (hG : GOk G) {h : Hp} {r : Int32 × Hp} (hf : f_X12_law h = some r) : Ctr G 48 yX12_law cX12_law 3 (some .int) [.ref 30] h ((.inl (some (.int r.1)), r.2)) :=
  Ctr_of hG RX12 rfl (by decide) rfl (fun X _ hdx hX => T_X12_law_0 hX hdx h hf)
theorem dX12_isThere_0 : decode cX12_isThere 0 = .ok (.aload_n 0, 1) := by decide +kernel
theorem dX12_isThere_1 : decode cX12_isThere 1 = .ok (.iload_n 1, 1) := by decide +kernel
theorem dX12_isThere_2 : decode cX12_isThere 2 = .ok (.iconst 0, 1) := by decide +kernel
theorem dX12_isThere_3 : decode cX12_isThere 3 = .ok (.invokevirtual 283, 3) := by decide +kernel
theorem dX12_isThere_6 : decode cX12_isThere 6 = .ok (.iload_n 2, 1) := by decide +kernel
theorem dX12_isThere_7 : decode cX12_isThere 7 = .ok (.if_icmp .ne 23, 3) := by decide +kernel
theorem dX12_isThere_10 : decode cX12_isThere 10 = .ok (.aload_n 0, 1) := by decide +kernel
theorem dX12_isThere_11 : decode cX12_isThere 11 = .ok (.iload_n 1, 1) := by decide +kernel
theorem dX12_isThere_12 : decode cX12_isThere 12 = .ok (.iconst 2, 1) := by decide +kernel
theorem dX12_isThere_13 : decode cX12_isThere 13 = .ok (.invokevirtual 283, 3) := by decide +kernel
theorem dX12_isThere_16 : decode cX12_isThere 16 = .ok (.aload_n 0, 1) := by decide +kernel
theorem dX12_isThere_17 : decode cX12_isThere 17 = .ok (.getfield 286, 3) := by decide +kernel
theorem dX12_isThere_20 : decode cX12_isThere 20 = .ok (.invokestatic 289, 3) := by decide +kernel
theorem dX12_isThere_23 : decode cX12_isThere 23 = .ok (.ifCond .eq 7, 3) := by decide +kernel
theorem dX12_isThere_26 : decode cX12_isThere 26 = .ok (.iconst 1, 1) := by decide +kernel
theorem dX12_isThere_27 : decode cX12_isThere 27 = .ok (.goto 4, 3) := by decide +kernel
theorem dX12_isThere_30 : decode cX12_isThere 30 = .ok (.iconst 0, 1) := by decide +kernel
theorem dX12_isThere_31 : decode cX12_isThere 31 = .ok (.ireturn, 1) := by decide +kernel
set_option maxRecDepth 100000 in
set_option maxHeartbeats 200000 in
theorem T_X12_isThere_0 {X : CX} (hX : Ok X cX12_isThere 3 RX12 (some .boolean)) (hdx : dX X = 4) {r : Bool} (x1 : Int32) (x2 : Int32) (h : Hp) (hf : f_X12_isThere x1 x2 h = some r) : J X ((.inl (some (.int (b2i r))), h)) 0 [(0, .ref 30), (1, .int x1), (2, .int x2)] [] h := by
  unfold f_X12_isThere at hf
  refine J_aload_n hX 0 dX12_isThere_0 rfl rfl ?_
  refine J_iload_n hX 1 dX12_isThere_1 rfl rfl ?_
  refine J_iconst hX 0 dX12_isThere_2 rfl ?_
  obtain ⟨r_1, e_2, hf⟩ := bdE hf
  refine V_1 hX [.int x1, .int 0] dX12_isThere_3 cw_X12_283 ob_30 rfl (C_X12_ofPerson (okG hX) e_2) (ltD hdx rfl) rfl rfl rfl rfl ?_
  refine J_iload_n hX 2 dX12_isThere_6 rfl rfl ?_
  rcases ifE hf with ⟨c_3, hf⟩ | ⟨c_3, hf⟩
  · refine J_icmp_neF hX 30 dX12_isThere_7 rfl c_3 ?_
    refine J_aload_n hX 0 dX12_isThere_10 rfl rfl ?_
    refine J_iload_n hX 1 dX12_isThere_11 rfl rfl ?_
    refine J_iconst hX 2 dX12_isThere_12 rfl ?_
    obtain ⟨r_4, e_5, hf⟩ := bdE hf
    refine V_1 hX [.int x1, .int 2] dX12_isThere_13 cw_X12_283 ob_30 rfl (C_X12_ofPerson (okG hX) e_5) (ltD hdx rfl) rfl rfl rfl rfl ?_
    refine J_aload_n hX 0 dX12_isThere_16 rfl rfl ?_
    refine J_getI hX dX12_isThere_17 fl_X12_286 ob_30 rfl ?_
    refine S_1 hX [.int r_4, .int (h 30 20)] dX12_isThere_20 cw_X12_289 (C_X12_has (okG hX) rfl) (ltD hdx rfl) rfl rfl rfl rfl ?_
    rcases ifE hf with ⟨c_6, hf⟩ | ⟨c_6, hf⟩
    · refine J_if_eqF hX 30 dX12_isThere_23 rfl (b2iT c_6) ?_
      refine J_iconst hX 1 dX12_isThere_26 rfl ?_
      refine J_goto hX 31 dX12_isThere_27 rfl ?_
      exact E_Zp hX dX12_isThere_31 rfl hf
    · refine J_if_eqT hX 30 dX12_isThere_23 rfl (b2iF c_6) ?_
      refine J_iconst hX 0 dX12_isThere_30 rfl ?_
      exact E_Zp hX dX12_isThere_31 rfl hf
  · refine J_icmp_neT hX 30 dX12_isThere_7 rfl c_3 ?_
    refine J_iconst hX 0 dX12_isThere_30 rfl ?_
    exact E_Zp hX dX12_isThere_31 rfl hf
set_option maxRecDepth 100000 in
set_option maxHeartbeats 200000 in
theorem C_X12_isThere {G : GX} (hG : GOk G) {x1 : Int32} {x2 : Int32} {h : Hp} {r : Bool} (hf : f_X12_isThere x1 x2 h = some r) : Ctr G 4 yX12_isThere cX12_isThere 3 (some .boolean) [.ref 30, .int x1, .int x2] h ((.inl (some (.int (b2i r))), h)) :=
  Ctr_of hG RX12 rfl (by decide) rfl (fun X _ hdx hX => T_X12_isThere_0 hX hdx x1 x2 h hf)
theorem dX12_holdOf_0 : decode cX12_holdOf 0 = .ok (.iconst 0, 1) := by decide +kernel
theorem dX12_holdOf_1 : decode cX12_holdOf 1 = .ok (.istore_n 2, 1) := by decide +kernel
theorem dX12_holdOf_2 : decode cX12_holdOf 2 = .ok (.iconst 0, 1) := by decide +kernel
theorem dX12_holdOf_3 : decode cX12_holdOf 3 = .ok (.istore_n 3, 1) := by decide +kernel
theorem dX12_holdOf_4 : decode cX12_holdOf 4 = .ok (.iload_n 3, 1) := by decide +kernel
theorem dX12_holdOf_5 : decode cX12_holdOf 5 = .ok (.aload_n 0, 1) := by decide +kernel
theorem dX12_holdOf_6 : decode cX12_holdOf 6 = .ok (.invokevirtual 99, 3) := by decide +kernel
theorem dX12_holdOf_9 : decode cX12_holdOf 9 = .ok (.if_icmp .ge 31, 3) := by decide +kernel
theorem dX12_holdOf_12 : decode cX12_holdOf 12 = .ok (.iload_n 2, 1) := by decide +kernel
theorem dX12_holdOf_13 : decode cX12_holdOf 13 = .ok (.aload_n 0, 1) := by decide +kernel
theorem dX12_holdOf_14 : decode cX12_holdOf 14 = .ok (.iload_n 3, 1) := by decide +kernel
theorem dX12_holdOf_15 : decode cX12_holdOf 15 = .ok (.iload_n 1, 1) := by decide +kernel
theorem dX12_holdOf_16 : decode cX12_holdOf 16 = .ok (.invokevirtual 292, 3) := by decide +kernel
theorem dX12_holdOf_19 : decode cX12_holdOf 19 = .ok (.ifCond .eq 12, 3) := by decide +kernel
theorem dX12_holdOf_22 : decode cX12_holdOf 22 = .ok (.aload_n 0, 1) := by decide +kernel
theorem dX12_holdOf_23 : decode cX12_holdOf 23 = .ok (.iload_n 3, 1) := by decide +kernel
theorem dX12_holdOf_24 : decode cX12_holdOf 24 = .ok (.iconst 1, 1) := by decide +kernel
theorem dX12_holdOf_25 : decode cX12_holdOf 25 = .ok (.invokevirtual 283, 3) := by decide +kernel
theorem dX12_holdOf_28 : decode cX12_holdOf 28 = .ok (.goto 4, 3) := by decide +kernel
theorem dX12_holdOf_31 : decode cX12_holdOf 31 = .ok (.iconst 0, 1) := by decide +kernel
theorem dX12_holdOf_32 : decode cX12_holdOf 32 = .ok (.iadd, 1) := by decide +kernel
theorem dX12_holdOf_33 : decode cX12_holdOf 33 = .ok (.istore_n 2, 1) := by decide +kernel
theorem dX12_holdOf_34 : decode cX12_holdOf 34 = .ok (.iinc 3 1, 3) := by decide +kernel
theorem dX12_holdOf_37 : decode cX12_holdOf 37 = .ok (.goto (-33), 3) := by decide +kernel
theorem dX12_holdOf_40 : decode cX12_holdOf 40 = .ok (.iload_n 2, 1) := by decide +kernel
theorem dX12_holdOf_41 : decode cX12_holdOf 41 = .ok (.ireturn, 1) := by decide +kernel
set_option maxRecDepth 100000 in
set_option maxHeartbeats 200000 in
theorem T_X12_holdOf_32 {X : CX} (hX : Ok X cX12_holdOf 4 RX12 (some .int)) (hdx : dX X = 5) {r : Int32} (h : Hp) (x1 : Int32) (x3 : Int32) (t0 : Int32) (t1 : Int32) (q_4 : Int32 → Int32 → Option Int32) (hq_4 : ∀ (x2 : Int32) (x3 : Int32), q_4 x2 x3 = some r → J X ((.inl (some (.int r)), h)) 4 [(0, .ref 30), (1, .int x1), (2, .int x2), (3, .int x3)] [] h) (hf : F_X12_holdOf_32 q_4 h x1 x3 t0 t1 = some r) : J X ((.inl (some (.int r)), h)) 32 [(0, .ref 30), (1, .int x1), (3, .int x3)] [.int t0, .int t1] h := by
  unfold F_X12_holdOf_32 at hf
  refine J_iadd hX dX12_holdOf_32 ?_
  refine J_istore_n hX [(2, .int (t1 + t0)), (0, .ref 30), (1, .int x1), (3, .int x3)] dX12_holdOf_33 rfl rfl rfl ?_
  refine J_iinc hX (x3 + 1) 3 [(3, .int (x3 + 1)), (2, .int (t1 + t0)), (0, .ref 30), (1, .int x1)] dX12_holdOf_34 rfl rfl rfl rfl ?_
  refine J_goto hX 4 dX12_holdOf_37 rfl ?_
  refine J_sub [2, 3, 1, 0] [(0, .ref 30), (1, .int x1), (2, .int (t1 + t0)), (3, .int (x3 + 1))] rfl ?_
  exact hq_4 (t1 + t0) (x3 + 1) hf
set_option maxRecDepth 100000 in
set_option maxHeartbeats 200000 in
theorem T_X12_holdOf_4_s {X : CX} (hX : Ok X cX12_holdOf 4 RX12 (some .int)) (hdx : dX X = 5) {r : Int32} (h : Hp) (x1 : Int32) (q_4 : Int32 → Int32 → Option Int32) (hq_4 : ∀ (x2 : Int32) (x3 : Int32), q_4 x2 x3 = some r → J X ((.inl (some (.int r)), h)) 4 [(0, .ref 30), (1, .int x1), (2, .int x2), (3, .int x3)] [] h) (x2 : Int32) (x3 : Int32) (hf : S_X12_holdOf_4 h x1 q_4 x2 x3 = some r) : J X ((.inl (some (.int r)), h)) 4 [(0, .ref 30), (1, .int x1), (2, .int x2), (3, .int x3)] [] h := by
  unfold S_X12_holdOf_4 at hf
  refine J_iload_n hX 3 dX12_holdOf_4 rfl rfl ?_
  refine J_aload_n hX 0 dX12_holdOf_5 rfl rfl ?_
  refine V_1 hX [] dX12_holdOf_6 cw_X12_99 ob_30 rfl (C_X12_people (okG hX) rfl) (ltD hdx rfl) rfl rfl rfl rfl ?_
  rcases ifE hf with ⟨c_1, hf⟩ | ⟨c_1, hf⟩
  · refine J_icmp_geF hX 40 dX12_holdOf_9 rfl c_1 ?_
    refine J_iload_n hX 2 dX12_holdOf_12 rfl rfl ?_
    refine J_aload_n hX 0 dX12_holdOf_13 rfl rfl ?_
    refine J_iload_n hX 3 dX12_holdOf_14 rfl rfl ?_
    refine J_iload_n hX 1 dX12_holdOf_15 rfl rfl ?_
    obtain ⟨r_2, e_3, hf⟩ := bdE hf
    refine V_1 hX [.int x3, .int x1] dX12_holdOf_16 cw_X12_292 ob_30 rfl (C_X12_isThere (okG hX) e_3) (ltD hdx rfl) rfl rfl rfl rfl ?_
    rcases ifE hf with ⟨c_4, hf⟩ | ⟨c_4, hf⟩
    · refine J_if_eqF hX 31 dX12_holdOf_19 rfl (b2iT c_4) ?_
      refine J_aload_n hX 0 dX12_holdOf_22 rfl rfl ?_
      refine J_iload_n hX 3 dX12_holdOf_23 rfl rfl ?_
      refine J_iconst hX 1 dX12_holdOf_24 rfl ?_
      obtain ⟨r_5, e_6, hf⟩ := bdE hf
      refine V_1 hX [.int x3, .int 1] dX12_holdOf_25 cw_X12_283 ob_30 rfl (C_X12_ofPerson (okG hX) e_6) (ltD hdx rfl) rfl rfl rfl rfl ?_
      refine J_goto hX 32 dX12_holdOf_28 rfl ?_
      refine J_sub [0, 1, 3] [(0, .ref 30), (1, .int x1), (3, .int x3)] rfl ?_
      exact T_X12_holdOf_32 hX hdx h x1 x3 r_5 x2 q_4 hq_4 hf
    · refine J_if_eqT hX 31 dX12_holdOf_19 rfl (b2iF c_4) ?_
      refine J_iconst hX 0 dX12_holdOf_31 rfl ?_
      refine J_sub [0, 1, 3] [(0, .ref 30), (1, .int x1), (3, .int x3)] rfl ?_
      exact T_X12_holdOf_32 hX hdx h x1 x3 0 x2 q_4 hq_4 hf
  · refine J_icmp_geT hX 40 dX12_holdOf_9 rfl c_1 ?_
    refine J_iload_n hX 2 dX12_holdOf_40 rfl rfl ?_
    exact E_Ip hX dX12_holdOf_41 hf
set_option maxRecDepth 100000 in
set_option maxHeartbeats 200000 in
theorem T_X12_holdOf_4 {X : CX} (hX : Ok X cX12_holdOf 4 RX12 (some .int)) (hdx : dX X = 5) {r : Int32} (h : Hp) (x1 : Int32) : ∀ (n : Nat) (x2 : Int32) (x3 : Int32), F_X12_holdOf_4 h x1 n x2 x3 = some r → J X ((.inl (some (.int r)), h)) 4 [(0, .ref 30), (1, .int x1), (2, .int x2), (3, .int x3)] [] h := by
  intro n
  induction n with
  | zero => intro x2 x3 hf; exact nomatch hf
  | succ n ih => intro x2 x3 hf; exact T_X12_holdOf_4_s hX hdx h x1 _ (fun x2 x3 hf => ih x2 x3 hf) x2 x3 hf
set_option maxRecDepth 100000 in
set_option maxHeartbeats 200000 in
theorem T_X12_holdOf_0 {X : CX} (hX : Ok X cX12_holdOf 4 RX12 (some .int)) (hdx : dX X = 5) {r : Int32} (x1 : Int32) (h : Hp) (hf : f_X12_holdOf x1 h = some r) : J X ((.inl (some (.int r)), h)) 0 [(0, .ref 30), (1, .int x1)] [] h := by
  unfold f_X12_holdOf at hf
  refine J_iconst hX 0 dX12_holdOf_0 rfl ?_
  refine J_istore_n hX [(2, .int 0), (0, .ref 30), (1, .int x1)] dX12_holdOf_1 rfl rfl rfl ?_
  refine J_iconst hX 0 dX12_holdOf_2 rfl ?_
  refine J_istore_n hX [(3, .int 0), (2, .int 0), (0, .ref 30), (1, .int x1)] dX12_holdOf_3 rfl rfl rfl ?_
  refine J_sub [2, 3, 1, 0] [(0, .ref 30), (1, .int x1), (2, .int 0), (3, .int 0)] rfl ?_
  exact T_X12_holdOf_4 hX hdx h x1 FU 0 0 hf
set_option maxRecDepth 100000 in
set_option maxHeartbeats 200000 in
theorem C_X12_holdOf {G : GX} (hG : GOk G) {x1 : Int32} {h : Hp} {r : Int32} (hf : f_X12_holdOf x1 h = some r) : Ctr G 5 yX12_holdOf cX12_holdOf 4 (some .int) [.ref 30, .int x1] h ((.inl (some (.int r)), h)) :=
  Ctr_of hG RX12 rfl (by decide) rfl (fun X _ hdx hX => T_X12_holdOf_0 hX hdx x1 h hf)
theorem dX12_isHeld_0 : decode cX12_isHeld 0 = .ok (.iconst 0, 1) := by decide +kernel
theorem dX12_isHeld_1 : decode cX12_isHeld 1 = .ok (.istore_n 2, 1) := by decide +kernel
theorem dX12_isHeld_2 : decode cX12_isHeld 2 = .ok (.iconst 0, 1) := by decide +kernel
theorem dX12_isHeld_3 : decode cX12_isHeld 3 = .ok (.istore_n 3, 1) := by decide +kernel
theorem dX12_isHeld_4 : decode cX12_isHeld 4 = .ok (.iload_n 3, 1) := by decide +kernel
theorem dX12_isHeld_5 : decode cX12_isHeld 5 = .ok (.aload_n 0, 1) := by decide +kernel
theorem dX12_isHeld_6 : decode cX12_isHeld 6 = .ok (.invokevirtual 99, 3) := by decide +kernel
theorem dX12_isHeld_9 : decode cX12_isHeld 9 = .ok (.if_icmp .ge 28, 3) := by decide +kernel
theorem dX12_isHeld_12 : decode cX12_isHeld 12 = .ok (.iload_n 2, 1) := by decide +kernel
theorem dX12_isHeld_13 : decode cX12_isHeld 13 = .ok (.ifCond .ne 12, 3) := by decide +kernel
theorem dX12_isHeld_16 : decode cX12_isHeld 16 = .ok (.aload_n 0, 1) := by decide +kernel
theorem dX12_isHeld_17 : decode cX12_isHeld 17 = .ok (.iload_n 3, 1) := by decide +kernel
theorem dX12_isHeld_18 : decode cX12_isHeld 18 = .ok (.iload_n 1, 1) := by decide +kernel
theorem dX12_isHeld_19 : decode cX12_isHeld 19 = .ok (.invokevirtual 292, 3) := by decide +kernel
theorem dX12_isHeld_22 : decode cX12_isHeld 22 = .ok (.ifCond .eq 7, 3) := by decide +kernel
theorem dX12_isHeld_25 : decode cX12_isHeld 25 = .ok (.iconst 1, 1) := by decide +kernel
theorem dX12_isHeld_26 : decode cX12_isHeld 26 = .ok (.goto 4, 3) := by decide +kernel
theorem dX12_isHeld_29 : decode cX12_isHeld 29 = .ok (.iconst 0, 1) := by decide +kernel
theorem dX12_isHeld_30 : decode cX12_isHeld 30 = .ok (.istore_n 2, 1) := by decide +kernel
theorem dX12_isHeld_31 : decode cX12_isHeld 31 = .ok (.iinc 3 1, 3) := by decide +kernel
theorem dX12_isHeld_34 : decode cX12_isHeld 34 = .ok (.goto (-30), 3) := by decide +kernel
theorem dX12_isHeld_37 : decode cX12_isHeld 37 = .ok (.iload_n 2, 1) := by decide +kernel
theorem dX12_isHeld_38 : decode cX12_isHeld 38 = .ok (.ireturn, 1) := by decide +kernel
set_option maxRecDepth 100000 in
set_option maxHeartbeats 200000 in
theorem T_X12_isHeld_4_s {X : CX} (hX : Ok X cX12_isHeld 4 RX12 (some .boolean)) (hdx : dX X = 5) {r : Bool} (h : Hp) (x1 : Int32) (q_4 : Int32 → Int32 → Option Bool) (hq_4 : ∀ (x2 : Int32) (x3 : Int32), q_4 x2 x3 = some r → J X ((.inl (some (.int (b2i r))), h)) 4 [(0, .ref 30), (1, .int x1), (2, .int x2), (3, .int x3)] [] h) (x2 : Int32) (x3 : Int32) (hf : S_X12_isHeld_4 h x1 q_4 x2 x3 = some r) : J X ((.inl (some (.int (b2i r))), h)) 4 [(0, .ref 30), (1, .int x1), (2, .int x2), (3, .int x3)] [] h := by
  unfold S_X12_isHeld_4 at hf
  refine J_iload_n hX 3 dX12_isHeld_4 rfl rfl ?_
  refine J_aload_n hX 0 dX12_isHeld_5 rfl rfl ?_
  refine V_1 hX [] dX12_isHeld_6 cw_X12_99 ob_30 rfl (C_X12_people (okG hX) rfl) (ltD hdx rfl) rfl rfl rfl rfl ?_
  rcases ifE hf with ⟨c_1, hf⟩ | ⟨c_1, hf⟩
  · refine J_icmp_geF hX 37 dX12_isHeld_9 rfl c_1 ?_
    refine J_iload_n hX 2 dX12_isHeld_12 rfl rfl ?_
    rcases ifE hf with ⟨c_2, hf⟩ | ⟨c_2, hf⟩
    · refine J_if_neF hX 25 dX12_isHeld_13 rfl c_2 ?_
      refine J_aload_n hX 0 dX12_isHeld_16 rfl rfl ?_
      refine J_iload_n hX 3 dX12_isHeld_17 rfl rfl ?_
      refine J_iload_n hX 1 dX12_isHeld_18 rfl rfl ?_
      obtain ⟨r_3, e_4, hf⟩ := bdE hf
      refine V_1 hX [.int x3, .int x1] dX12_isHeld_19 cw_X12_292 ob_30 rfl (C_X12_isThere (okG hX) e_4) (ltD hdx rfl) rfl rfl rfl rfl ?_
      rcases ifE hf with ⟨c_5, hf⟩ | ⟨c_5, hf⟩
      · refine J_if_eqF hX 29 dX12_isHeld_22 rfl (b2iT c_5) ?_
        refine J_iconst hX 1 dX12_isHeld_25 rfl ?_
        refine J_goto hX 30 dX12_isHeld_26 rfl ?_
        refine J_istore_n hX [(2, .int 1), (0, .ref 30), (1, .int x1), (3, .int x3)] dX12_isHeld_30 rfl rfl rfl ?_
        refine J_iinc hX (x3 + 1) 3 [(3, .int (x3 + 1)), (2, .int 1), (0, .ref 30), (1, .int x1)] dX12_isHeld_31 rfl rfl rfl rfl ?_
        refine J_goto hX 4 dX12_isHeld_34 rfl ?_
        refine J_sub [2, 3, 1, 0] [(0, .ref 30), (1, .int x1), (2, .int 1), (3, .int (x3 + 1))] rfl ?_
        exact hq_4 1 (x3 + 1) hf
      · refine J_if_eqT hX 29 dX12_isHeld_22 rfl (b2iF c_5) ?_
        refine J_iconst hX 0 dX12_isHeld_29 rfl ?_
        refine J_istore_n hX [(2, .int 0), (0, .ref 30), (1, .int x1), (3, .int x3)] dX12_isHeld_30 rfl rfl rfl ?_
        refine J_iinc hX (x3 + 1) 3 [(3, .int (x3 + 1)), (2, .int 0), (0, .ref 30), (1, .int x1)] dX12_isHeld_31 rfl rfl rfl rfl ?_
        refine J_goto hX 4 dX12_isHeld_34 rfl ?_
        refine J_sub [2, 3, 1, 0] [(0, .ref 30), (1, .int x1), (2, .int 0), (3, .int (x3 + 1))] rfl ?_
        exact hq_4 0 (x3 + 1) hf
    · refine J_if_neT hX 25 dX12_isHeld_13 rfl c_2 ?_
      refine J_iconst hX 1 dX12_isHeld_25 rfl ?_
      refine J_goto hX 30 dX12_isHeld_26 rfl ?_
      refine J_istore_n hX [(2, .int 1), (0, .ref 30), (1, .int x1), (3, .int x3)] dX12_isHeld_30 rfl rfl rfl ?_
      refine J_iinc hX (x3 + 1) 3 [(3, .int (x3 + 1)), (2, .int 1), (0, .ref 30), (1, .int x1)] dX12_isHeld_31 rfl rfl rfl rfl ?_
      refine J_goto hX 4 dX12_isHeld_34 rfl ?_
      refine J_sub [2, 3, 1, 0] [(0, .ref 30), (1, .int x1), (2, .int 1), (3, .int (x3 + 1))] rfl ?_
      exact hq_4 1 (x3 + 1) hf
  · refine J_icmp_geT hX 37 dX12_isHeld_9 rfl c_1 ?_
    refine J_iload_n hX 2 dX12_isHeld_37 rfl rfl ?_
    obtain ⟨b_6, e_7, hf⟩ := bdE hf
    exact E_Zp hX dX12_isHeld_38 (toBE e_7) hf
set_option maxRecDepth 100000 in
set_option maxHeartbeats 200000 in
theorem T_X12_isHeld_4 {X : CX} (hX : Ok X cX12_isHeld 4 RX12 (some .boolean)) (hdx : dX X = 5) {r : Bool} (h : Hp) (x1 : Int32) : ∀ (n : Nat) (x2 : Int32) (x3 : Int32), F_X12_isHeld_4 h x1 n x2 x3 = some r → J X ((.inl (some (.int (b2i r))), h)) 4 [(0, .ref 30), (1, .int x1), (2, .int x2), (3, .int x3)] [] h := by
  intro n
  induction n with
  | zero => intro x2 x3 hf; exact nomatch hf
  | succ n ih => intro x2 x3 hf; exact T_X12_isHeld_4_s hX hdx h x1 _ (fun x2 x3 hf => ih x2 x3 hf) x2 x3 hf
set_option maxRecDepth 100000 in
set_option maxHeartbeats 200000 in
theorem T_X12_isHeld_0 {X : CX} (hX : Ok X cX12_isHeld 4 RX12 (some .boolean)) (hdx : dX X = 5) {r : Bool} (x1 : Int32) (h : Hp) (hf : f_X12_isHeld x1 h = some r) : J X ((.inl (some (.int (b2i r))), h)) 0 [(0, .ref 30), (1, .int x1)] [] h := by
  unfold f_X12_isHeld at hf
  refine J_iconst hX 0 dX12_isHeld_0 rfl ?_
  refine J_istore_n hX [(2, .int 0), (0, .ref 30), (1, .int x1)] dX12_isHeld_1 rfl rfl rfl ?_
  refine J_iconst hX 0 dX12_isHeld_2 rfl ?_
  refine J_istore_n hX [(3, .int 0), (2, .int 0), (0, .ref 30), (1, .int x1)] dX12_isHeld_3 rfl rfl rfl ?_
  refine J_sub [2, 3, 1, 0] [(0, .ref 30), (1, .int x1), (2, .int 0), (3, .int 0)] rfl ?_
  exact T_X12_isHeld_4 hX hdx h x1 FU 0 0 hf
set_option maxRecDepth 100000 in
set_option maxHeartbeats 200000 in
theorem C_X12_isHeld {G : GX} (hG : GOk G) {x1 : Int32} {h : Hp} {r : Bool} (hf : f_X12_isHeld x1 h = some r) : Ctr G 5 yX12_isHeld cX12_isHeld 4 (some .boolean) [.ref 30, .int x1] h ((.inl (some (.int (b2i r))), h)) :=
  Ctr_of hG RX12 rfl (by decide) rfl (fun X _ hdx hX => T_X12_isHeld_0 hX hdx x1 h hf)
theorem dX12_isLeant_0 : decode cX12_isLeant 0 = .ok (.iconst 0, 1) := by decide +kernel
theorem dX12_isLeant_1 : decode cX12_isLeant 1 = .ok (.istore_n 2, 1) := by decide +kernel
theorem dX12_isLeant_2 : decode cX12_isLeant 2 = .ok (.iconst 0, 1) := by decide +kernel
theorem dX12_isLeant_3 : decode cX12_isLeant 3 = .ok (.istore_n 3, 1) := by decide +kernel
theorem dX12_isLeant_4 : decode cX12_isLeant 4 = .ok (.iload_n 3, 1) := by decide +kernel
theorem dX12_isLeant_5 : decode cX12_isLeant 5 = .ok (.aload_n 0, 1) := by decide +kernel
theorem dX12_isLeant_6 : decode cX12_isLeant 6 = .ok (.invokevirtual 87, 3) := by decide +kernel
theorem dX12_isLeant_9 : decode cX12_isLeant 9 = .ok (.if_icmp .ge 28, 3) := by decide +kernel
theorem dX12_isLeant_12 : decode cX12_isLeant 12 = .ok (.iload_n 2, 1) := by decide +kernel
theorem dX12_isLeant_13 : decode cX12_isLeant 13 = .ok (.ifCond .ne 12, 3) := by decide +kernel
theorem dX12_isLeant_16 : decode cX12_isLeant 16 = .ok (.aload_n 0, 1) := by decide +kernel
theorem dX12_isLeant_17 : decode cX12_isLeant 17 = .ok (.iload_n 3, 1) := by decide +kernel
theorem dX12_isLeant_18 : decode cX12_isLeant 18 = .ok (.iload_n 1, 1) := by decide +kernel
theorem dX12_isLeant_19 : decode cX12_isLeant 19 = .ok (.invokevirtual 103, 3) := by decide +kernel
theorem dX12_isLeant_22 : decode cX12_isLeant 22 = .ok (.ifCond .le 7, 3) := by decide +kernel
theorem dX12_isLeant_25 : decode cX12_isLeant 25 = .ok (.iconst 1, 1) := by decide +kernel
theorem dX12_isLeant_26 : decode cX12_isLeant 26 = .ok (.goto 4, 3) := by decide +kernel
theorem dX12_isLeant_29 : decode cX12_isLeant 29 = .ok (.iconst 0, 1) := by decide +kernel
theorem dX12_isLeant_30 : decode cX12_isLeant 30 = .ok (.istore_n 2, 1) := by decide +kernel
theorem dX12_isLeant_31 : decode cX12_isLeant 31 = .ok (.iinc 3 1, 3) := by decide +kernel
theorem dX12_isLeant_34 : decode cX12_isLeant 34 = .ok (.goto (-30), 3) := by decide +kernel
theorem dX12_isLeant_37 : decode cX12_isLeant 37 = .ok (.iload_n 2, 1) := by decide +kernel
theorem dX12_isLeant_38 : decode cX12_isLeant 38 = .ok (.ireturn, 1) := by decide +kernel
set_option maxRecDepth 100000 in
set_option maxHeartbeats 200000 in
theorem T_X12_isLeant_4_s {X : CX} (hX : Ok X cX12_isLeant 4 RX12 (some .boolean)) (hdx : dX X = 4) {r : Bool} (h : Hp) (x1 : Int32) (q_4 : Int32 → Int32 → Option Bool) (hq_4 : ∀ (x2 : Int32) (x3 : Int32), q_4 x2 x3 = some r → J X ((.inl (some (.int (b2i r))), h)) 4 [(0, .ref 30), (1, .int x1), (2, .int x2), (3, .int x3)] [] h) (x2 : Int32) (x3 : Int32) (hf : S_X12_isLeant_4 h x1 q_4 x2 x3 = some r) : J X ((.inl (some (.int (b2i r))), h)) 4 [(0, .ref 30), (1, .int x1), (2, .int x2), (3, .int x3)] [] h := by
  unfold S_X12_isLeant_4 at hf
  refine J_iload_n hX 3 dX12_isLeant_4 rfl rfl ?_
  refine J_aload_n hX 0 dX12_isLeant_5 rfl rfl ?_
  refine V_1 hX [] dX12_isLeant_6 cw_X12_87 ob_30 rfl (C_X12_houses (okG hX) rfl) (ltD hdx rfl) rfl rfl rfl rfl ?_
  rcases ifE hf with ⟨c_1, hf⟩ | ⟨c_1, hf⟩
  · refine J_icmp_geF hX 37 dX12_isLeant_9 rfl c_1 ?_
    refine J_iload_n hX 2 dX12_isLeant_12 rfl rfl ?_
    rcases ifE hf with ⟨c_2, hf⟩ | ⟨c_2, hf⟩
    · refine J_if_neF hX 25 dX12_isLeant_13 rfl c_2 ?_
      refine J_aload_n hX 0 dX12_isLeant_16 rfl rfl ?_
      refine J_iload_n hX 3 dX12_isLeant_17 rfl rfl ?_
      refine J_iload_n hX 1 dX12_isLeant_18 rfl rfl ?_
      obtain ⟨r_3, e_4, hf⟩ := bdE hf
      refine V_1 hX [.int x3, .int x1] dX12_isLeant_19 cw_X12_103 ob_30 rfl (C_X12_partOf (okG hX) e_4) (ltD hdx rfl) rfl rfl rfl rfl ?_
      rcases ifE hf with ⟨c_5, hf⟩ | ⟨c_5, hf⟩
      · refine J_if_leF hX 29 dX12_isLeant_22 rfl c_5 ?_
        refine J_iconst hX 1 dX12_isLeant_25 rfl ?_
        refine J_goto hX 30 dX12_isLeant_26 rfl ?_
        refine J_istore_n hX [(2, .int 1), (0, .ref 30), (1, .int x1), (3, .int x3)] dX12_isLeant_30 rfl rfl rfl ?_
        refine J_iinc hX (x3 + 1) 3 [(3, .int (x3 + 1)), (2, .int 1), (0, .ref 30), (1, .int x1)] dX12_isLeant_31 rfl rfl rfl rfl ?_
        refine J_goto hX 4 dX12_isLeant_34 rfl ?_
        refine J_sub [2, 3, 1, 0] [(0, .ref 30), (1, .int x1), (2, .int 1), (3, .int (x3 + 1))] rfl ?_
        exact hq_4 1 (x3 + 1) hf
      · refine J_if_leT hX 29 dX12_isLeant_22 rfl c_5 ?_
        refine J_iconst hX 0 dX12_isLeant_29 rfl ?_
        refine J_istore_n hX [(2, .int 0), (0, .ref 30), (1, .int x1), (3, .int x3)] dX12_isLeant_30 rfl rfl rfl ?_
        refine J_iinc hX (x3 + 1) 3 [(3, .int (x3 + 1)), (2, .int 0), (0, .ref 30), (1, .int x1)] dX12_isLeant_31 rfl rfl rfl rfl ?_
        refine J_goto hX 4 dX12_isLeant_34 rfl ?_
        refine J_sub [2, 3, 1, 0] [(0, .ref 30), (1, .int x1), (2, .int 0), (3, .int (x3 + 1))] rfl ?_
        exact hq_4 0 (x3 + 1) hf
    · refine J_if_neT hX 25 dX12_isLeant_13 rfl c_2 ?_
      refine J_iconst hX 1 dX12_isLeant_25 rfl ?_
      refine J_goto hX 30 dX12_isLeant_26 rfl ?_
      refine J_istore_n hX [(2, .int 1), (0, .ref 30), (1, .int x1), (3, .int x3)] dX12_isLeant_30 rfl rfl rfl ?_
      refine J_iinc hX (x3 + 1) 3 [(3, .int (x3 + 1)), (2, .int 1), (0, .ref 30), (1, .int x1)] dX12_isLeant_31 rfl rfl rfl rfl ?_
      refine J_goto hX 4 dX12_isLeant_34 rfl ?_
      refine J_sub [2, 3, 1, 0] [(0, .ref 30), (1, .int x1), (2, .int 1), (3, .int (x3 + 1))] rfl ?_
      exact hq_4 1 (x3 + 1) hf
  · refine J_icmp_geT hX 37 dX12_isLeant_9 rfl c_1 ?_
    refine J_iload_n hX 2 dX12_isLeant_37 rfl rfl ?_
    obtain ⟨b_6, e_7, hf⟩ := bdE hf
    exact E_Zp hX dX12_isLeant_38 (toBE e_7) hf
set_option maxRecDepth 100000 in
set_option maxHeartbeats 200000 in
theorem T_X12_isLeant_4 {X : CX} (hX : Ok X cX12_isLeant 4 RX12 (some .boolean)) (hdx : dX X = 4) {r : Bool} (h : Hp) (x1 : Int32) : ∀ (n : Nat) (x2 : Int32) (x3 : Int32), F_X12_isLeant_4 h x1 n x2 x3 = some r → J X ((.inl (some (.int (b2i r))), h)) 4 [(0, .ref 30), (1, .int x1), (2, .int x2), (3, .int x3)] [] h := by
  intro n
  induction n with
  | zero => intro x2 x3 hf; exact nomatch hf
  | succ n ih => intro x2 x3 hf; exact T_X12_isLeant_4_s hX hdx h x1 _ (fun x2 x3 hf => ih x2 x3 hf) x2 x3 hf
set_option maxRecDepth 100000 in
set_option maxHeartbeats 200000 in
theorem T_X12_isLeant_0 {X : CX} (hX : Ok X cX12_isLeant 4 RX12 (some .boolean)) (hdx : dX X = 4) {r : Bool} (x1 : Int32) (h : Hp) (hf : f_X12_isLeant x1 h = some r) : J X ((.inl (some (.int (b2i r))), h)) 0 [(0, .ref 30), (1, .int x1)] [] h := by
  unfold f_X12_isLeant at hf
  refine J_iconst hX 0 dX12_isLeant_0 rfl ?_
  refine J_istore_n hX [(2, .int 0), (0, .ref 30), (1, .int x1)] dX12_isLeant_1 rfl rfl rfl ?_
  refine J_iconst hX 0 dX12_isLeant_2 rfl ?_
  refine J_istore_n hX [(3, .int 0), (2, .int 0), (0, .ref 30), (1, .int x1)] dX12_isLeant_3 rfl rfl rfl ?_
  refine J_sub [2, 3, 1, 0] [(0, .ref 30), (1, .int x1), (2, .int 0), (3, .int 0)] rfl ?_
  exact T_X12_isLeant_4 hX hdx h x1 FU 0 0 hf
set_option maxRecDepth 100000 in
set_option maxHeartbeats 200000 in
theorem C_X12_isLeant {G : GX} (hG : GOk G) {x1 : Int32} {h : Hp} {r : Bool} (hf : f_X12_isLeant x1 h = some r) : Ctr G 4 yX12_isLeant cX12_isLeant 4 (some .boolean) [.ref 30, .int x1] h ((.inl (some (.int (b2i r))), h)) :=
  Ctr_of hG RX12 rfl (by decide) rfl (fun X _ hdx hX => T_X12_isLeant_0 hX hdx x1 h hf)
