theorem dX9_measure_0 : decode cX9_measure 0 = .ok (.aload_n 0, 1) := by decide +kernel
theorem dX9_measure_1 : decode cX9_measure 1 = .ok (.aload_n 1, 1) := by decide +kernel
theorem dX9_measure_2 : decode cX9_measure 2 = .ok (.invokevirtual 39, 3) := by decide +kernel
theorem dX9_measure_5 : decode cX9_measure 5 = .ok (.aload_n 0, 1) := by decide +kernel
theorem dX9_measure_6 : decode cX9_measure 6 = .ok (.aload_n 1, 1) := by decide +kernel
theorem dX9_measure_7 : decode cX9_measure 7 = .ok (.iload_n 3, 1) := by decide +kernel
theorem dX9_measure_8 : decode cX9_measure 8 = .ok (.invokevirtual 43, 3) := by decide +kernel
theorem dX9_measure_11 : decode cX9_measure 11 = .ok (.iconst 0, 1) := by decide +kernel
theorem dX9_measure_12 : decode cX9_measure 12 = .ok (.istore 4, 2) := by decide +kernel
theorem dX9_measure_14 : decode cX9_measure 14 = .ok (.iload 4, 2) := by decide +kernel
theorem dX9_measure_16 : decode cX9_measure 16 = .ok (.bipush 8, 2) := by decide +kernel
theorem dX9_measure_18 : decode cX9_measure 18 = .ok (.if_icmp .ge 186, 3) := by decide +kernel
theorem dX9_measure_21 : decode cX9_measure 21 = .ok (.aload_n 0, 1) := by decide +kernel
theorem dX9_measure_22 : decode cX9_measure 22 = .ok (.getfield 15, 3) := by decide +kernel
theorem dX9_measure_25 : decode cX9_measure 25 = .ok (.iload 4, 2) := by decide +kernel
theorem dX9_measure_27 : decode cX9_measure 27 = .ok (.iconst 0, 1) := by decide +kernel
theorem dX9_measure_28 : decode cX9_measure 28 = .ok (.iastore, 1) := by decide +kernel
theorem dX9_measure_29 : decode cX9_measure 29 = .ok (.aload_n 0, 1) := by decide +kernel
theorem dX9_measure_30 : decode cX9_measure 30 = .ok (.getfield 18, 3) := by decide +kernel
theorem dX9_measure_33 : decode cX9_measure 33 = .ok (.iload 4, 2) := by decide +kernel
theorem dX9_measure_35 : decode cX9_measure 35 = .ok (.iconst 0, 1) := by decide +kernel
theorem dX9_measure_36 : decode cX9_measure 36 = .ok (.iastore, 1) := by decide +kernel
theorem dX9_measure_37 : decode cX9_measure 37 = .ok (.aload_n 0, 1) := by decide +kernel
theorem dX9_measure_38 : decode cX9_measure 38 = .ok (.getfield 21, 3) := by decide +kernel
theorem dX9_measure_41 : decode cX9_measure 41 = .ok (.iload 4, 2) := by decide +kernel
theorem dX9_measure_43 : decode cX9_measure 43 = .ok (.iconst 0, 1) := by decide +kernel
theorem dX9_measure_44 : decode cX9_measure 44 = .ok (.iastore, 1) := by decide +kernel
theorem dX9_measure_45 : decode cX9_measure 45 = .ok (.aload_n 0, 1) := by decide +kernel
theorem dX9_measure_46 : decode cX9_measure 46 = .ok (.getfield 24, 3) := by decide +kernel
theorem dX9_measure_49 : decode cX9_measure 49 = .ok (.iload 4, 2) := by decide +kernel
theorem dX9_measure_51 : decode cX9_measure 51 = .ok (.iconst 0, 1) := by decide +kernel
theorem dX9_measure_52 : decode cX9_measure 52 = .ok (.iastore, 1) := by decide +kernel
theorem dX9_measure_53 : decode cX9_measure 53 = .ok (.aload_n 1, 1) := by decide +kernel
theorem dX9_measure_54 : decode cX9_measure 54 = .ok (.iload 4, 2) := by decide +kernel
theorem dX9_measure_56 : decode cX9_measure 56 = .ok (.invokevirtual 47, 3) := by decide +kernel
theorem dX9_measure_59 : decode cX9_measure 59 = .ok (.ifCond .eq 139, 3) := by decide +kernel
theorem dX9_measure_62 : decode cX9_measure 62 = .ok (.aload_n 0, 1) := by decide +kernel
theorem dX9_measure_63 : decode cX9_measure 63 = .ok (.aload_n 1, 1) := by decide +kernel
theorem dX9_measure_64 : decode cX9_measure 64 = .ok (.iload 4, 2) := by decide +kernel
theorem dX9_measure_66 : decode cX9_measure 66 = .ok (.iload_n 3, 1) := by decide +kernel
theorem dX9_measure_67 : decode cX9_measure 67 = .ok (.invokevirtual 53, 3) := by decide +kernel
theorem dX9_measure_70 : decode cX9_measure 70 = .ok (.aload_n 0, 1) := by decide +kernel
theorem dX9_measure_71 : decode cX9_measure 71 = .ok (.getfield 15, 3) := by decide +kernel
theorem dX9_measure_74 : decode cX9_measure 74 = .ok (.iload 4, 2) := by decide +kernel
theorem dX9_measure_76 : decode cX9_measure 76 = .ok (.aload_n 0, 1) := by decide +kernel
theorem dX9_measure_77 : decode cX9_measure 77 = .ok (.getfield 9, 3) := by decide +kernel
theorem dX9_measure_80 : decode cX9_measure 80 = .ok (.iload 4, 2) := by decide +kernel
theorem dX9_measure_82 : decode cX9_measure 82 = .ok (.iaload, 1) := by decide +kernel
theorem dX9_measure_83 : decode cX9_measure 83 = .ok (.aload_n 0, 1) := by decide +kernel
theorem dX9_measure_84 : decode cX9_measure 84 = .ok (.getfield 30, 3) := by decide +kernel
theorem dX9_measure_87 : decode cX9_measure 87 = .ok (.iload 4, 2) := by decide +kernel
theorem dX9_measure_89 : decode cX9_measure 89 = .ok (.iaload, 1) := by decide +kernel
theorem dX9_measure_90 : decode cX9_measure 90 = .ok (.ifCond .ne 13, 3) := by decide +kernel
theorem dX9_measure_93 : decode cX9_measure 93 = .ok (.aload_n 1, 1) := by decide +kernel
theorem dX9_measure_94 : decode cX9_measure 94 = .ok (.getfield 57, 3) := by decide +kernel
theorem dX9_measure_97 : decode cX9_measure 97 = .ok (.iload 4, 2) := by decide +kernel
theorem dX9_measure_99 : decode cX9_measure 99 = .ok (.iaload, 1) := by decide +kernel
theorem dX9_measure_100 : decode cX9_measure 100 = .ok (.goto 4, 3) := by decide +kernel
theorem dX9_measure_103 : decode cX9_measure 103 = .ok (.iconst 0, 1) := by decide +kernel
theorem dX9_measure_104 : decode cX9_measure 104 = .ok (.iadd, 1) := by decide +kernel
theorem dX9_measure_105 : decode cX9_measure 105 = .ok (.iastore, 1) := by decide +kernel
theorem dX9_measure_106 : decode cX9_measure 106 = .ok (.aload_n 0, 1) := by decide +kernel
theorem dX9_measure_107 : decode cX9_measure 107 = .ok (.getfield 18, 3) := by decide +kernel
theorem dX9_measure_110 : decode cX9_measure 110 = .ok (.iload 4, 2) := by decide +kernel
theorem dX9_measure_112 : decode cX9_measure 112 = .ok (.iconst 0, 1) := by decide +kernel
theorem dX9_measure_113 : decode cX9_measure 113 = .ok (.aload_n 1, 1) := by decide +kernel
theorem dX9_measure_114 : decode cX9_measure 114 = .ok (.getfield 60, 3) := by decide +kernel
theorem dX9_measure_117 : decode cX9_measure 117 = .ok (.iload 4, 2) := by decide +kernel
theorem dX9_measure_119 : decode cX9_measure 119 = .ok (.iaload, 1) := by decide +kernel
theorem dX9_measure_120 : decode cX9_measure 120 = .ok (.aload_n 1, 1) := by decide +kernel
theorem dX9_measure_121 : decode cX9_measure 121 = .ok (.getfield 63, 3) := by decide +kernel
theorem dX9_measure_124 : decode cX9_measure 124 = .ok (.iload 4, 2) := by decide +kernel
theorem dX9_measure_126 : decode cX9_measure 126 = .ok (.iaload, 1) := by decide +kernel
theorem dX9_measure_127 : decode cX9_measure 127 = .ok (.iadd, 1) := by decide +kernel
theorem dX9_measure_128 : decode cX9_measure 128 = .ok (.aload_n 0, 1) := by decide +kernel
theorem dX9_measure_129 : decode cX9_measure 129 = .ok (.getfield 33, 3) := by decide +kernel
theorem dX9_measure_132 : decode cX9_measure 132 = .ok (.iload 4, 2) := by decide +kernel
theorem dX9_measure_134 : decode cX9_measure 134 = .ok (.iaload, 1) := by decide +kernel
theorem dX9_measure_135 : decode cX9_measure 135 = .ok (.iadd, 1) := by decide +kernel
theorem dX9_measure_136 : decode cX9_measure 136 = .ok (.aload_n 2, 1) := by decide +kernel
theorem dX9_measure_137 : decode cX9_measure 137 = .ok (.iconst 0, 1) := by decide +kernel
theorem dX9_measure_138 : decode cX9_measure 138 = .ok (.aload_n 0, 1) := by decide +kernel
theorem dX9_measure_139 : decode cX9_measure 139 = .ok (.getfield 36, 3) := by decide +kernel
theorem dX9_measure_142 : decode cX9_measure 142 = .ok (.invokevirtual 66, 3) := by decide +kernel
theorem dX9_measure_145 : decode cX9_measure 145 = .ok (.iadd, 1) := by decide +kernel
theorem dX9_measure_146 : decode cX9_measure 146 = .ok (.aload_n 2, 1) := by decide +kernel
theorem dX9_measure_147 : decode cX9_measure 147 = .ok (.iconst 1, 1) := by decide +kernel
theorem dX9_measure_148 : decode cX9_measure 148 = .ok (.aload_n 0, 1) := by decide +kernel
theorem dX9_measure_149 : decode cX9_measure 149 = .ok (.getfield 36, 3) := by decide +kernel
theorem dX9_measure_152 : decode cX9_measure 152 = .ok (.invokevirtual 66, 3) := by decide +kernel
theorem dX9_measure_155 : decode cX9_measure 155 = .ok (.isub, 1) := by decide +kernel
theorem dX9_measure_156 : decode cX9_measure 156 = .ok (.invokestatic 72, 3) := by decide +kernel
theorem dX9_measure_159 : decode cX9_measure 159 = .ok (.iastore, 1) := by decide +kernel
theorem dX9_measure_160 : decode cX9_measure 160 = .ok (.aload_n 0, 1) := by decide +kernel
theorem dX9_measure_161 : decode cX9_measure 161 = .ok (.getfield 21, 3) := by decide +kernel
theorem dX9_measure_164 : decode cX9_measure 164 = .ok (.iload 4, 2) := by decide +kernel
theorem dX9_measure_166 : decode cX9_measure 166 = .ok (.aload_n 0, 1) := by decide +kernel
theorem dX9_measure_167 : decode cX9_measure 167 = .ok (.getfield 15, 3) := by decide +kernel
theorem dX9_measure_170 : decode cX9_measure 170 = .ok (.iload 4, 2) := by decide +kernel
theorem dX9_measure_172 : decode cX9_measure 172 = .ok (.iaload, 1) := by decide +kernel
theorem dX9_measure_173 : decode cX9_measure 173 = .ok (.aload_n 0, 1) := by decide +kernel
theorem dX9_measure_174 : decode cX9_measure 174 = .ok (.getfield 18, 3) := by decide +kernel
theorem dX9_measure_177 : decode cX9_measure 177 = .ok (.iload 4, 2) := by decide +kernel
theorem dX9_measure_179 : decode cX9_measure 179 = .ok (.iaload, 1) := by decide +kernel
theorem dX9_measure_180 : decode cX9_measure 180 = .ok (.isub, 1) := by decide +kernel
theorem dX9_measure_181 : decode cX9_measure 181 = .ok (.iastore, 1) := by decide +kernel
theorem dX9_measure_182 : decode cX9_measure 182 = .ok (.aload_n 0, 1) := by decide +kernel
theorem dX9_measure_183 : decode cX9_measure 183 = .ok (.getfield 24, 3) := by decide +kernel
theorem dX9_measure_186 : decode cX9_measure 186 = .ok (.iload 4, 2) := by decide +kernel
theorem dX9_measure_188 : decode cX9_measure 188 = .ok (.aload_n 2, 1) := by decide +kernel
theorem dX9_measure_189 : decode cX9_measure 189 = .ok (.iconst 2, 1) := by decide +kernel
theorem dX9_measure_190 : decode cX9_measure 190 = .ok (.aload_n 0, 1) := by decide +kernel
theorem dX9_measure_191 : decode cX9_measure 191 = .ok (.getfield 36, 3) := by decide +kernel
theorem dX9_measure_194 : decode cX9_measure 194 = .ok (.invokevirtual 66, 3) := by decide +kernel
theorem dX9_measure_197 : decode cX9_measure 197 = .ok (.iastore, 1) := by decide +kernel
theorem dX9_measure_198 : decode cX9_measure 198 = .ok (.iinc 4 1, 3) := by decide +kernel
theorem dX9_measure_201 : decode cX9_measure 201 = .ok (.goto (-187), 3) := by decide +kernel
theorem dX9_measure_204 : decode cX9_measure 204 = .ok (.return_, 1) := by decide +kernel
set_option maxRecDepth 100000 in
set_option maxHeartbeats 200000 in
theorem T_X9_measure_104 {X : CX} (hX : Ok X cX9_measure 5 RX9 none) (hdx : dX X = 5) {r : Hp} (k1 : Nat) (hk1 : isCity k1) (k2 : Nat) (hk2 : isLaw k2) (x3 : Int32) (x4 : Int32) (t0 : Int32) (t1 : Int32) (t2 : Int32) (q_14 : Int32 → Hp → Option Hp) (hq_14 : ∀ (x4 : Int32) (h : Hp), q_14 x4 h = some r → J X ((.inl none, r)) 14 [(0, .ref 5), (1, .ref k1), (2, .ref k2), (3, .int x3), (4, .int x4)] [] h) (h : Hp) (hf : F_X9_measure_104 q_14 k1 k2 x3 x4 t0 t1 t2 h = some r) : J X ((.inl none, r)) 104 [(0, .ref 5), (1, .ref k1), (2, .ref k2), (3, .int x3), (4, .int x4)] [.int t0, .int t1, .int t2, .ref 7] h := by
  unfold F_X9_measure_104 at hf
  refine J_iadd hX dX9_measure_104 ?_
  obtain ⟨g_1, hf⟩ := gdE hf
  obtain ⟨h_2, e_3, hf⟩ := bndE hf
  refine J_ast hX t2.toNatClampNeg (t1 + t0) dX9_measure_105 ar_7 (Or.inl ⟨rfl, rfl, rfl⟩) g_1 rfl ?_
  refine J_nmh e_3 ?_
  refine J_aload_n hX 0 dX9_measure_106 rfl rfl ?_
  refine J_getR hX 8 dX9_measure_107 fl_X9_18 ob_5 rfl rfl ?_
  refine J_iload hX 4 dX9_measure_110 rfl ?_
  refine J_iconst hX 0 dX9_measure_112 rfl ?_
  refine J_aload_n hX 1 dX9_measure_113 rfl rfl ?_
  refine J_getR hX (k1 + 2) dX9_measure_114 fl_X9_60 (city_ob hk1) rfl rfl ?_
  refine J_iload hX 4 dX9_measure_117 rfl ?_
  obtain ⟨g_4, hf⟩ := gdE hf
  refine J_ald hX x4.toNatClampNeg dX9_measure_119 (city_ar 2 8 (by decide) hk1) (Or.inl ⟨rfl, rfl⟩) g_4 rfl ?_
  refine J_aload_n hX 1 dX9_measure_120 rfl rfl ?_
  refine J_getR hX (k1 + 3) dX9_measure_121 fl_X9_63 (city_ob hk1) rfl rfl ?_
  refine J_iload hX 4 dX9_measure_124 rfl ?_
  obtain ⟨g_5, hf⟩ := gdE hf
  refine J_ald hX x4.toNatClampNeg dX9_measure_126 (city_ar 3 8 (by decide) hk1) (Or.inl ⟨rfl, rfl⟩) g_5 rfl ?_
  refine J_iadd hX dX9_measure_127 ?_
  refine J_aload_n hX 0 dX9_measure_128 rfl rfl ?_
  refine J_getR hX 13 dX9_measure_129 fl_X9_33 ob_5 rfl rfl ?_
  refine J_iload hX 4 dX9_measure_132 rfl ?_
  obtain ⟨g_6, hf⟩ := gdE hf
  refine J_ald hX x4.toNatClampNeg dX9_measure_134 ar_13 (Or.inl ⟨rfl, rfl⟩) g_6 rfl ?_
  refine J_iadd hX dX9_measure_135 ?_
  refine J_aload_n hX 2 dX9_measure_136 rfl rfl ?_
  refine J_iconst hX 0 dX9_measure_137 rfl ?_
  refine J_aload_n hX 0 dX9_measure_138 rfl rfl ?_
  refine J_getR hX 14 dX9_measure_139 fl_X9_36 ob_5 rfl rfl ?_
  obtain ⟨r_7, e_8, hf⟩ := bdE hf
  refine V_1 hX [.int 0, .ref 14] dX9_measure_142 cw_X9_66 (law_ob hk2) rfl (C_X4_sumOf (okG hX) hk2 e_8) (ltD hdx rfl) rfl rfl rfl rfl ?_
  refine J_iadd hX dX9_measure_145 ?_
  refine J_aload_n hX 2 dX9_measure_146 rfl rfl ?_
  refine J_iconst hX 1 dX9_measure_147 rfl ?_
  refine J_aload_n hX 0 dX9_measure_148 rfl rfl ?_
  refine J_getR hX 14 dX9_measure_149 fl_X9_36 ob_5 rfl rfl ?_
  obtain ⟨r_9, e_10, hf⟩ := bdE hf
  refine V_1 hX [.int 1, .ref 14] dX9_measure_152 cw_X9_66 (law_ob hk2) rfl (C_X4_sumOf (okG hX) hk2 e_10) (ltD hdx rfl) rfl rfl rfl rfl ?_
  refine J_isub hX dX9_measure_155 ?_
  refine J_max hX dX9_measure_156 mw_X9_72 (ltD hdx rfl) rfl ?_
  obtain ⟨g_11, hf⟩ := gdE hf
  obtain ⟨h_12, e_13, hf⟩ := bndE hf
  refine J_ast hX x4.toNatClampNeg (imax 0 (((((h_2 (k1 + 2) x4.toNatClampNeg) + (h_2 (k1 + 3) x4.toNatClampNeg)) + (h_2 13 x4.toNatClampNeg)) + r_7.1) - r_9.1)) dX9_measure_159 ar_8 (Or.inl ⟨rfl, rfl, rfl⟩) g_11 rfl ?_
  refine J_nmh e_13 ?_
  refine J_aload_n hX 0 dX9_measure_160 rfl rfl ?_
  refine J_getR hX 9 dX9_measure_161 fl_X9_21 ob_5 rfl rfl ?_
  refine J_iload hX 4 dX9_measure_164 rfl ?_
  refine J_aload_n hX 0 dX9_measure_166 rfl rfl ?_
  refine J_getR hX 7 dX9_measure_167 fl_X9_15 ob_5 rfl rfl ?_
  refine J_iload hX 4 dX9_measure_170 rfl ?_
  obtain ⟨g_14, hf⟩ := gdE hf
  refine J_ald hX x4.toNatClampNeg dX9_measure_172 ar_7 (Or.inl ⟨rfl, rfl⟩) g_14 rfl ?_
  refine J_aload_n hX 0 dX9_measure_173 rfl rfl ?_
  refine J_getR hX 8 dX9_measure_174 fl_X9_18 ob_5 rfl rfl ?_
  refine J_iload hX 4 dX9_measure_177 rfl ?_
  obtain ⟨g_15, hf⟩ := gdE hf
  refine J_ald hX x4.toNatClampNeg dX9_measure_179 ar_8 (Or.inl ⟨rfl, rfl⟩) g_15 rfl ?_
  refine J_isub hX dX9_measure_180 ?_
  obtain ⟨g_16, hf⟩ := gdE hf
  obtain ⟨h_17, e_18, hf⟩ := bndE hf
  refine J_ast hX x4.toNatClampNeg ((h_12 7 x4.toNatClampNeg) - (h_12 8 x4.toNatClampNeg)) dX9_measure_181 ar_9 (Or.inl ⟨rfl, rfl, rfl⟩) g_16 rfl ?_
  refine J_nmh e_18 ?_
  refine J_aload_n hX 0 dX9_measure_182 rfl rfl ?_
  refine J_getR hX 10 dX9_measure_183 fl_X9_24 ob_5 rfl rfl ?_
  refine J_iload hX 4 dX9_measure_186 rfl ?_
  refine J_aload_n hX 2 dX9_measure_188 rfl rfl ?_
  refine J_iconst hX 2 dX9_measure_189 rfl ?_
  refine J_aload_n hX 0 dX9_measure_190 rfl rfl ?_
  refine J_getR hX 14 dX9_measure_191 fl_X9_36 ob_5 rfl rfl ?_
  obtain ⟨r_19, e_20, hf⟩ := bdE hf
  refine V_1 hX [.int 2, .ref 14] dX9_measure_194 cw_X9_66 (law_ob hk2) rfl (C_X4_sumOf (okG hX) hk2 e_20) (ltD hdx rfl) rfl rfl rfl rfl ?_
  obtain ⟨g_21, hf⟩ := gdE hf
  obtain ⟨h_22, e_23, hf⟩ := bndE hf
  refine J_ast hX x4.toNatClampNeg r_19.1 dX9_measure_197 ar_10 (Or.inl ⟨rfl, rfl, rfl⟩) g_21 rfl ?_
  refine J_nmh e_23 ?_
  refine J_iinc hX (x4 + 1) 4 [(4, .int (x4 + 1)), (0, .ref 5), (1, .ref k1), (2, .ref k2), (3, .int x3)] dX9_measure_198 rfl rfl rfl rfl ?_
  refine J_goto hX 14 dX9_measure_201 rfl ?_
  refine J_sub [1, 2, 3, 4, 0] [(0, .ref 5), (1, .ref k1), (2, .ref k2), (3, .int x3), (4, .int (x4 + 1))] rfl ?_
  exact hq_14 (x4 + 1) h_22 hf
set_option maxRecDepth 100000 in
set_option maxHeartbeats 200000 in
theorem T_X9_measure_14_s {X : CX} (hX : Ok X cX9_measure 5 RX9 none) (hdx : dX X = 5) {r : Hp} (k1 : Nat) (hk1 : isCity k1) (k2 : Nat) (hk2 : isLaw k2) (x3 : Int32) (q_14 : Int32 → Hp → Option Hp) (hq_14 : ∀ (x4 : Int32) (h : Hp), q_14 x4 h = some r → J X ((.inl none, r)) 14 [(0, .ref 5), (1, .ref k1), (2, .ref k2), (3, .int x3), (4, .int x4)] [] h) (x4 : Int32) (h : Hp) (hf : S_X9_measure_14 k1 k2 x3 q_14 x4 h = some r) : J X ((.inl none, r)) 14 [(0, .ref 5), (1, .ref k1), (2, .ref k2), (3, .int x3), (4, .int x4)] [] h := by
  unfold S_X9_measure_14 at hf
  refine J_iload hX 4 dX9_measure_14 rfl ?_
  refine J_bipush hX 8 dX9_measure_16 rfl ?_
  rcases ifE hf with ⟨c_1, hf⟩ | ⟨c_1, hf⟩
  · refine J_icmp_geF hX 204 dX9_measure_18 rfl c_1 ?_
    refine J_aload_n hX 0 dX9_measure_21 rfl rfl ?_
    refine J_getR hX 7 dX9_measure_22 fl_X9_15 ob_5 rfl rfl ?_
    refine J_iload hX 4 dX9_measure_25 rfl ?_
    refine J_iconst hX 0 dX9_measure_27 rfl ?_
    obtain ⟨g_2, hf⟩ := gdE hf
    obtain ⟨h_3, e_4, hf⟩ := bndE hf
    refine J_ast hX x4.toNatClampNeg 0 dX9_measure_28 ar_7 (Or.inl ⟨rfl, rfl, rfl⟩) g_2 rfl ?_
    refine J_nmh e_4 ?_
    refine J_aload_n hX 0 dX9_measure_29 rfl rfl ?_
    refine J_getR hX 8 dX9_measure_30 fl_X9_18 ob_5 rfl rfl ?_
    refine J_iload hX 4 dX9_measure_33 rfl ?_
    refine J_iconst hX 0 dX9_measure_35 rfl ?_
    obtain ⟨g_5, hf⟩ := gdE hf
    obtain ⟨h_6, e_7, hf⟩ := bndE hf
    refine J_ast hX x4.toNatClampNeg 0 dX9_measure_36 ar_8 (Or.inl ⟨rfl, rfl, rfl⟩) g_5 rfl ?_
    refine J_nmh e_7 ?_
    refine J_aload_n hX 0 dX9_measure_37 rfl rfl ?_
    refine J_getR hX 9 dX9_measure_38 fl_X9_21 ob_5 rfl rfl ?_
    refine J_iload hX 4 dX9_measure_41 rfl ?_
    refine J_iconst hX 0 dX9_measure_43 rfl ?_
    obtain ⟨g_8, hf⟩ := gdE hf
    obtain ⟨h_9, e_10, hf⟩ := bndE hf
    refine J_ast hX x4.toNatClampNeg 0 dX9_measure_44 ar_9 (Or.inl ⟨rfl, rfl, rfl⟩) g_8 rfl ?_
    refine J_nmh e_10 ?_
    refine J_aload_n hX 0 dX9_measure_45 rfl rfl ?_
    refine J_getR hX 10 dX9_measure_46 fl_X9_24 ob_5 rfl rfl ?_
    refine J_iload hX 4 dX9_measure_49 rfl ?_
    refine J_iconst hX 0 dX9_measure_51 rfl ?_
    obtain ⟨g_11, hf⟩ := gdE hf
    obtain ⟨h_12, e_13, hf⟩ := bndE hf
    refine J_ast hX x4.toNatClampNeg 0 dX9_measure_52 ar_10 (Or.inl ⟨rfl, rfl, rfl⟩) g_11 rfl ?_
    refine J_nmh e_13 ?_
    refine J_aload_n hX 1 dX9_measure_53 rfl rfl ?_
    refine J_iload hX 4 dX9_measure_54 rfl ?_
    refine V_1 hX [.int x4] dX9_measure_56 cw_X9_47 (city_ob hk1) rfl (C_X1_isUp (okG hX) hk1 rfl) (ltD hdx rfl) rfl rfl rfl rfl ?_
    rcases ifE hf with ⟨c_14, hf⟩ | ⟨c_14, hf⟩
    · refine J_if_eqF hX 198 dX9_measure_59 rfl (b2iT c_14) ?_
      refine J_aload_n hX 0 dX9_measure_62 rfl rfl ?_
      refine J_aload_n hX 1 dX9_measure_63 rfl rfl ?_
      refine J_iload hX 4 dX9_measure_64 rfl ?_
      refine J_iload_n hX 3 dX9_measure_66 rfl rfl ?_
      obtain ⟨r_15, e_16, hf⟩ := bdE hf
      refine V_0 hX [.ref k1, .int x4, .int x3] dX9_measure_67 cw_X9_53 ob_5 rfl (C_X9_noteFacts (okG hX) hk1 e_16) (ltD hdx rfl) rfl rfl rfl rfl ?_
      refine J_aload_n hX 0 dX9_measure_70 rfl rfl ?_
      refine J_getR hX 7 dX9_measure_71 fl_X9_15 ob_5 rfl rfl ?_
      refine J_iload hX 4 dX9_measure_74 rfl ?_
      refine J_aload_n hX 0 dX9_measure_76 rfl rfl ?_
      refine J_getR hX 6 dX9_measure_77 fl_X9_9 ob_5 rfl rfl ?_
      refine J_iload hX 4 dX9_measure_80 rfl ?_
      obtain ⟨g_17, hf⟩ := gdE hf
      refine J_ald hX x4.toNatClampNeg dX9_measure_82 ar_6 (Or.inl ⟨rfl, rfl⟩) g_17 rfl ?_
      refine J_aload_n hX 0 dX9_measure_83 rfl rfl ?_
      refine J_getR hX 12 dX9_measure_84 fl_X9_30 ob_5 rfl rfl ?_
      refine J_iload hX 4 dX9_measure_87 rfl ?_
      obtain ⟨g_18, hf⟩ := gdE hf
      refine J_ald hX x4.toNatClampNeg dX9_measure_89 ar_12 (Or.inl ⟨rfl, rfl⟩) g_18 rfl ?_
      rcases ifE hf with ⟨c_19, hf⟩ | ⟨c_19, hf⟩
      · refine J_if_neF hX 103 dX9_measure_90 rfl c_19 ?_
        refine J_aload_n hX 1 dX9_measure_93 rfl rfl ?_
        refine J_getR hX (k1 + 1) dX9_measure_94 fl_X9_57 (city_ob hk1) rfl rfl ?_
        refine J_iload hX 4 dX9_measure_97 rfl ?_
        obtain ⟨g_20, hf⟩ := gdE hf
        refine J_ald hX x4.toNatClampNeg dX9_measure_99 (city_ar 1 8 (by decide) hk1) (Or.inl ⟨rfl, rfl⟩) g_20 rfl ?_
        refine J_goto hX 104 dX9_measure_100 rfl ?_
        exact T_X9_measure_104 hX hdx k1 hk1 k2 hk2 x3 x4 (r_15 (k1 + 1) x4.toNatClampNeg) (r_15 6 x4.toNatClampNeg) x4 q_14 hq_14 r_15 hf
      · refine J_if_neT hX 103 dX9_measure_90 rfl c_19 ?_
        refine J_iconst hX 0 dX9_measure_103 rfl ?_
        exact T_X9_measure_104 hX hdx k1 hk1 k2 hk2 x3 x4 0 (r_15 6 x4.toNatClampNeg) x4 q_14 hq_14 r_15 hf
    · refine J_if_eqT hX 198 dX9_measure_59 rfl (b2iF c_14) ?_
      refine J_iinc hX (x4 + 1) 4 [(4, .int (x4 + 1)), (0, .ref 5), (1, .ref k1), (2, .ref k2), (3, .int x3)] dX9_measure_198 rfl rfl rfl rfl ?_
      refine J_goto hX 14 dX9_measure_201 rfl ?_
      refine J_sub [1, 2, 3, 4, 0] [(0, .ref 5), (1, .ref k1), (2, .ref k2), (3, .int x3), (4, .int (x4 + 1))] rfl ?_
      exact hq_14 (x4 + 1) h_12 hf
  · refine J_icmp_geT hX 204 dX9_measure_18 rfl c_1 ?_
    exact E_Vi hX dX9_measure_204 hf
set_option maxRecDepth 100000 in
set_option maxHeartbeats 200000 in
theorem T_X9_measure_14 {X : CX} (hX : Ok X cX9_measure 5 RX9 none) (hdx : dX X = 5) {r : Hp} (k1 : Nat) (hk1 : isCity k1) (k2 : Nat) (hk2 : isLaw k2) (x3 : Int32) : ∀ (n : Nat) (x4 : Int32) (h : Hp), F_X9_measure_14 k1 k2 x3 n x4 h = some r → J X ((.inl none, r)) 14 [(0, .ref 5), (1, .ref k1), (2, .ref k2), (3, .int x3), (4, .int x4)] [] h := by
  intro n
  induction n with
  | zero => intro x4 h hf; exact nomatch hf
  | succ n ih => intro x4 h hf; exact T_X9_measure_14_s hX hdx k1 hk1 k2 hk2 x3 _ (fun x4 h hf => ih x4 h hf) x4 h hf
set_option maxRecDepth 100000 in
set_option maxHeartbeats 200000 in
theorem T_X9_measure_0 {X : CX} (hX : Ok X cX9_measure 5 RX9 none) (hdx : dX X = 5) {r : Hp} (k1 : Nat) (hk1 : isCity k1) (k2 : Nat) (hk2 : isLaw k2) (x3 : Int32) (h : Hp) (hf : f_X9_measure k1 k2 x3 h = some r) : J X ((.inl none, r)) 0 [(0, .ref 5), (1, .ref k1), (2, .ref k2), (3, .int x3)] [] h := by
  unfold f_X9_measure at hf
  refine J_aload_n hX 0 dX9_measure_0 rfl rfl ?_
  refine J_aload_n hX 1 dX9_measure_1 rfl rfl ?_
  obtain ⟨r_1, e_2, hf⟩ := bdE hf
  refine V_0 hX [.ref k1] dX9_measure_2 cw_X9_39 ob_5 rfl (C_X9_measurePress (okG hX) hk1 e_2) (ltD hdx rfl) rfl rfl rfl rfl ?_
  refine J_aload_n hX 0 dX9_measure_5 rfl rfl ?_
  refine J_aload_n hX 1 dX9_measure_6 rfl rfl ?_
  refine J_iload_n hX 3 dX9_measure_7 rfl rfl ?_
  obtain ⟨r_3, e_4, hf⟩ := bdE hf
  refine V_0 hX [.ref k1, .int x3] dX9_measure_8 cw_X9_43 ob_5 rfl (C_X9_countHelp (okG hX) hk1 e_4) (ltD hdx rfl) rfl rfl rfl rfl ?_
  refine J_iconst hX 0 dX9_measure_11 rfl ?_
  refine J_istore hX [(4, .int 0), (0, .ref 5), (1, .ref k1), (2, .ref k2), (3, .int x3)] dX9_measure_12 rfl rfl ?_
  refine J_sub [1, 2, 3, 4, 0] [(0, .ref 5), (1, .ref k1), (2, .ref k2), (3, .int x3), (4, .int 0)] rfl ?_
  exact T_X9_measure_14 hX hdx k1 hk1 k2 hk2 x3 FU 0 r_3 hf
set_option maxRecDepth 100000 in
set_option maxHeartbeats 200000 in
theorem C_X9_measure {G : GX} (hG : GOk G) {k1 : Nat} {k2 : Nat} {x3 : Int32} {h : Hp} {r : Hp} (hk1 : isCity k1) (hk2 : isLaw k2) (hf : f_X9_measure k1 k2 x3 h = some r) : Ctr G 5 yX9_measure cX9_measure 5 none [.ref 5, .ref k1, .ref k2, .int x3] h ((.inl none, r)) :=
  Ctr_of hG RX9 rfl (by decide) rfl (fun X _ hdx hX => T_X9_measure_0 hX hdx k1 hk1 k2 hk2 x3 h hf)
theorem dX9_saggingSet_0 : decode cX9_saggingSet 0 = .ok (.iconst 0, 1) := by decide +kernel
theorem dX9_saggingSet_1 : decode cX9_saggingSet 1 = .ok (.istore_n 1, 1) := by decide +kernel
theorem dX9_saggingSet_2 : decode cX9_saggingSet 2 = .ok (.iconst 0, 1) := by decide +kernel
theorem dX9_saggingSet_3 : decode cX9_saggingSet 3 = .ok (.istore_n 2, 1) := by decide +kernel
theorem dX9_saggingSet_4 : decode cX9_saggingSet 4 = .ok (.iload_n 2, 1) := by decide +kernel
theorem dX9_saggingSet_5 : decode cX9_saggingSet 5 = .ok (.bipush 8, 2) := by decide +kernel
theorem dX9_saggingSet_7 : decode cX9_saggingSet 7 = .ok (.if_icmp .ge 28, 3) := by decide +kernel
theorem dX9_saggingSet_10 : decode cX9_saggingSet 10 = .ok (.iload_n 1, 1) := by decide +kernel
theorem dX9_saggingSet_11 : decode cX9_saggingSet 11 = .ok (.aload_n 0, 1) := by decide +kernel
theorem dX9_saggingSet_12 : decode cX9_saggingSet 12 = .ok (.getfield 21, 3) := by decide +kernel
theorem dX9_saggingSet_15 : decode cX9_saggingSet 15 = .ok (.iload_n 2, 1) := by decide +kernel
theorem dX9_saggingSet_16 : decode cX9_saggingSet 16 = .ok (.iaload, 1) := by decide +kernel
theorem dX9_saggingSet_17 : decode cX9_saggingSet 17 = .ok (.ifCond .le 9, 3) := by decide +kernel
theorem dX9_saggingSet_20 : decode cX9_saggingSet 20 = .ok (.iconst 1, 1) := by decide +kernel
theorem dX9_saggingSet_21 : decode cX9_saggingSet 21 = .ok (.iload_n 2, 1) := by decide +kernel
theorem dX9_saggingSet_22 : decode cX9_saggingSet 22 = .ok (.ishl, 1) := by decide +kernel
theorem dX9_saggingSet_23 : decode cX9_saggingSet 23 = .ok (.goto 4, 3) := by decide +kernel
theorem dX9_saggingSet_26 : decode cX9_saggingSet 26 = .ok (.iconst 0, 1) := by decide +kernel
theorem dX9_saggingSet_27 : decode cX9_saggingSet 27 = .ok (.ior, 1) := by decide +kernel
theorem dX9_saggingSet_28 : decode cX9_saggingSet 28 = .ok (.istore_n 1, 1) := by decide +kernel
theorem dX9_saggingSet_29 : decode cX9_saggingSet 29 = .ok (.iinc 2 1, 3) := by decide +kernel
theorem dX9_saggingSet_32 : decode cX9_saggingSet 32 = .ok (.goto (-28), 3) := by decide +kernel
theorem dX9_saggingSet_35 : decode cX9_saggingSet 35 = .ok (.iload_n 1, 1) := by decide +kernel
theorem dX9_saggingSet_36 : decode cX9_saggingSet 36 = .ok (.ireturn, 1) := by decide +kernel
set_option maxRecDepth 100000 in
set_option maxHeartbeats 200000 in
theorem T_X9_saggingSet_27 {X : CX} (hX : Ok X cX9_saggingSet 3 RX9 (some .int)) (hdx : dX X = 2) {r : Int32} (h : Hp) (x2 : Int32) (t0 : Int32) (t1 : Int32) (q_4 : Int32 → Int32 → Option Int32) (hq_4 : ∀ (x1 : Int32) (x2 : Int32), q_4 x1 x2 = some r → J X ((.inl (some (.int r)), h)) 4 [(0, .ref 5), (1, .int x1), (2, .int x2)] [] h) (hf : F_X9_saggingSet_27 q_4 h x2 t0 t1 = some r) : J X ((.inl (some (.int r)), h)) 27 [(0, .ref 5), (2, .int x2)] [.int t0, .int t1] h := by
  unfold F_X9_saggingSet_27 at hf
  refine J_ior hX dX9_saggingSet_27 ?_
  obtain ⟨x1_1, e_2, hf⟩ := bndE hf
  refine J_nm e_2 ?_
  refine J_istore_n hX [(1, .int x1_1), (0, .ref 5), (2, .int x2)] dX9_saggingSet_28 rfl rfl rfl ?_
  refine J_iinc hX (x2 + 1) 2 [(2, .int (x2 + 1)), (1, .int x1_1), (0, .ref 5)] dX9_saggingSet_29 rfl rfl rfl rfl ?_
  refine J_goto hX 4 dX9_saggingSet_32 rfl ?_
  refine J_sub [2, 1, 0] [(0, .ref 5), (1, .int x1_1), (2, .int (x2 + 1))] rfl ?_
  exact hq_4 x1_1 (x2 + 1) hf
set_option maxRecDepth 100000 in
set_option maxHeartbeats 200000 in
theorem T_X9_saggingSet_4_s {X : CX} (hX : Ok X cX9_saggingSet 3 RX9 (some .int)) (hdx : dX X = 2) {r : Int32} (h : Hp) (q_4 : Int32 → Int32 → Option Int32) (hq_4 : ∀ (x1 : Int32) (x2 : Int32), q_4 x1 x2 = some r → J X ((.inl (some (.int r)), h)) 4 [(0, .ref 5), (1, .int x1), (2, .int x2)] [] h) (x1 : Int32) (x2 : Int32) (hf : S_X9_saggingSet_4 h q_4 x1 x2 = some r) : J X ((.inl (some (.int r)), h)) 4 [(0, .ref 5), (1, .int x1), (2, .int x2)] [] h := by
  unfold S_X9_saggingSet_4 at hf
  refine J_iload_n hX 2 dX9_saggingSet_4 rfl rfl ?_
  refine J_bipush hX 8 dX9_saggingSet_5 rfl ?_
  rcases ifE hf with ⟨c_1, hf⟩ | ⟨c_1, hf⟩
  · refine J_icmp_geF hX 35 dX9_saggingSet_7 rfl c_1 ?_
    refine J_iload_n hX 1 dX9_saggingSet_10 rfl rfl ?_
    refine J_aload_n hX 0 dX9_saggingSet_11 rfl rfl ?_
    refine J_getR hX 9 dX9_saggingSet_12 fl_X9_21 ob_5 rfl rfl ?_
    refine J_iload_n hX 2 dX9_saggingSet_15 rfl rfl ?_
    obtain ⟨g_2, hf⟩ := gdE hf
    refine J_ald hX x2.toNatClampNeg dX9_saggingSet_16 ar_9 (Or.inl ⟨rfl, rfl⟩) g_2 rfl ?_
    rcases ifE hf with ⟨c_3, hf⟩ | ⟨c_3, hf⟩
    · refine J_if_leF hX 26 dX9_saggingSet_17 rfl c_3 ?_
      refine J_iconst hX 1 dX9_saggingSet_20 rfl ?_
      refine J_iload_n hX 2 dX9_saggingSet_21 rfl rfl ?_
      refine J_ishl hX dX9_saggingSet_22 ?_
      refine J_goto hX 27 dX9_saggingSet_23 rfl ?_
      refine J_sub [0, 2] [(0, .ref 5), (2, .int x2)] rfl ?_
      exact T_X9_saggingSet_27 hX hdx h x2 (shl 1 x2) x1 q_4 hq_4 hf
    · refine J_if_leT hX 26 dX9_saggingSet_17 rfl c_3 ?_
      refine J_iconst hX 0 dX9_saggingSet_26 rfl ?_
      refine J_sub [0, 2] [(0, .ref 5), (2, .int x2)] rfl ?_
      exact T_X9_saggingSet_27 hX hdx h x2 0 x1 q_4 hq_4 hf
  · refine J_icmp_geT hX 35 dX9_saggingSet_7 rfl c_1 ?_
    refine J_iload_n hX 1 dX9_saggingSet_35 rfl rfl ?_
    exact E_Ip hX dX9_saggingSet_36 hf
set_option maxRecDepth 100000 in
set_option maxHeartbeats 200000 in
theorem T_X9_saggingSet_4 {X : CX} (hX : Ok X cX9_saggingSet 3 RX9 (some .int)) (hdx : dX X = 2) {r : Int32} (h : Hp) : ∀ (n : Nat) (x1 : Int32) (x2 : Int32), F_X9_saggingSet_4 h n x1 x2 = some r → J X ((.inl (some (.int r)), h)) 4 [(0, .ref 5), (1, .int x1), (2, .int x2)] [] h := by
  intro n
  induction n with
  | zero => intro x1 x2 hf; exact nomatch hf
  | succ n ih => intro x1 x2 hf; exact T_X9_saggingSet_4_s hX hdx h _ (fun x1 x2 hf => ih x1 x2 hf) x1 x2 hf
set_option maxRecDepth 100000 in
set_option maxHeartbeats 200000 in
theorem T_X9_saggingSet_0 {X : CX} (hX : Ok X cX9_saggingSet 3 RX9 (some .int)) (hdx : dX X = 2) {r : Int32} (h : Hp) (hf : f_X9_saggingSet h = some r) : J X ((.inl (some (.int r)), h)) 0 [(0, .ref 5)] [] h := by
  unfold f_X9_saggingSet at hf
  refine J_iconst hX 0 dX9_saggingSet_0 rfl ?_
  refine J_istore_n hX [(1, .int 0), (0, .ref 5)] dX9_saggingSet_1 rfl rfl rfl ?_
  refine J_iconst hX 0 dX9_saggingSet_2 rfl ?_
  refine J_istore_n hX [(2, .int 0), (1, .int 0), (0, .ref 5)] dX9_saggingSet_3 rfl rfl rfl ?_
  refine J_sub [2, 1, 0] [(0, .ref 5), (1, .int 0), (2, .int 0)] rfl ?_
  exact T_X9_saggingSet_4 hX hdx h FU 0 0 hf
set_option maxRecDepth 100000 in
set_option maxHeartbeats 200000 in
theorem C_X9_saggingSet {G : GX} (hG : GOk G) {h : Hp} {r : Int32} (hf : f_X9_saggingSet h = some r) : Ctr G 2 yX9_saggingSet cX9_saggingSet 3 (some .int) [.ref 5] h ((.inl (some (.int r)), h)) :=
  Ctr_of hG RX9 rfl (by decide) rfl (fun X _ hdx hX => T_X9_saggingSet_0 hX hdx h hf)
theorem dX6_set_0 : decode cX6_set 0 = .ok (.iload_n 1, 1) := by decide +kernel
theorem dX6_set_1 : decode cX6_set 1 = .ok (.bipush 6, 2) := by decide +kernel
theorem dX6_set_3 : decode cX6_set 3 = .ok (.imul, 1) := by decide +kernel
theorem dX6_set_4 : decode cX6_set 4 = .ok (.iload_n 2, 1) := by decide +kernel
theorem dX6_set_5 : decode cX6_set 5 = .ok (.iadd, 1) := by decide +kernel
theorem dX6_set_6 : decode cX6_set 6 = .ok (.istore 4, 2) := by decide +kernel
theorem dX6_set_8 : decode cX6_set 8 = .ok (.iload 4, 2) := by decide +kernel
theorem dX6_set_10 : decode cX6_set 10 = .ok (.ifCond .lt 21, 3) := by decide +kernel
theorem dX6_set_13 : decode cX6_set 13 = .ok (.iload 4, 2) := by decide +kernel
theorem dX6_set_15 : decode cX6_set 15 = .ok (.aload_n 0, 1) := by decide +kernel
theorem dX6_set_16 : decode cX6_set 16 = .ok (.getfield 9, 3) := by decide +kernel
theorem dX6_set_19 : decode cX6_set 19 = .ok (.arraylength, 1) := by decide +kernel
theorem dX6_set_20 : decode cX6_set 20 = .ok (.if_icmp .ge 11, 3) := by decide +kernel
theorem dX6_set_23 : decode cX6_set 23 = .ok (.aload_n 0, 1) := by decide +kernel
theorem dX6_set_24 : decode cX6_set 24 = .ok (.getfield 9, 3) := by decide +kernel
theorem dX6_set_27 : decode cX6_set 27 = .ok (.iload 4, 2) := by decide +kernel
theorem dX6_set_29 : decode cX6_set 29 = .ok (.iload_n 3, 1) := by decide +kernel
theorem dX6_set_30 : decode cX6_set 30 = .ok (.iastore, 1) := by decide +kernel
theorem dX6_set_31 : decode cX6_set 31 = .ok (.return_, 1) := by decide +kernel
set_option maxRecDepth 100000 in
set_option maxHeartbeats 200000 in
theorem T_X6_set_0 {X : CX} (hX : Ok X cX6_set 5 RX6 none) (hdx : dX X = 2) {r : Hp} (k0 : Nat) (hk0 : isLog k0) (x1 : Int32) (x2 : Int32) (x3 : Int32) (h : Hp) (hf : f_X6_set k0 x1 x2 x3 h = some r) : J X ((.inl none, r)) 0 [(0, .ref k0), (1, .int x1), (2, .int x2), (3, .int x3)] [] h := by
  unfold f_X6_set at hf
  refine J_iload_n hX 1 dX6_set_0 rfl rfl ?_
  refine J_bipush hX 6 dX6_set_1 rfl ?_
  refine J_imul hX dX6_set_3 ?_
  refine J_iload_n hX 2 dX6_set_4 rfl rfl ?_
  refine J_iadd hX dX6_set_5 ?_
  obtain ⟨x4_1, e_2, hf⟩ := bndE hf
  refine J_nm e_2 ?_
  refine J_istore hX [(4, .int x4_1), (0, .ref k0), (1, .int x1), (2, .int x2), (3, .int x3)] dX6_set_6 rfl rfl ?_
  refine J_iload hX 0 dX6_set_8 rfl ?_
  rcases ifE hf with ⟨c_3, hf⟩ | ⟨c_3, hf⟩
  · refine J_if_ltT hX 31 dX6_set_10 rfl c_3 ?_
    exact E_Vi hX dX6_set_31 hf
  · refine J_if_ltF hX 31 dX6_set_10 rfl c_3 ?_
    refine J_iload hX 0 dX6_set_13 rfl ?_
    refine J_aload_n hX 1 dX6_set_15 rfl rfl ?_
    refine J_getR hX (k0 + 1) dX6_set_16 fl_X6_9 (log_ob hk0) rfl rfl ?_
    refine J_alen hX 360 dX6_set_19 (log_ar hk0) (by decide) rfl ?_
    rcases ifE hf with ⟨c_4, hf⟩ | ⟨c_4, hf⟩
    · refine J_icmp_geF hX 31 dX6_set_20 rfl c_4 ?_
      refine J_aload_n hX 1 dX6_set_23 rfl rfl ?_
      refine J_getR hX (k0 + 1) dX6_set_24 fl_X6_9 (log_ob hk0) rfl rfl ?_
      refine J_iload hX 0 dX6_set_27 rfl ?_
      refine J_iload_n hX 4 dX6_set_29 rfl rfl ?_
      obtain ⟨g_5, hf⟩ := gdE hf
      obtain ⟨h_6, e_7, hf⟩ := bndE hf
      refine J_ast hX x4_1.toNatClampNeg x3 dX6_set_30 (log_ar hk0) (Or.inl ⟨rfl, rfl, rfl⟩) g_5 rfl ?_
      refine J_nmh e_7 ?_
      exact E_Vi hX dX6_set_31 hf
    · refine J_icmp_geT hX 31 dX6_set_20 rfl c_4 ?_
      exact E_Vi hX dX6_set_31 hf
set_option maxRecDepth 100000 in
set_option maxHeartbeats 200000 in
theorem C_X6_set {G : GX} (hG : GOk G) {k0 : Nat} {x1 : Int32} {x2 : Int32} {x3 : Int32} {h : Hp} {r : Hp} (hk0 : isLog k0) (hf : f_X6_set k0 x1 x2 x3 h = some r) : Ctr G 2 yX6_set cX6_set 5 none [.ref k0, .int x1, .int x2, .int x3] h ((.inl none, r)) :=
  Ctr_of hG RX6 rfl (by decide) rfl (fun X _ hdx hX => T_X6_set_0 hX hdx k0 hk0 x1 x2 x3 h hf)
theorem dX6_add_0 : decode cX6_add 0 = .ok (.aload_n 0, 1) := by decide +kernel
theorem dX6_add_1 : decode cX6_add 1 = .ok (.getfield 15, 3) := by decide +kernel
theorem dX6_add_4 : decode cX6_add 4 = .ok (.bipush 60, 2) := by decide +kernel
theorem dX6_add_6 : decode cX6_add 6 = .ok (.if_icmp .lt 26, 3) := by decide +kernel
theorem dX6_add_9 : decode cX6_add 9 = .ok (.aload_n 0, 1) := by decide +kernel
theorem dX6_add_10 : decode cX6_add 10 = .ok (.getfield 9, 3) := by decide +kernel
theorem dX6_add_13 : decode cX6_add 13 = .ok (.bipush 6, 2) := by decide +kernel
theorem dX6_add_15 : decode cX6_add 15 = .ok (.aload_n 0, 1) := by decide +kernel
theorem dX6_add_16 : decode cX6_add 16 = .ok (.getfield 9, 3) := by decide +kernel
theorem dX6_add_19 : decode cX6_add 19 = .ok (.iconst 0, 1) := by decide +kernel
theorem dX6_add_20 : decode cX6_add 20 = .ok (.sipush 354, 3) := by decide +kernel
theorem dX6_add_23 : decode cX6_add 23 = .ok (.invokestatic 19, 3) := by decide +kernel
theorem dX6_add_26 : decode cX6_add 26 = .ok (.aload_n 0, 1) := by decide +kernel
theorem dX6_add_27 : decode cX6_add 27 = .ok (.bipush 59, 2) := by decide +kernel
theorem dX6_add_29 : decode cX6_add 29 = .ok (.putfield 15, 3) := by decide +kernel
theorem dX6_add_32 : decode cX6_add 32 = .ok (.aload_n 0, 1) := by decide +kernel
theorem dX6_add_33 : decode cX6_add 33 = .ok (.getfield 15, 3) := by decide +kernel
theorem dX6_add_36 : decode cX6_add 36 = .ok (.istore 7, 2) := by decide +kernel
theorem dX6_add_38 : decode cX6_add 38 = .ok (.aload_n 0, 1) := by decide +kernel
theorem dX6_add_39 : decode cX6_add 39 = .ok (.dup, 1) := by decide +kernel
theorem dX6_add_40 : decode cX6_add 40 = .ok (.getfield 15, 3) := by decide +kernel
theorem dX6_add_43 : decode cX6_add 43 = .ok (.iconst 1, 1) := by decide +kernel
theorem dX6_add_44 : decode cX6_add 44 = .ok (.iadd, 1) := by decide +kernel
theorem dX6_add_45 : decode cX6_add 45 = .ok (.putfield 15, 3) := by decide +kernel
theorem dX6_add_48 : decode cX6_add 48 = .ok (.aload_n 0, 1) := by decide +kernel
theorem dX6_add_49 : decode cX6_add 49 = .ok (.iload 7, 2) := by decide +kernel
theorem dX6_add_51 : decode cX6_add 51 = .ok (.iconst 0, 1) := by decide +kernel
theorem dX6_add_52 : decode cX6_add 52 = .ok (.iload_n 1, 1) := by decide +kernel
theorem dX6_add_53 : decode cX6_add 53 = .ok (.invokevirtual 25, 3) := by decide +kernel
theorem dX6_add_56 : decode cX6_add 56 = .ok (.aload_n 0, 1) := by decide +kernel
theorem dX6_add_57 : decode cX6_add 57 = .ok (.iload 7, 2) := by decide +kernel
theorem dX6_add_59 : decode cX6_add 59 = .ok (.iconst 1, 1) := by decide +kernel
theorem dX6_add_60 : decode cX6_add 60 = .ok (.iload_n 2, 1) := by decide +kernel
theorem dX6_add_61 : decode cX6_add 61 = .ok (.invokevirtual 25, 3) := by decide +kernel
theorem dX6_add_64 : decode cX6_add 64 = .ok (.aload_n 0, 1) := by decide +kernel
theorem dX6_add_65 : decode cX6_add 65 = .ok (.iload 7, 2) := by decide +kernel
theorem dX6_add_67 : decode cX6_add 67 = .ok (.iconst 2, 1) := by decide +kernel
theorem dX6_add_68 : decode cX6_add 68 = .ok (.iload_n 3, 1) := by decide +kernel
theorem dX6_add_69 : decode cX6_add 69 = .ok (.invokevirtual 25, 3) := by decide +kernel
theorem dX6_add_72 : decode cX6_add 72 = .ok (.aload_n 0, 1) := by decide +kernel
theorem dX6_add_73 : decode cX6_add 73 = .ok (.iload 7, 2) := by decide +kernel
theorem dX6_add_75 : decode cX6_add 75 = .ok (.iconst 3, 1) := by decide +kernel
theorem dX6_add_76 : decode cX6_add 76 = .ok (.iload 4, 2) := by decide +kernel
theorem dX6_add_78 : decode cX6_add 78 = .ok (.invokevirtual 25, 3) := by decide +kernel
theorem dX6_add_81 : decode cX6_add 81 = .ok (.aload_n 0, 1) := by decide +kernel
theorem dX6_add_82 : decode cX6_add 82 = .ok (.iload 7, 2) := by decide +kernel
theorem dX6_add_84 : decode cX6_add 84 = .ok (.iconst 4, 1) := by decide +kernel
theorem dX6_add_85 : decode cX6_add 85 = .ok (.iload 5, 2) := by decide +kernel
theorem dX6_add_87 : decode cX6_add 87 = .ok (.invokevirtual 25, 3) := by decide +kernel
theorem dX6_add_90 : decode cX6_add 90 = .ok (.aload_n 0, 1) := by decide +kernel
theorem dX6_add_91 : decode cX6_add 91 = .ok (.iload 7, 2) := by decide +kernel
theorem dX6_add_93 : decode cX6_add 93 = .ok (.iconst 5, 1) := by decide +kernel
theorem dX6_add_94 : decode cX6_add 94 = .ok (.iload 6, 2) := by decide +kernel
theorem dX6_add_96 : decode cX6_add 96 = .ok (.invokevirtual 25, 3) := by decide +kernel
theorem dX6_add_99 : decode cX6_add 99 = .ok (.return_, 1) := by decide +kernel
set_option maxRecDepth 100000 in
set_option maxHeartbeats 200000 in
theorem T_X6_add_32 {X : CX} (hX : Ok X cX6_add 8 RX6 none) (hdx : dX X = 3) {r : Hp} (k0 : Nat) (hk0 : isLog k0) (x1 : Int32) (x2 : Int32) (x3 : Int32) (x4 : Int32) (x5 : Int32) (x6 : Int32) (h : Hp) (hf : F_X6_add_32 k0 x1 x2 x3 x4 x5 x6 h = some r) : J X ((.inl none, r)) 32 [(0, .ref k0), (1, .int x1), (2, .int x2), (3, .int x3), (4, .int x4), (5, .int x5), (6, .int x6)] [] h := by
  unfold F_X6_add_32 at hf
  refine J_aload_n hX 0 dX6_add_32 rfl rfl ?_
  refine J_getI hX dX6_add_33 fl_X6_15 (log_ob hk0) rfl ?_
  refine J_istore hX [(7, .int (h k0 1)), (0, .ref k0), (1, .int x1), (2, .int x2), (3, .int x3), (4, .int x4), (5, .int x5), (6, .int x6)] dX6_add_36 rfl rfl ?_
  refine J_aload_n hX 1 dX6_add_38 rfl rfl ?_
  refine J_dup hX dX6_add_39 rfl ?_
  refine J_getI hX dX6_add_40 fl_X6_15 (log_ob hk0) rfl ?_
  refine J_iconst hX 1 dX6_add_43 rfl ?_
  refine J_iadd hX dX6_add_44 ?_
  obtain ⟨h_1, e_2, hf⟩ := bndE hf
  refine J_putI hX dX6_add_45 fl_X6_15 fw_4_1 (log_ob hk0) rfl rfl rfl ?_
  refine J_nmh e_2 ?_
  refine J_aload_n hX 1 dX6_add_48 rfl rfl ?_
  refine J_iload hX 0 dX6_add_49 rfl ?_
  refine J_iconst hX 0 dX6_add_51 rfl ?_
  refine J_iload_n hX 2 dX6_add_52 rfl rfl ?_
  obtain ⟨r_3, e_4, hf⟩ := bdE hf
  refine V_0 hX [.int (h k0 1), .int 0, .int x1] dX6_add_53 cw_X6_25 (log_ob hk0) rfl (C_X6_set (okG hX) hk0 e_4) (ltD hdx rfl) rfl rfl rfl rfl ?_
  refine J_aload_n hX 1 dX6_add_56 rfl rfl ?_
  refine J_iload hX 0 dX6_add_57 rfl ?_
  refine J_iconst hX 1 dX6_add_59 rfl ?_
  refine J_iload_n hX 3 dX6_add_60 rfl rfl ?_
  obtain ⟨r_5, e_6, hf⟩ := bdE hf
  refine V_0 hX [.int (h k0 1), .int 1, .int x2] dX6_add_61 cw_X6_25 (log_ob hk0) rfl (C_X6_set (okG hX) hk0 e_6) (ltD hdx rfl) rfl rfl rfl rfl ?_
  refine J_aload_n hX 1 dX6_add_64 rfl rfl ?_
  refine J_iload hX 0 dX6_add_65 rfl ?_
  refine J_iconst hX 2 dX6_add_67 rfl ?_
  refine J_iload_n hX 4 dX6_add_68 rfl rfl ?_
  obtain ⟨r_7, e_8, hf⟩ := bdE hf
  refine V_0 hX [.int (h k0 1), .int 2, .int x3] dX6_add_69 cw_X6_25 (log_ob hk0) rfl (C_X6_set (okG hX) hk0 e_8) (ltD hdx rfl) rfl rfl rfl rfl ?_
  refine J_aload_n hX 1 dX6_add_72 rfl rfl ?_
  refine J_iload hX 0 dX6_add_73 rfl ?_
  refine J_iconst hX 3 dX6_add_75 rfl ?_
  refine J_iload hX 5 dX6_add_76 rfl ?_
  obtain ⟨r_9, e_10, hf⟩ := bdE hf
  refine V_0 hX [.int (h k0 1), .int 3, .int x4] dX6_add_78 cw_X6_25 (log_ob hk0) rfl (C_X6_set (okG hX) hk0 e_10) (ltD hdx rfl) rfl rfl rfl rfl ?_
  refine J_aload_n hX 1 dX6_add_81 rfl rfl ?_
  refine J_iload hX 0 dX6_add_82 rfl ?_
  refine J_iconst hX 4 dX6_add_84 rfl ?_
  refine J_iload hX 6 dX6_add_85 rfl ?_
  obtain ⟨r_11, e_12, hf⟩ := bdE hf
  refine V_0 hX [.int (h k0 1), .int 4, .int x5] dX6_add_87 cw_X6_25 (log_ob hk0) rfl (C_X6_set (okG hX) hk0 e_12) (ltD hdx rfl) rfl rfl rfl rfl ?_
  refine J_aload_n hX 1 dX6_add_90 rfl rfl ?_
  refine J_iload hX 0 dX6_add_91 rfl ?_
  refine J_iconst hX 5 dX6_add_93 rfl ?_
  refine J_iload hX 7 dX6_add_94 rfl ?_
  obtain ⟨r_13, e_14, hf⟩ := bdE hf
  refine V_0 hX [.int (h k0 1), .int 5, .int x6] dX6_add_96 cw_X6_25 (log_ob hk0) rfl (C_X6_set (okG hX) hk0 e_14) (ltD hdx rfl) rfl rfl rfl rfl ?_
  exact E_Vi hX dX6_add_99 hf
set_option maxRecDepth 100000 in
set_option maxHeartbeats 200000 in
theorem T_X6_add_0 {X : CX} (hX : Ok X cX6_add 8 RX6 none) (hdx : dX X = 3) {r : Hp} (k0 : Nat) (hk0 : isLog k0) (x1 : Int32) (x2 : Int32) (x3 : Int32) (x4 : Int32) (x5 : Int32) (x6 : Int32) (h : Hp) (hf : f_X6_add k0 x1 x2 x3 x4 x5 x6 h = some r) : J X ((.inl none, r)) 0 [(0, .ref k0), (1, .int x1), (2, .int x2), (3, .int x3), (4, .int x4), (5, .int x5), (6, .int x6)] [] h := by
  unfold f_X6_add at hf
  refine J_aload_n hX 0 dX6_add_0 rfl rfl ?_
  refine J_getI hX dX6_add_1 fl_X6_15 (log_ob hk0) rfl ?_
  refine J_bipush hX 60 dX6_add_4 rfl ?_
  rcases ifE hf with ⟨c_1, hf⟩ | ⟨c_1, hf⟩
  · refine J_icmp_ltT hX 32 dX6_add_6 rfl c_1 ?_
    exact T_X6_add_32 hX hdx k0 hk0 x1 x2 x3 x4 x5 x6 h hf
  · refine J_icmp_ltF hX 32 dX6_add_6 rfl c_1 ?_
    refine J_aload_n hX 0 dX6_add_9 rfl rfl ?_
    refine J_getR hX (k0 + 1) dX6_add_10 fl_X6_9 (log_ob hk0) rfl rfl ?_
    refine J_bipush hX 6 dX6_add_13 rfl ?_
    refine J_aload_n hX 0 dX6_add_15 rfl rfl ?_
    refine J_getR hX (k0 + 1) dX6_add_16 fl_X6_9 (log_ob hk0) rfl rfl ?_
    refine J_iconst hX 0 dX6_add_19 rfl ?_
    refine J_sipush hX 354 dX6_add_20 rfl ?_
    obtain ⟨h_2, e_3, hf⟩ := bndE hf
    refine J_copy hX 6 0 354 dX6_add_23 aw_X6_19 (log_ar hk0) (log_ar hk0) (by decide) (by decide) (by decide) (by decide) (by decide) (by decide) (by decide) (by decide) (ltD hdx rfl) rfl ?_
    refine J_nmh e_3 ?_
    refine J_aload_n hX 0 dX6_add_26 rfl rfl ?_
    refine J_bipush hX 59 dX6_add_27 rfl ?_
    obtain ⟨h_4, e_5, hf⟩ := bndE hf
    refine J_putI hX dX6_add_29 fl_X6_15 fw_4_1 (log_ob hk0) rfl rfl rfl ?_
    refine J_nmh e_5 ?_
    exact T_X6_add_32 hX hdx k0 hk0 x1 x2 x3 x4 x5 x6 h_4 hf
set_option maxRecDepth 100000 in
set_option maxHeartbeats 200000 in
theorem C_X6_add {G : GX} (hG : GOk G) {k0 : Nat} {x1 : Int32} {x2 : Int32} {x3 : Int32} {x4 : Int32} {x5 : Int32} {x6 : Int32} {h : Hp} {r : Hp} (hk0 : isLog k0) (hf : f_X6_add k0 x1 x2 x3 x4 x5 x6 h = some r) : Ctr G 3 yX6_add cX6_add 8 none [.ref k0, .int x1, .int x2, .int x3, .int x4, .int x5, .int x6] h ((.inl none, r)) :=
  Ctr_of hG RX6 rfl (by decide) rfl (fun X _ hdx hX => T_X6_add_0 hX hdx k0 hk0 x1 x2 x3 x4 x5 x6 h hf)
theorem dX3_fell_0 : decode cX3_fell 0 = .ok (.iconst 0, 1) := by decide +kernel
theorem dX3_fell_1 : decode cX3_fell 1 = .ok (.istore 4, 2) := by decide +kernel
theorem dX3_fell_3 : decode cX3_fell 3 = .ok (.iload 4, 2) := by decide +kernel
theorem dX3_fell_5 : decode cX3_fell 5 = .ok (.bipush 8, 2) := by decide +kernel
theorem dX3_fell_7 : decode cX3_fell 7 = .ok (.if_icmp .ge 54, 3) := by decide +kernel
theorem dX3_fell_10 : decode cX3_fell 10 = .ok (.iload_n 2, 1) := by decide +kernel
theorem dX3_fell_11 : decode cX3_fell 11 = .ok (.iload 4, 2) := by decide +kernel
theorem dX3_fell_13 : decode cX3_fell 13 = .ok (.ishr, 1) := by decide +kernel
theorem dX3_fell_14 : decode cX3_fell 14 = .ok (.iconst 1, 1) := by decide +kernel
theorem dX3_fell_15 : decode cX3_fell 15 = .ok (.iand, 1) := by decide +kernel
theorem dX3_fell_16 : decode cX3_fell 16 = .ok (.iconst 1, 1) := by decide +kernel
theorem dX3_fell_17 : decode cX3_fell 17 = .ok (.if_icmp .ne 38, 3) := by decide +kernel
theorem dX3_fell_20 : decode cX3_fell 20 = .ok (.aload_n 1, 1) := by decide +kernel
theorem dX3_fell_21 : decode cX3_fell 21 = .ok (.getfield 34, 3) := by decide +kernel
theorem dX3_fell_24 : decode cX3_fell 24 = .ok (.aload_n 1, 1) := by decide +kernel
theorem dX3_fell_25 : decode cX3_fell 25 = .ok (.getfield 40, 3) := by decide +kernel
theorem dX3_fell_28 : decode cX3_fell 28 = .ok (.iload_n 3, 1) := by decide +kernel
theorem dX3_fell_29 : decode cX3_fell 29 = .ok (.iload 4, 2) := by decide +kernel
theorem dX3_fell_31 : decode cX3_fell 31 = .ok (.aload_n 0, 1) := by decide +kernel
theorem dX3_fell_32 : decode cX3_fell 32 = .ok (.getfield 18, 3) := by decide +kernel
theorem dX3_fell_35 : decode cX3_fell 35 = .ok (.aload_n 0, 1) := by decide +kernel
theorem dX3_fell_36 : decode cX3_fell 36 = .ok (.getfield 12, 3) := by decide +kernel
theorem dX3_fell_39 : decode cX3_fell 39 = .ok (.getfield 43, 3) := by decide +kernel
theorem dX3_fell_42 : decode cX3_fell 42 = .ok (.iload 4, 2) := by decide +kernel
theorem dX3_fell_44 : decode cX3_fell 44 = .ok (.iaload, 1) := by decide +kernel
theorem dX3_fell_45 : decode cX3_fell 45 = .ok (.iconst 0, 1) := by decide +kernel
theorem dX3_fell_46 : decode cX3_fell 46 = .ok (.invokevirtual 47, 3) := by decide +kernel
theorem dX3_fell_49 : decode cX3_fell 49 = .ok (.aload_n 1, 1) := by decide +kernel
theorem dX3_fell_50 : decode cX3_fell 50 = .ok (.iload 4, 2) := by decide +kernel
theorem dX3_fell_52 : decode cX3_fell 52 = .ok (.invokevirtual 53, 3) := by decide +kernel
theorem dX3_fell_55 : decode cX3_fell 55 = .ok (.iinc 4 1, 3) := by decide +kernel
theorem dX3_fell_58 : decode cX3_fell 58 = .ok (.goto (-55), 3) := by decide +kernel
theorem dX3_fell_61 : decode cX3_fell 61 = .ok (.return_, 1) := by decide +kernel
set_option maxRecDepth 100000 in
set_option maxHeartbeats 200000 in
theorem T_X3_fell_3_s {X : CX} (hX : Ok X cX3_fell 5 RX3 none) (hdx : dX X = 4) {r : Hp} (k1 : Nat) (hk1 : isCity k1) (x2 : Int32) (x3 : Int32) (q_3 : Int32 → Hp → Option Hp) (hq_3 : ∀ (x4 : Int32) (h : Hp), q_3 x4 h = some r → J X ((.inl none, r)) 3 [(0, .ref 4), (1, .ref k1), (2, .int x2), (3, .int x3), (4, .int x4)] [] h) (x4 : Int32) (h : Hp) (hf : S_X3_fell_3 k1 x2 x3 q_3 x4 h = some r) : J X ((.inl none, r)) 3 [(0, .ref 4), (1, .ref k1), (2, .int x2), (3, .int x3), (4, .int x4)] [] h := by
  unfold S_X3_fell_3 at hf
  refine J_iload hX 4 dX3_fell_3 rfl ?_
  refine J_bipush hX 8 dX3_fell_5 rfl ?_
  rcases ifE hf with ⟨c_1, hf⟩ | ⟨c_1, hf⟩
  · refine J_icmp_geF hX 61 dX3_fell_7 rfl c_1 ?_
    refine J_iload_n hX 2 dX3_fell_10 rfl rfl ?_
    refine J_iload hX 4 dX3_fell_11 rfl ?_
    refine J_ishr hX dX3_fell_13 ?_
    refine J_iconst hX 1 dX3_fell_14 rfl ?_
    refine J_iand hX dX3_fell_15 ?_
    refine J_iconst hX 1 dX3_fell_16 rfl ?_
    rcases ifE hf with ⟨c_2, hf⟩ | ⟨c_2, hf⟩
    · refine J_icmp_neF hX 55 dX3_fell_17 rfl c_2 ?_
      refine J_aload_n hX 1 dX3_fell_20 rfl rfl ?_
      refine J_getR hX (k1 + 9) dX3_fell_21 fl_X3_34 (city_ob hk1) rfl rfl ?_
      refine J_aload_n hX 1 dX3_fell_24 rfl rfl ?_
      refine J_getI hX dX3_fell_25 fl_X3_40 (city_ob hk1) rfl ?_
      refine J_iload_n hX 3 dX3_fell_28 rfl rfl ?_
      refine J_iload hX 4 dX3_fell_29 rfl ?_
      refine J_aload_n hX 0 dX3_fell_31 rfl rfl ?_
      refine J_getI hX dX3_fell_32 fl_X3_18 ob_4 rfl ?_
      refine J_aload_n hX 0 dX3_fell_35 rfl rfl ?_
      refine J_getR hX 5 dX3_fell_36 fl_X3_12 ob_4 rfl rfl ?_
      refine J_getR hX 9 dX3_fell_39 fl_X3_43 ob_5 rfl rfl ?_
      refine J_iload hX 4 dX3_fell_42 rfl ?_
      obtain ⟨g_3, hf⟩ := gdE hf
      refine J_ald hX x4.toNatClampNeg dX3_fell_44 ar_9 (Or.inl ⟨rfl, rfl⟩) g_3 rfl ?_
      refine J_iconst hX 0 dX3_fell_45 rfl ?_
      obtain ⟨r_4, e_5, hf⟩ := bdE hf
      refine V_0 hX [.int (h k1 13), .int x3, .int x4, .int (h 4 1), .int (h 9 x4.toNatClampNeg), .int 0] dX3_fell_46 cw_X3_47 (log_ob (city_log hk1)) rfl (C_X6_add (okG hX) (city_log hk1) e_5) (ltD hdx rfl) rfl rfl rfl rfl ?_
      refine J_aload_n hX 1 dX3_fell_49 rfl rfl ?_
      refine J_iload hX 4 dX3_fell_50 rfl ?_
      obtain ⟨r_6, e_7, hf⟩ := bdE hf
      refine V_0 hX [.int x4] dX3_fell_52 cw_X3_53 (city_ob hk1) rfl (C_X1_takeDown (okG hX) hk1 e_7) (ltD hdx rfl) rfl rfl rfl rfl ?_
      refine J_iinc hX (x4 + 1) 4 [(4, .int (x4 + 1)), (0, .ref 4), (1, .ref k1), (2, .int x2), (3, .int x3)] dX3_fell_55 rfl rfl rfl rfl ?_
      refine J_goto hX 3 dX3_fell_58 rfl ?_
      refine J_sub [1, 2, 3, 4, 0] [(0, .ref 4), (1, .ref k1), (2, .int x2), (3, .int x3), (4, .int (x4 + 1))] rfl ?_
      exact hq_3 (x4 + 1) r_6 hf
    · refine J_icmp_neT hX 55 dX3_fell_17 rfl c_2 ?_
      refine J_iinc hX (x4 + 1) 4 [(4, .int (x4 + 1)), (0, .ref 4), (1, .ref k1), (2, .int x2), (3, .int x3)] dX3_fell_55 rfl rfl rfl rfl ?_
      refine J_goto hX 3 dX3_fell_58 rfl ?_
      refine J_sub [1, 2, 3, 4, 0] [(0, .ref 4), (1, .ref k1), (2, .int x2), (3, .int x3), (4, .int (x4 + 1))] rfl ?_
      exact hq_3 (x4 + 1) h hf
  · refine J_icmp_geT hX 61 dX3_fell_7 rfl c_1 ?_
    exact E_Vi hX dX3_fell_61 hf
set_option maxRecDepth 100000 in
set_option maxHeartbeats 200000 in
theorem T_X3_fell_3 {X : CX} (hX : Ok X cX3_fell 5 RX3 none) (hdx : dX X = 4) {r : Hp} (k1 : Nat) (hk1 : isCity k1) (x2 : Int32) (x3 : Int32) : ∀ (n : Nat) (x4 : Int32) (h : Hp), F_X3_fell_3 k1 x2 x3 n x4 h = some r → J X ((.inl none, r)) 3 [(0, .ref 4), (1, .ref k1), (2, .int x2), (3, .int x3), (4, .int x4)] [] h := by
  intro n
  induction n with
  | zero => intro x4 h hf; exact nomatch hf
  | succ n ih => intro x4 h hf; exact T_X3_fell_3_s hX hdx k1 hk1 x2 x3 _ (fun x4 h hf => ih x4 h hf) x4 h hf
set_option maxRecDepth 100000 in
set_option maxHeartbeats 200000 in
theorem T_X3_fell_0 {X : CX} (hX : Ok X cX3_fell 5 RX3 none) (hdx : dX X = 4) {r : Hp} (k1 : Nat) (hk1 : isCity k1) (x2 : Int32) (x3 : Int32) (h : Hp) (hf : f_X3_fell k1 x2 x3 h = some r) : J X ((.inl none, r)) 0 [(0, .ref 4), (1, .ref k1), (2, .int x2), (3, .int x3)] [] h := by
  unfold f_X3_fell at hf
  refine J_iconst hX 0 dX3_fell_0 rfl ?_
  refine J_istore hX [(4, .int 0), (0, .ref 4), (1, .ref k1), (2, .int x2), (3, .int x3)] dX3_fell_1 rfl rfl ?_
  refine J_sub [1, 2, 3, 4, 0] [(0, .ref 4), (1, .ref k1), (2, .int x2), (3, .int x3), (4, .int 0)] rfl ?_
  exact T_X3_fell_3 hX hdx k1 hk1 x2 x3 FU 0 h hf
set_option maxRecDepth 100000 in
set_option maxHeartbeats 200000 in
theorem C_X3_fell {G : GX} (hG : GOk G) {k1 : Nat} {x2 : Int32} {x3 : Int32} {h : Hp} {r : Hp} (hk1 : isCity k1) (hf : f_X3_fell k1 x2 x3 h = some r) : Ctr G 4 yX3_fell cX3_fell 5 none [.ref 4, .ref k1, .int x2, .int x3] h ((.inl none, r)) :=
  Ctr_of hG RX3 rfl (by decide) rfl (fun X _ hdx hX => T_X3_fell_0 hX hdx k1 hk1 x2 x3 h hf)
theorem dX3_fall_0 : decode cX3_fall 0 = .ok (.iconst 0, 1) := by decide +kernel
theorem dX3_fall_1 : decode cX3_fall 1 = .ok (.istore 4, 2) := by decide +kernel
theorem dX3_fall_3 : decode cX3_fall 3 = .ok (.aload_n 0, 1) := by decide +kernel
theorem dX3_fall_4 : decode cX3_fall 4 = .ok (.iconst 0, 1) := by decide +kernel
theorem dX3_fall_5 : decode cX3_fall 5 = .ok (.putfield 18, 3) := by decide +kernel
theorem dX3_fall_8 : decode cX3_fall 8 = .ok (.iconst 0, 1) := by decide +kernel
theorem dX3_fall_9 : decode cX3_fall 9 = .ok (.istore 5, 2) := by decide +kernel
theorem dX3_fall_11 : decode cX3_fall 11 = .ok (.iload 5, 2) := by decide +kernel
theorem dX3_fall_13 : decode cX3_fall 13 = .ok (.bipush 8, 2) := by decide +kernel
theorem dX3_fall_15 : decode cX3_fall 15 = .ok (.if_icmp .gt 61, 3) := by decide +kernel
theorem dX3_fall_18 : decode cX3_fall 18 = .ok (.aload_n 0, 1) := by decide +kernel
theorem dX3_fall_19 : decode cX3_fall 19 = .ok (.getfield 12, 3) := by decide +kernel
theorem dX3_fall_22 : decode cX3_fall 22 = .ok (.aload_n 1, 1) := by decide +kernel
theorem dX3_fall_23 : decode cX3_fall 23 = .ok (.aload_n 2, 1) := by decide +kernel
theorem dX3_fall_24 : decode cX3_fall 24 = .ok (.iload_n 3, 1) := by decide +kernel
theorem dX3_fall_25 : decode cX3_fall 25 = .ok (.invokevirtual 22, 3) := by decide +kernel
theorem dX3_fall_28 : decode cX3_fall 28 = .ok (.aload_n 0, 1) := by decide +kernel
theorem dX3_fall_29 : decode cX3_fall 29 = .ok (.getfield 12, 3) := by decide +kernel
theorem dX3_fall_32 : decode cX3_fall 32 = .ok (.invokevirtual 26, 3) := by decide +kernel
theorem dX3_fall_35 : decode cX3_fall 35 = .ok (.istore 6, 2) := by decide +kernel
theorem dX3_fall_37 : decode cX3_fall 37 = .ok (.iload 6, 2) := by decide +kernel
theorem dX3_fall_39 : decode cX3_fall 39 = .ok (.ifCond .ne 6, 3) := by decide +kernel
theorem dX3_fall_42 : decode cX3_fall 42 = .ok (.iload 4, 2) := by decide +kernel
theorem dX3_fall_44 : decode cX3_fall 44 = .ok (.ireturn, 1) := by decide +kernel
theorem dX3_fall_45 : decode cX3_fall 45 = .ok (.aload_n 0, 1) := by decide +kernel
theorem dX3_fall_46 : decode cX3_fall 46 = .ok (.dup, 1) := by decide +kernel
theorem dX3_fall_47 : decode cX3_fall 47 = .ok (.getfield 18, 3) := by decide +kernel
theorem dX3_fall_50 : decode cX3_fall 50 = .ok (.iconst 1, 1) := by decide +kernel
theorem dX3_fall_51 : decode cX3_fall 51 = .ok (.iadd, 1) := by decide +kernel
theorem dX3_fall_52 : decode cX3_fall 52 = .ok (.putfield 18, 3) := by decide +kernel
theorem dX3_fall_55 : decode cX3_fall 55 = .ok (.iload 4, 2) := by decide +kernel
theorem dX3_fall_57 : decode cX3_fall 57 = .ok (.iload 6, 2) := by decide +kernel
theorem dX3_fall_59 : decode cX3_fall 59 = .ok (.ior, 1) := by decide +kernel
theorem dX3_fall_60 : decode cX3_fall 60 = .ok (.istore 4, 2) := by decide +kernel
theorem dX3_fall_62 : decode cX3_fall 62 = .ok (.aload_n 0, 1) := by decide +kernel
theorem dX3_fall_63 : decode cX3_fall 63 = .ok (.aload_n 1, 1) := by decide +kernel
theorem dX3_fall_64 : decode cX3_fall 64 = .ok (.iload 6, 2) := by decide +kernel
theorem dX3_fall_66 : decode cX3_fall 66 = .ok (.iload_n 3, 1) := by decide +kernel
theorem dX3_fall_67 : decode cX3_fall 67 = .ok (.invokevirtual 30, 3) := by decide +kernel
theorem dX3_fall_70 : decode cX3_fall 70 = .ok (.iinc 5 1, 3) := by decide +kernel
theorem dX3_fall_73 : decode cX3_fall 73 = .ok (.goto (-62), 3) := by decide +kernel
theorem dX3_fall_76 : decode cX3_fall 76 = .ok (.iload 4, 2) := by decide +kernel
theorem dX3_fall_78 : decode cX3_fall 78 = .ok (.ireturn, 1) := by decide +kernel
set_option maxRecDepth 100000 in
set_option maxHeartbeats 200000 in
theorem T_X3_fall_11_s {X : CX} (hX : Ok X cX3_fall 7 RX3 (some .int)) (hdx : dX X = 6) {r : Int32 × Hp} (k1 : Nat) (hk1 : isCity k1) (k2 : Nat) (hk2 : isLaw k2) (x3 : Int32) (q_11 : Int32 → Int32 → Hp → Option (Int32 × Hp)) (hq_11 : ∀ (x4 : Int32) (x5 : Int32) (h : Hp), q_11 x4 x5 h = some r → J X ((.inl (some (.int r.1)), r.2)) 11 [(0, .ref 4), (1, .ref k1), (2, .ref k2), (3, .int x3), (4, .int x4), (5, .int x5)] [] h) (x4 : Int32) (x5 : Int32) (h : Hp) (hf : S_X3_fall_11 k1 k2 x3 q_11 x4 x5 h = some r) : J X ((.inl (some (.int r.1)), r.2)) 11 [(0, .ref 4), (1, .ref k1), (2, .ref k2), (3, .int x3), (4, .int x4), (5, .int x5)] [] h := by
  unfold S_X3_fall_11 at hf
  refine J_iload hX 5 dX3_fall_11 rfl ?_
  refine J_bipush hX 8 dX3_fall_13 rfl ?_
  rcases ifE hf with ⟨c_1, hf⟩ | ⟨c_1, hf⟩
  · refine J_icmp_gtT hX 76 dX3_fall_15 rfl c_1 ?_
    refine J_iload hX 4 dX3_fall_76 rfl ?_
    exact E_Ii hX dX3_fall_78 hf
  · refine J_icmp_gtF hX 76 dX3_fall_15 rfl c_1 ?_
    refine J_aload_n hX 0 dX3_fall_18 rfl rfl ?_
    refine J_getR hX 5 dX3_fall_19 fl_X3_12 ob_4 rfl rfl ?_
    refine J_aload_n hX 1 dX3_fall_22 rfl rfl ?_
    refine J_aload_n hX 2 dX3_fall_23 rfl rfl ?_
    refine J_iload_n hX 3 dX3_fall_24 rfl rfl ?_
    obtain ⟨r_2, e_3, hf⟩ := bdE hf
    refine V_0 hX [.ref k1, .ref k2, .int x3] dX3_fall_25 cw_X3_22 ob_5 rfl (C_X9_measure (okG hX) hk1 hk2 e_3) (ltD hdx rfl) rfl rfl rfl rfl ?_
    refine J_aload_n hX 0 dX3_fall_28 rfl rfl ?_
    refine J_getR hX 5 dX3_fall_29 fl_X3_12 ob_4 rfl rfl ?_
    obtain ⟨r_4, e_5, hf⟩ := bdE hf
    refine V_1 hX [] dX3_fall_32 cw_X3_26 ob_5 rfl (C_X9_saggingSet (okG hX) e_5) (ltD hdx rfl) rfl rfl rfl rfl ?_
    refine J_istore hX [(6, .int r_4), (0, .ref 4), (1, .ref k1), (2, .ref k2), (3, .int x3), (4, .int x4), (5, .int x5)] dX3_fall_35 rfl rfl ?_
    refine J_iload hX 0 dX3_fall_37 rfl ?_
    rcases ifE hf with ⟨c_6, hf⟩ | ⟨c_6, hf⟩
    · refine J_if_neF hX 45 dX3_fall_39 rfl c_6 ?_
      refine J_iload hX 5 dX3_fall_42 rfl ?_
      exact E_Ii hX dX3_fall_44 hf
    · refine J_if_neT hX 45 dX3_fall_39 rfl c_6 ?_
      refine J_aload_n hX 1 dX3_fall_45 rfl rfl ?_
      refine J_dup hX dX3_fall_46 rfl ?_
      refine J_getI hX dX3_fall_47 fl_X3_18 ob_4 rfl ?_
      refine J_iconst hX 1 dX3_fall_50 rfl ?_
      refine J_iadd hX dX3_fall_51 ?_
      obtain ⟨h_7, e_8, hf⟩ := bndE hf
      refine J_putI hX dX3_fall_52 fl_X3_18 fw_2_1 ob_4 rfl rfl rfl ?_
      refine J_nmh e_8 ?_
      refine J_iload hX 5 dX3_fall_55 rfl ?_
      refine J_iload hX 0 dX3_fall_57 rfl ?_
      refine J_ior hX dX3_fall_59 ?_
      obtain ⟨x4_9, e_10, hf⟩ := bndE hf
      refine J_nm e_10 ?_
      refine J_istore hX [(4, .int x4_9), (6, .int r_4), (0, .ref 4), (1, .ref k1), (2, .ref k2), (3, .int x3), (5, .int x5)] dX3_fall_60 rfl rfl ?_
      refine J_aload_n hX 2 dX3_fall_62 rfl rfl ?_
      refine J_aload_n hX 3 dX3_fall_63 rfl rfl ?_
      refine J_iload hX 1 dX3_fall_64 rfl ?_
      refine J_iload_n hX 5 dX3_fall_66 rfl rfl ?_
      obtain ⟨r_11, e_12, hf⟩ := bdE hf
      refine V_0 hX [.ref k1, .int r_4, .int x3] dX3_fall_67 cw_X3_30 ob_4 rfl (C_X3_fell (okG hX) hk1 e_12) (ltD hdx rfl) rfl rfl rfl rfl ?_
      refine J_iinc hX (x5 + 1) 6 [(5, .int (x5 + 1)), (4, .int x4_9), (6, .int r_4), (0, .ref 4), (1, .ref k1), (2, .ref k2), (3, .int x3)] dX3_fall_70 rfl rfl rfl rfl ?_
      refine J_goto hX 11 dX3_fall_73 rfl ?_
      refine J_sub [3, 4, 5, 6, 1, 0] [(0, .ref 4), (1, .ref k1), (2, .ref k2), (3, .int x3), (4, .int x4_9), (5, .int (x5 + 1))] rfl ?_
      exact hq_11 x4_9 (x5 + 1) r_11 hf
set_option maxRecDepth 100000 in
set_option maxHeartbeats 200000 in
theorem T_X3_fall_11 {X : CX} (hX : Ok X cX3_fall 7 RX3 (some .int)) (hdx : dX X = 6) {r : Int32 × Hp} (k1 : Nat) (hk1 : isCity k1) (k2 : Nat) (hk2 : isLaw k2) (x3 : Int32) : ∀ (n : Nat) (x4 : Int32) (x5 : Int32) (h : Hp), F_X3_fall_11 k1 k2 x3 n x4 x5 h = some r → J X ((.inl (some (.int r.1)), r.2)) 11 [(0, .ref 4), (1, .ref k1), (2, .ref k2), (3, .int x3), (4, .int x4), (5, .int x5)] [] h := by
  intro n
  induction n with
  | zero => intro x4 x5 h hf; exact nomatch hf
  | succ n ih => intro x4 x5 h hf; exact T_X3_fall_11_s hX hdx k1 hk1 k2 hk2 x3 _ (fun x4 x5 h hf => ih x4 x5 h hf) x4 x5 h hf
set_option maxRecDepth 100000 in
set_option maxHeartbeats 200000 in
theorem T_X3_fall_0 {X : CX} (hX : Ok X cX3_fall 7 RX3 (some .int)) (hdx : dX X = 6) {r : Int32 × Hp} (k1 : Nat) (hk1 : isCity k1) (k2 : Nat) (hk2 : isLaw k2) (x3 : Int32) (h : Hp) (hf : f_X3_fall k1 k2 x3 h = some r) : J X ((.inl (some (.int r.1)), r.2)) 0 [(0, .ref 4), (1, .ref k1), (2, .ref k2), (3, .int x3)] [] h := by
  unfold f_X3_fall at hf
  refine J_iconst hX 0 dX3_fall_0 rfl ?_
  refine J_istore hX [(4, .int 0), (0, .ref 4), (1, .ref k1), (2, .ref k2), (3, .int x3)] dX3_fall_1 rfl rfl ?_
  refine J_aload_n hX 1 dX3_fall_3 rfl rfl ?_
  refine J_iconst hX 0 dX3_fall_4 rfl ?_
  obtain ⟨h_1, e_2, hf⟩ := bndE hf
  refine J_putI hX dX3_fall_5 fl_X3_18 fw_2_1 ob_4 rfl rfl rfl ?_
  refine J_nmh e_2 ?_
  refine J_iconst hX 0 dX3_fall_8 rfl ?_
  refine J_istore hX [(5, .int 0), (4, .int 0), (0, .ref 4), (1, .ref k1), (2, .ref k2), (3, .int x3)] dX3_fall_9 rfl rfl ?_
  refine J_sub [2, 3, 4, 5, 1, 0] [(0, .ref 4), (1, .ref k1), (2, .ref k2), (3, .int x3), (4, .int 0), (5, .int 0)] rfl ?_
  exact T_X3_fall_11 hX hdx k1 hk1 k2 hk2 x3 FU 0 0 h_1 hf
set_option maxRecDepth 100000 in
set_option maxHeartbeats 200000 in
theorem C_X3_fall {G : GX} (hG : GOk G) {k1 : Nat} {k2 : Nat} {x3 : Int32} {h : Hp} {r : Int32 × Hp} (hk1 : isCity k1) (hk2 : isLaw k2) (hf : f_X3_fall k1 k2 x3 h = some r) : Ctr G 6 yX3_fall cX3_fall 7 (some .int) [.ref 4, .ref k1, .ref k2, .int x3] h ((.inl (some (.int r.1)), r.2)) :=
  Ctr_of hG RX3 rfl (by decide) rfl (fun X _ hdx hX => T_X3_fall_0 hX hdx k1 hk1 k2 hk2 x3 h hf)
theorem dX3_growAll_0 : decode cX3_growAll 0 = .ok (.iconst 0, 1) := by decide +kernel
theorem dX3_growAll_1 : decode cX3_growAll 1 = .ok (.istore_n 2, 1) := by decide +kernel
theorem dX3_growAll_2 : decode cX3_growAll 2 = .ok (.iload_n 2, 1) := by decide +kernel
theorem dX3_growAll_3 : decode cX3_growAll 3 = .ok (.bipush 8, 2) := by decide +kernel
theorem dX3_growAll_5 : decode cX3_growAll 5 = .ok (.if_icmp .ge 70, 3) := by decide +kernel
theorem dX3_growAll_8 : decode cX3_growAll 8 = .ok (.aload_n 1, 1) := by decide +kernel
theorem dX3_growAll_9 : decode cX3_growAll 9 = .ok (.iload_n 2, 1) := by decide +kernel
theorem dX3_growAll_10 : decode cX3_growAll 10 = .ok (.invokevirtual 81, 3) := by decide +kernel
theorem dX3_growAll_13 : decode cX3_growAll 13 = .ok (.ifCond .eq 56, 3) := by decide +kernel
theorem dX3_growAll_16 : decode cX3_growAll 16 = .ok (.aload_n 1, 1) := by decide +kernel
theorem dX3_growAll_17 : decode cX3_growAll 17 = .ok (.getfield 85, 3) := by decide +kernel
theorem dX3_growAll_20 : decode cX3_growAll 20 = .ok (.iload_n 2, 1) := by decide +kernel
theorem dX3_growAll_21 : decode cX3_growAll 21 = .ok (.bipush 9, 2) := by decide +kernel
theorem dX3_growAll_23 : decode cX3_growAll 23 = .ok (.aload_n 1, 1) := by decide +kernel
theorem dX3_growAll_24 : decode cX3_growAll 24 = .ok (.getfield 85, 3) := by decide +kernel
theorem dX3_growAll_27 : decode cX3_growAll 27 = .ok (.iload_n 2, 1) := by decide +kernel
theorem dX3_growAll_28 : decode cX3_growAll 28 = .ok (.iaload, 1) := by decide +kernel
theorem dX3_growAll_29 : decode cX3_growAll 29 = .ok (.aload_n 0, 1) := by decide +kernel
theorem dX3_growAll_30 : decode cX3_growAll 30 = .ok (.getfield 12, 3) := by decide +kernel
theorem dX3_growAll_33 : decode cX3_growAll 33 = .ok (.getfield 88, 3) := by decide +kernel
theorem dX3_growAll_36 : decode cX3_growAll 36 = .ok (.iload_n 2, 1) := by decide +kernel
theorem dX3_growAll_37 : decode cX3_growAll 37 = .ok (.iaload, 1) := by decide +kernel
theorem dX3_growAll_38 : decode cX3_growAll 38 = .ok (.iadd, 1) := by decide +kernel
theorem dX3_growAll_39 : decode cX3_growAll 39 = .ok (.invokestatic 75, 3) := by decide +kernel
theorem dX3_growAll_42 : decode cX3_growAll 42 = .ok (.iastore, 1) := by decide +kernel
theorem dX3_growAll_43 : decode cX3_growAll 43 = .ok (.aload_n 1, 1) := by decide +kernel
theorem dX3_growAll_44 : decode cX3_growAll 44 = .ok (.getfield 61, 3) := by decide +kernel
theorem dX3_growAll_47 : decode cX3_growAll 47 = .ok (.ifCond .ne 22, 3) := by decide +kernel
theorem dX3_growAll_50 : decode cX3_growAll 50 = .ok (.aload_n 1, 1) := by decide +kernel
theorem dX3_growAll_51 : decode cX3_growAll 51 = .ok (.getfield 91, 3) := by decide +kernel
theorem dX3_growAll_54 : decode cX3_growAll 54 = .ok (.iload_n 2, 1) := by decide +kernel
theorem dX3_growAll_55 : decode cX3_growAll 55 = .ok (.bipush 99, 2) := by decide +kernel
theorem dX3_growAll_57 : decode cX3_growAll 57 = .ok (.aload_n 1, 1) := by decide +kernel
theorem dX3_growAll_58 : decode cX3_growAll 58 = .ok (.getfield 91, 3) := by decide +kernel
theorem dX3_growAll_61 : decode cX3_growAll 61 = .ok (.iload_n 2, 1) := by decide +kernel
theorem dX3_growAll_62 : decode cX3_growAll 62 = .ok (.iaload, 1) := by decide +kernel
theorem dX3_growAll_63 : decode cX3_growAll 63 = .ok (.iconst 1, 1) := by decide +kernel
theorem dX3_growAll_64 : decode cX3_growAll 64 = .ok (.iadd, 1) := by decide +kernel
theorem dX3_growAll_65 : decode cX3_growAll 65 = .ok (.invokestatic 75, 3) := by decide +kernel
theorem dX3_growAll_68 : decode cX3_growAll 68 = .ok (.iastore, 1) := by decide +kernel
theorem dX3_growAll_69 : decode cX3_growAll 69 = .ok (.iinc 2 1, 3) := by decide +kernel
theorem dX3_growAll_72 : decode cX3_growAll 72 = .ok (.goto (-70), 3) := by decide +kernel
theorem dX3_growAll_75 : decode cX3_growAll 75 = .ok (.return_, 1) := by decide +kernel
set_option maxRecDepth 100000 in
set_option maxHeartbeats 200000 in
theorem T_X3_growAll_2_s {X : CX} (hX : Ok X cX3_growAll 3 RX3 none) (hdx : dX X = 4) {r : Hp} (k1 : Nat) (hk1 : isCity k1) (q_2 : Int32 → Hp → Option Hp) (hq_2 : ∀ (x2 : Int32) (h : Hp), q_2 x2 h = some r → J X ((.inl none, r)) 2 [(0, .ref 4), (1, .ref k1), (2, .int x2)] [] h) (x2 : Int32) (h : Hp) (hf : S_X3_growAll_2 k1 q_2 x2 h = some r) : J X ((.inl none, r)) 2 [(0, .ref 4), (1, .ref k1), (2, .int x2)] [] h := by
  unfold S_X3_growAll_2 at hf
  refine J_iload_n hX 2 dX3_growAll_2 rfl rfl ?_
  refine J_bipush hX 8 dX3_growAll_3 rfl ?_
  rcases ifE hf with ⟨c_1, hf⟩ | ⟨c_1, hf⟩
  · refine J_icmp_geF hX 75 dX3_growAll_5 rfl c_1 ?_
    refine J_aload_n hX 1 dX3_growAll_8 rfl rfl ?_
    refine J_iload_n hX 2 dX3_growAll_9 rfl rfl ?_
    refine V_1 hX [.int x2] dX3_growAll_10 cw_X3_81 (city_ob hk1) rfl (C_X1_isUp (okG hX) hk1 rfl) (ltD hdx rfl) rfl rfl rfl rfl ?_
    rcases ifE hf with ⟨c_2, hf⟩ | ⟨c_2, hf⟩
    · refine J_if_eqF hX 69 dX3_growAll_13 rfl (b2iT c_2) ?_
      refine J_aload_n hX 1 dX3_growAll_16 rfl rfl ?_
      refine J_getR hX (k1 + 3) dX3_growAll_17 fl_X3_85 (city_ob hk1) rfl rfl ?_
      refine J_iload_n hX 2 dX3_growAll_20 rfl rfl ?_
      refine J_bipush hX 9 dX3_growAll_21 rfl ?_
      refine J_aload_n hX 1 dX3_growAll_23 rfl rfl ?_
      refine J_getR hX (k1 + 3) dX3_growAll_24 fl_X3_85 (city_ob hk1) rfl rfl ?_
      refine J_iload_n hX 2 dX3_growAll_27 rfl rfl ?_
      obtain ⟨g_3, hf⟩ := gdE hf
      refine J_ald hX x2.toNatClampNeg dX3_growAll_28 (city_ar 3 8 (by decide) hk1) (Or.inl ⟨rfl, rfl⟩) g_3 rfl ?_
      refine J_aload_n hX 0 dX3_growAll_29 rfl rfl ?_
      refine J_getR hX 5 dX3_growAll_30 fl_X3_12 ob_4 rfl rfl ?_
      refine J_getR hX 10 dX3_growAll_33 fl_X3_88 ob_5 rfl rfl ?_
      refine J_iload_n hX 2 dX3_growAll_36 rfl rfl ?_
      obtain ⟨g_4, hf⟩ := gdE hf
      refine J_ald hX x2.toNatClampNeg dX3_growAll_37 ar_10 (Or.inl ⟨rfl, rfl⟩) g_4 rfl ?_
      refine J_iadd hX dX3_growAll_38 ?_
      refine J_min hX dX3_growAll_39 mw_X3_75 (ltD hdx rfl) rfl ?_
      obtain ⟨g_5, hf⟩ := gdE hf
      obtain ⟨h_6, e_7, hf⟩ := bndE hf
      refine J_ast hX x2.toNatClampNeg (imin 9 ((h (k1 + 3) x2.toNatClampNeg) + (h 10 x2.toNatClampNeg))) dX3_growAll_42 (city_ar 3 8 (by decide) hk1) (Or.inl ⟨rfl, rfl, rfl⟩) g_5 rfl ?_
      refine J_nmh e_7 ?_
      refine J_aload_n hX 1 dX3_growAll_43 rfl rfl ?_
      refine J_getI hX dX3_growAll_44 fl_X3_61 (city_ob hk1) rfl ?_
      rcases ifE hf with ⟨c_8, hf⟩ | ⟨c_8, hf⟩
      · refine J_if_neF hX 69 dX3_growAll_47 rfl c_8 ?_
        refine J_aload_n hX 1 dX3_growAll_50 rfl rfl ?_
        refine J_getR hX (k1 + 4) dX3_growAll_51 fl_X3_91 (city_ob hk1) rfl rfl ?_
        refine J_iload_n hX 2 dX3_growAll_54 rfl rfl ?_
        refine J_bipush hX 99 dX3_growAll_55 rfl ?_
        refine J_aload_n hX 1 dX3_growAll_57 rfl rfl ?_
        refine J_getR hX (k1 + 4) dX3_growAll_58 fl_X3_91 (city_ob hk1) rfl rfl ?_
        refine J_iload_n hX 2 dX3_growAll_61 rfl rfl ?_
        obtain ⟨g_9, hf⟩ := gdE hf
        refine J_ald hX x2.toNatClampNeg dX3_growAll_62 (city_ar 4 8 (by decide) hk1) (Or.inl ⟨rfl, rfl⟩) g_9 rfl ?_
        refine J_iconst hX 1 dX3_growAll_63 rfl ?_
        refine J_iadd hX dX3_growAll_64 ?_
        refine J_min hX dX3_growAll_65 mw_X3_75 (ltD hdx rfl) rfl ?_
        obtain ⟨g_10, hf⟩ := gdE hf
        obtain ⟨h_11, e_12, hf⟩ := bndE hf
        refine J_ast hX x2.toNatClampNeg (imin 99 ((h_6 (k1 + 4) x2.toNatClampNeg) + 1)) dX3_growAll_68 (city_ar 4 8 (by decide) hk1) (Or.inl ⟨rfl, rfl, rfl⟩) g_10 rfl ?_
        refine J_nmh e_12 ?_
        refine J_iinc hX (x2 + 1) 2 [(2, .int (x2 + 1)), (0, .ref 4), (1, .ref k1)] dX3_growAll_69 rfl rfl rfl rfl ?_
        refine J_goto hX 2 dX3_growAll_72 rfl ?_
        refine J_sub [1, 2, 0] [(0, .ref 4), (1, .ref k1), (2, .int (x2 + 1))] rfl ?_
        exact hq_2 (x2 + 1) h_11 hf
      · refine J_if_neT hX 69 dX3_growAll_47 rfl c_8 ?_
        refine J_iinc hX (x2 + 1) 2 [(2, .int (x2 + 1)), (0, .ref 4), (1, .ref k1)] dX3_growAll_69 rfl rfl rfl rfl ?_
        refine J_goto hX 2 dX3_growAll_72 rfl ?_
        refine J_sub [1, 2, 0] [(0, .ref 4), (1, .ref k1), (2, .int (x2 + 1))] rfl ?_
        exact hq_2 (x2 + 1) h_6 hf
    · refine J_if_eqT hX 69 dX3_growAll_13 rfl (b2iF c_2) ?_
      refine J_iinc hX (x2 + 1) 2 [(2, .int (x2 + 1)), (0, .ref 4), (1, .ref k1)] dX3_growAll_69 rfl rfl rfl rfl ?_
      refine J_goto hX 2 dX3_growAll_72 rfl ?_
      refine J_sub [1, 2, 0] [(0, .ref 4), (1, .ref k1), (2, .int (x2 + 1))] rfl ?_
      exact hq_2 (x2 + 1) h hf
  · refine J_icmp_geT hX 75 dX3_growAll_5 rfl c_1 ?_
    exact E_Vi hX dX3_growAll_75 hf
set_option maxRecDepth 100000 in
set_option maxHeartbeats 200000 in
theorem T_X3_growAll_2 {X : CX} (hX : Ok X cX3_growAll 3 RX3 none) (hdx : dX X = 4) {r : Hp} (k1 : Nat) (hk1 : isCity k1) : ∀ (n : Nat) (x2 : Int32) (h : Hp), F_X3_growAll_2 k1 n x2 h = some r → J X ((.inl none, r)) 2 [(0, .ref 4), (1, .ref k1), (2, .int x2)] [] h := by
  intro n
  induction n with
  | zero => intro x2 h hf; exact nomatch hf
  | succ n ih => intro x2 h hf; exact T_X3_growAll_2_s hX hdx k1 hk1 _ (fun x2 h hf => ih x2 h hf) x2 h hf
set_option maxRecDepth 100000 in
set_option maxHeartbeats 200000 in
theorem T_X3_growAll_0 {X : CX} (hX : Ok X cX3_growAll 3 RX3 none) (hdx : dX X = 4) {r : Hp} (k1 : Nat) (hk1 : isCity k1) (h : Hp) (hf : f_X3_growAll k1 h = some r) : J X ((.inl none, r)) 0 [(0, .ref 4), (1, .ref k1)] [] h := by
  unfold f_X3_growAll at hf
  refine J_iconst hX 0 dX3_growAll_0 rfl ?_
  refine J_istore_n hX [(2, .int 0), (0, .ref 4), (1, .ref k1)] dX3_growAll_1 rfl rfl rfl ?_
  refine J_sub [1, 2, 0] [(0, .ref 4), (1, .ref k1), (2, .int 0)] rfl ?_
  exact T_X3_growAll_2 hX hdx k1 hk1 FU 0 h hf
set_option maxRecDepth 100000 in
set_option maxHeartbeats 200000 in
theorem C_X3_growAll {G : GX} (hG : GOk G) {k1 : Nat} {h : Hp} {r : Hp} (hk1 : isCity k1) (hf : f_X3_growAll k1 h = some r) : Ctr G 4 yX3_growAll cX3_growAll 3 none [.ref 4, .ref k1] h ((.inl none, r)) :=
  Ctr_of hG RX3 rfl (by decide) rfl (fun X _ hdx hX => T_X3_growAll_0 hX hdx k1 hk1 h hf)
theorem dJ6_bitCount_0f7a4_0 : decode cJ6_bitCount_0f7a4 0 = .ok (.iload_n 0, 1) := by decide +kernel
theorem dJ6_bitCount_0f7a4_1 : decode cJ6_bitCount_0f7a4 1 = .ok (.iload_n 0, 1) := by decide +kernel
theorem dJ6_bitCount_0f7a4_2 : decode cJ6_bitCount_0f7a4 2 = .ok (.iconst 1, 1) := by decide +kernel
theorem dJ6_bitCount_0f7a4_3 : decode cJ6_bitCount_0f7a4 3 = .ok (.iushr, 1) := by decide +kernel
theorem dJ6_bitCount_0f7a4_4 : decode cJ6_bitCount_0f7a4 4 = .ok (.ldc_w 265, 3) := by decide +kernel
theorem dJ6_bitCount_0f7a4_7 : decode cJ6_bitCount_0f7a4 7 = .ok (.iand, 1) := by decide +kernel
theorem dJ6_bitCount_0f7a4_8 : decode cJ6_bitCount_0f7a4 8 = .ok (.isub, 1) := by decide +kernel
theorem dJ6_bitCount_0f7a4_9 : decode cJ6_bitCount_0f7a4 9 = .ok (.istore_n 0, 1) := by decide +kernel
theorem dJ6_bitCount_0f7a4_10 : decode cJ6_bitCount_0f7a4 10 = .ok (.iload_n 0, 1) := by decide +kernel
theorem dJ6_bitCount_0f7a4_11 : decode cJ6_bitCount_0f7a4 11 = .ok (.ldc_w 266, 3) := by decide +kernel
theorem dJ6_bitCount_0f7a4_14 : decode cJ6_bitCount_0f7a4 14 = .ok (.iand, 1) := by decide +kernel
theorem dJ6_bitCount_0f7a4_15 : decode cJ6_bitCount_0f7a4 15 = .ok (.iload_n 0, 1) := by decide +kernel
theorem dJ6_bitCount_0f7a4_16 : decode cJ6_bitCount_0f7a4 16 = .ok (.iconst 2, 1) := by decide +kernel
theorem dJ6_bitCount_0f7a4_17 : decode cJ6_bitCount_0f7a4 17 = .ok (.iushr, 1) := by decide +kernel
theorem dJ6_bitCount_0f7a4_18 : decode cJ6_bitCount_0f7a4 18 = .ok (.ldc_w 266, 3) := by decide +kernel
theorem dJ6_bitCount_0f7a4_21 : decode cJ6_bitCount_0f7a4 21 = .ok (.iand, 1) := by decide +kernel
theorem dJ6_bitCount_0f7a4_22 : decode cJ6_bitCount_0f7a4 22 = .ok (.iadd, 1) := by decide +kernel
theorem dJ6_bitCount_0f7a4_23 : decode cJ6_bitCount_0f7a4 23 = .ok (.istore_n 0, 1) := by decide +kernel
theorem dJ6_bitCount_0f7a4_24 : decode cJ6_bitCount_0f7a4 24 = .ok (.iload_n 0, 1) := by decide +kernel
theorem dJ6_bitCount_0f7a4_25 : decode cJ6_bitCount_0f7a4 25 = .ok (.iload_n 0, 1) := by decide +kernel
theorem dJ6_bitCount_0f7a4_26 : decode cJ6_bitCount_0f7a4 26 = .ok (.iconst 4, 1) := by decide +kernel
theorem dJ6_bitCount_0f7a4_27 : decode cJ6_bitCount_0f7a4 27 = .ok (.iushr, 1) := by decide +kernel
theorem dJ6_bitCount_0f7a4_28 : decode cJ6_bitCount_0f7a4 28 = .ok (.iadd, 1) := by decide +kernel
theorem dJ6_bitCount_0f7a4_29 : decode cJ6_bitCount_0f7a4 29 = .ok (.ldc_w 267, 3) := by decide +kernel
theorem dJ6_bitCount_0f7a4_32 : decode cJ6_bitCount_0f7a4 32 = .ok (.iand, 1) := by decide +kernel
theorem dJ6_bitCount_0f7a4_33 : decode cJ6_bitCount_0f7a4 33 = .ok (.istore_n 0, 1) := by decide +kernel
theorem dJ6_bitCount_0f7a4_34 : decode cJ6_bitCount_0f7a4 34 = .ok (.iload_n 0, 1) := by decide +kernel
theorem dJ6_bitCount_0f7a4_35 : decode cJ6_bitCount_0f7a4 35 = .ok (.iload_n 0, 1) := by decide +kernel
theorem dJ6_bitCount_0f7a4_36 : decode cJ6_bitCount_0f7a4 36 = .ok (.bipush 8, 2) := by decide +kernel
theorem dJ6_bitCount_0f7a4_38 : decode cJ6_bitCount_0f7a4 38 = .ok (.iushr, 1) := by decide +kernel
theorem dJ6_bitCount_0f7a4_39 : decode cJ6_bitCount_0f7a4 39 = .ok (.iadd, 1) := by decide +kernel
theorem dJ6_bitCount_0f7a4_40 : decode cJ6_bitCount_0f7a4 40 = .ok (.istore_n 0, 1) := by decide +kernel
theorem dJ6_bitCount_0f7a4_41 : decode cJ6_bitCount_0f7a4 41 = .ok (.iload_n 0, 1) := by decide +kernel
theorem dJ6_bitCount_0f7a4_42 : decode cJ6_bitCount_0f7a4 42 = .ok (.iload_n 0, 1) := by decide +kernel
theorem dJ6_bitCount_0f7a4_43 : decode cJ6_bitCount_0f7a4 43 = .ok (.bipush 16, 2) := by decide +kernel
theorem dJ6_bitCount_0f7a4_45 : decode cJ6_bitCount_0f7a4 45 = .ok (.iushr, 1) := by decide +kernel
theorem dJ6_bitCount_0f7a4_46 : decode cJ6_bitCount_0f7a4 46 = .ok (.iadd, 1) := by decide +kernel
theorem dJ6_bitCount_0f7a4_47 : decode cJ6_bitCount_0f7a4 47 = .ok (.istore_n 0, 1) := by decide +kernel
theorem dJ6_bitCount_0f7a4_48 : decode cJ6_bitCount_0f7a4 48 = .ok (.iload_n 0, 1) := by decide +kernel
theorem dJ6_bitCount_0f7a4_49 : decode cJ6_bitCount_0f7a4 49 = .ok (.bipush 63, 2) := by decide +kernel
theorem dJ6_bitCount_0f7a4_51 : decode cJ6_bitCount_0f7a4 51 = .ok (.iand, 1) := by decide +kernel
theorem dJ6_bitCount_0f7a4_52 : decode cJ6_bitCount_0f7a4 52 = .ok (.ireturn, 1) := by decide +kernel
set_option maxRecDepth 100000 in
set_option maxHeartbeats 200000 in
theorem T_J6_bitCount_0f7a4_0 {X : CX} (hX : Ok X cJ6_bitCount_0f7a4 1 RJ6 (some .int)) (hdx : dX X = 2) {r : Int32} (x0 : Int32) (h : Hp) (hf : f_J6_bitCount_0f7a4 x0 h = r) : J X ((.inl (some (.int r)), h)) 0 [(0, .int x0)] [] h := by
  unfold f_J6_bitCount_0f7a4 at hf
  refine J_iload_n hX 0 dJ6_bitCount_0f7a4_0 rfl rfl ?_
  refine J_iload_n hX 0 dJ6_bitCount_0f7a4_1 rfl rfl ?_
  refine J_iconst hX 1 dJ6_bitCount_0f7a4_2 rfl ?_
  refine J_iushr hX dJ6_bitCount_0f7a4_3 ?_
  refine J_ldcw hX 1431655765 dJ6_bitCount_0f7a4_4 kw_J6_265 ?_
  refine J_iand hX dJ6_bitCount_0f7a4_7 ?_
  refine J_isub hX dJ6_bitCount_0f7a4_8 ?_
  obtain ⟨x0_1, e_2, hf⟩ := bndE hf
  refine J_nm e_2 ?_
  refine J_istore_n hX [(0, .int x0_1)] dJ6_bitCount_0f7a4_9 rfl rfl rfl ?_
  refine J_iload_n hX 0 dJ6_bitCount_0f7a4_10 rfl rfl ?_
  refine J_ldcw hX 858993459 dJ6_bitCount_0f7a4_11 kw_J6_266 ?_
  refine J_iand hX dJ6_bitCount_0f7a4_14 ?_
  refine J_iload_n hX 0 dJ6_bitCount_0f7a4_15 rfl rfl ?_
  refine J_iconst hX 2 dJ6_bitCount_0f7a4_16 rfl ?_
  refine J_iushr hX dJ6_bitCount_0f7a4_17 ?_
  refine J_ldcw hX 858993459 dJ6_bitCount_0f7a4_18 kw_J6_266 ?_
  refine J_iand hX dJ6_bitCount_0f7a4_21 ?_
  refine J_iadd hX dJ6_bitCount_0f7a4_22 ?_
  obtain ⟨x0_3, e_4, hf⟩ := bndE hf
  refine J_nm e_4 ?_
  refine J_istore_n hX [(0, .int x0_3)] dJ6_bitCount_0f7a4_23 rfl rfl rfl ?_
  refine J_iload_n hX 0 dJ6_bitCount_0f7a4_24 rfl rfl ?_
  refine J_iload_n hX 0 dJ6_bitCount_0f7a4_25 rfl rfl ?_
  refine J_iconst hX 4 dJ6_bitCount_0f7a4_26 rfl ?_
  refine J_iushr hX dJ6_bitCount_0f7a4_27 ?_
  refine J_iadd hX dJ6_bitCount_0f7a4_28 ?_
  refine J_ldcw hX 252645135 dJ6_bitCount_0f7a4_29 kw_J6_267 ?_
  refine J_iand hX dJ6_bitCount_0f7a4_32 ?_
  obtain ⟨x0_5, e_6, hf⟩ := bndE hf
  refine J_nm e_6 ?_
  refine J_istore_n hX [(0, .int x0_5)] dJ6_bitCount_0f7a4_33 rfl rfl rfl ?_
  refine J_iload_n hX 0 dJ6_bitCount_0f7a4_34 rfl rfl ?_
  refine J_iload_n hX 0 dJ6_bitCount_0f7a4_35 rfl rfl ?_
  refine J_bipush hX 8 dJ6_bitCount_0f7a4_36 rfl ?_
  refine J_iushr hX dJ6_bitCount_0f7a4_38 ?_
  refine J_iadd hX dJ6_bitCount_0f7a4_39 ?_
  obtain ⟨x0_7, e_8, hf⟩ := bndE hf
  refine J_nm e_8 ?_
  refine J_istore_n hX [(0, .int x0_7)] dJ6_bitCount_0f7a4_40 rfl rfl rfl ?_
  refine J_iload_n hX 0 dJ6_bitCount_0f7a4_41 rfl rfl ?_
  refine J_iload_n hX 0 dJ6_bitCount_0f7a4_42 rfl rfl ?_
  refine J_bipush hX 16 dJ6_bitCount_0f7a4_43 rfl ?_
  refine J_iushr hX dJ6_bitCount_0f7a4_45 ?_
  refine J_iadd hX dJ6_bitCount_0f7a4_46 ?_
  obtain ⟨x0_9, e_10, hf⟩ := bndE hf
  refine J_nm e_10 ?_
  refine J_istore_n hX [(0, .int x0_9)] dJ6_bitCount_0f7a4_47 rfl rfl rfl ?_
  refine J_iload_n hX 0 dJ6_bitCount_0f7a4_48 rfl rfl ?_
  refine J_bipush hX 63 dJ6_bitCount_0f7a4_49 rfl ?_
  refine J_iand hX dJ6_bitCount_0f7a4_51 ?_
  exact E_It hX dJ6_bitCount_0f7a4_52 hf
set_option maxRecDepth 100000 in
set_option maxHeartbeats 200000 in
theorem C_J6_bitCount_0f7a4 {G : GX} (hG : GOk G) {x0 : Int32} {h : Hp} {r : Int32} (hf : f_J6_bitCount_0f7a4 x0 h = r) : Ctr G 2 yJ6_bitCount_0f7a4 cJ6_bitCount_0f7a4 1 (some .int) [.int x0] h ((.inl (some (.int r)), h)) :=
  Ctr_of hG RJ6 rfl (by decide) rfl (fun X _ hdx hX => T_J6_bitCount_0f7a4_0 hX hdx x0 h hf)
theorem dX3_wanderAll_0 : decode cX3_wanderAll 0 = .ok (.aload_n 0, 1) := by decide +kernel
theorem dX3_wanderAll_1 : decode cX3_wanderAll 1 = .ok (.getfield 94, 3) := by decide +kernel
theorem dX3_wanderAll_4 : decode cX3_wanderAll 4 = .ok (.invokestatic 97, 3) := by decide +kernel
theorem dX3_wanderAll_7 : decode cX3_wanderAll 7 = .ok (.istore_n 1, 1) := by decide +kernel
theorem dX3_wanderAll_8 : decode cX3_wanderAll 8 = .ok (.iconst 0, 1) := by decide +kernel
theorem dX3_wanderAll_9 : decode cX3_wanderAll 9 = .ok (.istore_n 2, 1) := by decide +kernel
theorem dX3_wanderAll_10 : decode cX3_wanderAll 10 = .ok (.iload_n 2, 1) := by decide +kernel
theorem dX3_wanderAll_11 : decode cX3_wanderAll 11 = .ok (.bipush 6, 2) := by decide +kernel
theorem dX3_wanderAll_13 : decode cX3_wanderAll 13 = .ok (.if_icmp .ge 51, 3) := by decide +kernel
theorem dX3_wanderAll_16 : decode cX3_wanderAll 16 = .ok (.iload_n 1, 1) := by decide +kernel
theorem dX3_wanderAll_17 : decode cX3_wanderAll 17 = .ok (.ifCond .le 41, 3) := by decide +kernel
theorem dX3_wanderAll_20 : decode cX3_wanderAll 20 = .ok (.aload_n 0, 1) := by decide +kernel
theorem dX3_wanderAll_21 : decode cX3_wanderAll 21 = .ok (.iload_n 2, 1) := by decide +kernel
theorem dX3_wanderAll_22 : decode cX3_wanderAll 22 = .ok (.invokevirtual 103, 3) := by decide +kernel
theorem dX3_wanderAll_25 : decode cX3_wanderAll 25 = .ok (.iconst (-1), 1) := by decide +kernel
theorem dX3_wanderAll_26 : decode cX3_wanderAll 26 = .ok (.if_icmp .eq 32, 3) := by decide +kernel
theorem dX3_wanderAll_29 : decode cX3_wanderAll 29 = .ok (.aload_n 0, 1) := by decide +kernel
theorem dX3_wanderAll_30 : decode cX3_wanderAll 30 = .ok (.invokevirtual 106, 3) := by decide +kernel
theorem dX3_wanderAll_33 : decode cX3_wanderAll 33 = .ok (.bipush 100, 2) := by decide +kernel
theorem dX3_wanderAll_35 : decode cX3_wanderAll 35 = .ok (.irem, 1) := by decide +kernel
theorem dX3_wanderAll_36 : decode cX3_wanderAll 36 = .ok (.aload_n 0, 1) := by decide +kernel
theorem dX3_wanderAll_37 : decode cX3_wanderAll 37 = .ok (.getfield 109, 3) := by decide +kernel
theorem dX3_wanderAll_40 : decode cX3_wanderAll 40 = .ok (.if_icmp .ge 18, 3) := by decide +kernel
theorem dX3_wanderAll_43 : decode cX3_wanderAll 43 = .ok (.aload_n 0, 1) := by decide +kernel
theorem dX3_wanderAll_44 : decode cX3_wanderAll 44 = .ok (.iload_n 2, 1) := by decide +kernel
theorem dX3_wanderAll_45 : decode cX3_wanderAll 45 = .ok (.aload_n 0, 1) := by decide +kernel
theorem dX3_wanderAll_46 : decode cX3_wanderAll 46 = .ok (.aload_n 0, 1) := by decide +kernel
theorem dX3_wanderAll_47 : decode cX3_wanderAll 47 = .ok (.invokevirtual 106, 3) := by decide +kernel
theorem dX3_wanderAll_50 : decode cX3_wanderAll 50 = .ok (.iload_n 1, 1) := by decide +kernel
theorem dX3_wanderAll_51 : decode cX3_wanderAll 51 = .ok (.irem, 1) := by decide +kernel
theorem dX3_wanderAll_52 : decode cX3_wanderAll 52 = .ok (.invokevirtual 112, 3) := by decide +kernel
theorem dX3_wanderAll_55 : decode cX3_wanderAll 55 = .ok (.invokevirtual 115, 3) := by decide +kernel
theorem dX3_wanderAll_58 : decode cX3_wanderAll 58 = .ok (.iinc 2 1, 3) := by decide +kernel
theorem dX3_wanderAll_61 : decode cX3_wanderAll 61 = .ok (.goto (-51), 3) := by decide +kernel
theorem dX3_wanderAll_64 : decode cX3_wanderAll 64 = .ok (.return_, 1) := by decide +kernel
set_option maxRecDepth 100000 in
set_option maxHeartbeats 200000 in
theorem T_X3_wanderAll_10_s {X : CX} (hX : Ok X cX3_wanderAll 3 RX3 none) (hdx : dX X = 5) {r : Hp} (k0 : Nat) (hk0 : isCity k0) (x1 : Int32) (q_10 : Int32 → Hp → Option Hp) (hq_10 : ∀ (x2 : Int32) (h : Hp), q_10 x2 h = some r → J X ((.inl none, r)) 10 [(0, .ref k0), (1, .int x1), (2, .int x2)] [] h) (x2 : Int32) (h : Hp) (hf : S_X3_wanderAll_10 k0 x1 q_10 x2 h = some r) : J X ((.inl none, r)) 10 [(0, .ref k0), (1, .int x1), (2, .int x2)] [] h := by
  unfold S_X3_wanderAll_10 at hf
  refine J_iload_n hX 2 dX3_wanderAll_10 rfl rfl ?_
  refine J_bipush hX 6 dX3_wanderAll_11 rfl ?_
  rcases ifE hf with ⟨c_1, hf⟩ | ⟨c_1, hf⟩
  · refine J_icmp_geF hX 64 dX3_wanderAll_13 rfl c_1 ?_
    refine J_iload_n hX 1 dX3_wanderAll_16 rfl rfl ?_
    rcases ifE hf with ⟨c_2, hf⟩ | ⟨c_2, hf⟩
    · refine J_if_leF hX 58 dX3_wanderAll_17 rfl c_2 ?_
      refine J_aload_n hX 0 dX3_wanderAll_20 rfl rfl ?_
      refine J_iload_n hX 2 dX3_wanderAll_21 rfl rfl ?_
      obtain ⟨r_3, e_4, hf⟩ := bdE hf
      refine V_1 hX [.int x2] dX3_wanderAll_22 cw_X3_103 (city_ob hk0) rfl (C_X1_placeOf (okG hX) hk0 e_4) (ltD hdx rfl) rfl rfl rfl rfl ?_
      refine J_iconst hX (-1) dX3_wanderAll_25 rfl ?_
      rcases ifE hf with ⟨c_5, hf⟩ | ⟨c_5, hf⟩
      · refine J_icmp_eqT hX 58 dX3_wanderAll_26 rfl c_5 ?_
        refine J_iinc hX (x2 + 1) 2 [(2, .int (x2 + 1)), (0, .ref k0), (1, .int x1)] dX3_wanderAll_58 rfl rfl rfl rfl ?_
        refine J_goto hX 10 dX3_wanderAll_61 rfl ?_
        refine J_sub [1, 2, 0] [(0, .ref k0), (1, .int x1), (2, .int (x2 + 1))] rfl ?_
        exact hq_10 (x2 + 1) h hf
      · refine J_icmp_eqF hX 58 dX3_wanderAll_26 rfl c_5 ?_
        refine J_aload_n hX 0 dX3_wanderAll_29 rfl rfl ?_
        obtain ⟨r_6, e_7, hf⟩ := bdE hf
        refine V_1 hX [] dX3_wanderAll_30 cw_X3_106 (city_ob hk0) rfl (C_X1_draw (okG hX) hk0 e_7) (ltD hdx rfl) rfl rfl rfl rfl ?_
        refine J_bipush hX 100 dX3_wanderAll_33 rfl ?_
        refine J_irem hX (by decide) dX3_wanderAll_35 ?_
        refine J_aload_n hX 0 dX3_wanderAll_36 rfl rfl ?_
        refine J_getI hX dX3_wanderAll_37 fl_X3_109 (city_ob hk0) rfl ?_
        rcases ifE hf with ⟨c_8, hf⟩ | ⟨c_8, hf⟩
        · refine J_icmp_geF hX 58 dX3_wanderAll_40 rfl c_8 ?_
          refine J_aload_n hX 0 dX3_wanderAll_43 rfl rfl ?_
          refine J_iload_n hX 2 dX3_wanderAll_44 rfl rfl ?_
          refine J_aload_n hX 0 dX3_wanderAll_45 rfl rfl ?_
          refine J_aload_n hX 0 dX3_wanderAll_46 rfl rfl ?_
          obtain ⟨r_9, e_10, hf⟩ := bdE hf
          refine V_1 hX [] dX3_wanderAll_47 cw_X3_106 (city_ob hk0) rfl (C_X1_draw (okG hX) hk0 e_10) (ltD hdx rfl) rfl rfl rfl rfl ?_
          refine J_iload_n hX 1 dX3_wanderAll_50 rfl rfl ?_
          obtain ⟨g_11, hf⟩ := gdE hf
          refine J_irem hX g_11 dX3_wanderAll_51 ?_
          obtain ⟨r_12, e_13, hf⟩ := bdE hf
          refine V_1 hX [.int (rem r_9.1 x1)] dX3_wanderAll_52 cw_X3_112 (city_ob hk0) rfl (C_X1_upAt (okG hX) hk0 e_13) (ltD hdx rfl) rfl rfl rfl rfl ?_
          obtain ⟨r_14, e_15, hf⟩ := bdE hf
          refine V_0 hX [.int x2, .int r_12] dX3_wanderAll_55 cw_X3_115 (city_ob hk0) rfl (C_X1_put (okG hX) hk0 e_15) (ltD hdx rfl) rfl rfl rfl rfl ?_
          refine J_iinc hX (x2 + 1) 2 [(2, .int (x2 + 1)), (0, .ref k0), (1, .int x1)] dX3_wanderAll_58 rfl rfl rfl rfl ?_
          refine J_goto hX 10 dX3_wanderAll_61 rfl ?_
          refine J_sub [1, 2, 0] [(0, .ref k0), (1, .int x1), (2, .int (x2 + 1))] rfl ?_
          exact hq_10 (x2 + 1) r_14 hf
        · refine J_icmp_geT hX 58 dX3_wanderAll_40 rfl c_8 ?_
          refine J_iinc hX (x2 + 1) 2 [(2, .int (x2 + 1)), (0, .ref k0), (1, .int x1)] dX3_wanderAll_58 rfl rfl rfl rfl ?_
          refine J_goto hX 10 dX3_wanderAll_61 rfl ?_
          refine J_sub [1, 2, 0] [(0, .ref k0), (1, .int x1), (2, .int (x2 + 1))] rfl ?_
          exact hq_10 (x2 + 1) r_6.2 hf
    · refine J_if_leT hX 58 dX3_wanderAll_17 rfl c_2 ?_
      refine J_iinc hX (x2 + 1) 2 [(2, .int (x2 + 1)), (0, .ref k0), (1, .int x1)] dX3_wanderAll_58 rfl rfl rfl rfl ?_
      refine J_goto hX 10 dX3_wanderAll_61 rfl ?_
      refine J_sub [1, 2, 0] [(0, .ref k0), (1, .int x1), (2, .int (x2 + 1))] rfl ?_
      exact hq_10 (x2 + 1) h hf
  · refine J_icmp_geT hX 64 dX3_wanderAll_13 rfl c_1 ?_
    exact E_Vi hX dX3_wanderAll_64 hf
set_option maxRecDepth 100000 in
set_option maxHeartbeats 200000 in
theorem T_X3_wanderAll_10 {X : CX} (hX : Ok X cX3_wanderAll 3 RX3 none) (hdx : dX X = 5) {r : Hp} (k0 : Nat) (hk0 : isCity k0) (x1 : Int32) : ∀ (n : Nat) (x2 : Int32) (h : Hp), F_X3_wanderAll_10 k0 x1 n x2 h = some r → J X ((.inl none, r)) 10 [(0, .ref k0), (1, .int x1), (2, .int x2)] [] h := by
  intro n
  induction n with
  | zero => intro x2 h hf; exact nomatch hf
  | succ n ih => intro x2 h hf; exact T_X3_wanderAll_10_s hX hdx k0 hk0 x1 _ (fun x2 h hf => ih x2 h hf) x2 h hf
set_option maxRecDepth 100000 in
set_option maxHeartbeats 200000 in
theorem T_X3_wanderAll_0 {X : CX} (hX : Ok X cX3_wanderAll 3 RX3 none) (hdx : dX X = 5) {r : Hp} (k0 : Nat) (hk0 : isCity k0) (h : Hp) (hf : f_X3_wanderAll k0 h = some r) : J X ((.inl none, r)) 0 [(0, .ref k0)] [] h := by
  unfold f_X3_wanderAll at hf
  refine J_aload_n hX 0 dX3_wanderAll_0 rfl rfl ?_
  refine J_getI hX dX3_wanderAll_1 fl_X3_94 (city_ob hk0) rfl ?_
  refine S_1 hX [.int (h k0 11)] dX3_wanderAll_4 cw_X3_97 (C_J6_bitCount_0f7a4 (okG hX) rfl) (ltD hdx rfl) rfl rfl rfl rfl ?_
  obtain ⟨x1_1, e_2, hf⟩ := bndE hf
  refine J_nm e_2 ?_
  refine J_istore_n hX [(1, .int x1_1), (0, .ref k0)] dX3_wanderAll_7 rfl rfl rfl ?_
  refine J_iconst hX 0 dX3_wanderAll_8 rfl ?_
  refine J_istore_n hX [(2, .int 0), (1, .int x1_1), (0, .ref k0)] dX3_wanderAll_9 rfl rfl rfl ?_
  refine J_sub [2, 1, 0] [(0, .ref k0), (1, .int x1_1), (2, .int 0)] rfl ?_
  exact T_X3_wanderAll_10 hX hdx k0 hk0 x1_1 FU 0 h hf
set_option maxRecDepth 100000 in
set_option maxHeartbeats 200000 in
theorem C_X3_wanderAll {G : GX} (hG : GOk G) {k0 : Nat} {h : Hp} {r : Hp} (hk0 : isCity k0) (hf : f_X3_wanderAll k0 h = some r) : Ctr G 5 yX3_wanderAll cX3_wanderAll 3 none [.ref k0] h ((.inl none, r)) :=
  Ctr_of hG RX3 rfl (by decide) rfl (fun X _ hdx hX => T_X3_wanderAll_0 hX hdx k0 hk0 h hf)
theorem dX3_pass_0 : decode cX3_pass 0 = .ok (.aload_n 0, 1) := by decide +kernel
theorem dX3_pass_1 : decode cX3_pass 1 = .ok (.aload_n 1, 1) := by decide +kernel
theorem dX3_pass_2 : decode cX3_pass 2 = .ok (.aload_n 2, 1) := by decide +kernel
theorem dX3_pass_3 : decode cX3_pass 3 = .ok (.aload_n 1, 1) := by decide +kernel
theorem dX3_pass_4 : decode cX3_pass 4 = .ok (.getfield 61, 3) := by decide +kernel
theorem dX3_pass_7 : decode cX3_pass 7 = .ok (.invokevirtual 64, 3) := by decide +kernel
theorem dX3_pass_10 : decode cX3_pass 10 = .ok (.pop, 1) := by decide +kernel
theorem dX3_pass_11 : decode cX3_pass 11 = .ok (.aload_n 0, 1) := by decide +kernel
theorem dX3_pass_12 : decode cX3_pass 12 = .ok (.aload_n 1, 1) := by decide +kernel
theorem dX3_pass_13 : decode cX3_pass 13 = .ok (.invokevirtual 68, 3) := by decide +kernel
theorem dX3_pass_16 : decode cX3_pass 16 = .ok (.iload_n 3, 1) := by decide +kernel
theorem dX3_pass_17 : decode cX3_pass 17 = .ok (.ifCond .eq 7, 3) := by decide +kernel
theorem dX3_pass_20 : decode cX3_pass 20 = .ok (.aload_n 1, 1) := by decide +kernel
theorem dX3_pass_21 : decode cX3_pass 21 = .ok (.invokestatic 72, 3) := by decide +kernel
theorem dX3_pass_24 : decode cX3_pass 24 = .ok (.aload_n 1, 1) := by decide +kernel
theorem dX3_pass_25 : decode cX3_pass 25 = .ok (.dup, 1) := by decide +kernel
theorem dX3_pass_26 : decode cX3_pass 26 = .ok (.getfield 61, 3) := by decide +kernel
theorem dX3_pass_29 : decode cX3_pass 29 = .ok (.iconst 1, 1) := by decide +kernel
theorem dX3_pass_30 : decode cX3_pass 30 = .ok (.iadd, 1) := by decide +kernel
theorem dX3_pass_31 : decode cX3_pass 31 = .ok (.putfield 61, 3) := by decide +kernel
theorem dX3_pass_34 : decode cX3_pass 34 = .ok (.aload_n 1, 1) := by decide +kernel
theorem dX3_pass_35 : decode cX3_pass 35 = .ok (.getfield 61, 3) := by decide +kernel
theorem dX3_pass_38 : decode cX3_pass 38 = .ok (.bipush 7, 2) := by decide +kernel
theorem dX3_pass_40 : decode cX3_pass 40 = .ok (.if_icmp .lt 24, 3) := by decide +kernel
theorem dX3_pass_43 : decode cX3_pass 43 = .ok (.aload_n 1, 1) := by decide +kernel
theorem dX3_pass_44 : decode cX3_pass 44 = .ok (.iconst 0, 1) := by decide +kernel
theorem dX3_pass_45 : decode cX3_pass 45 = .ok (.putfield 61, 3) := by decide +kernel
theorem dX3_pass_48 : decode cX3_pass 48 = .ok (.aload_n 1, 1) := by decide +kernel
theorem dX3_pass_49 : decode cX3_pass 49 = .ok (.sipush 9999, 3) := by decide +kernel
theorem dX3_pass_52 : decode cX3_pass 52 = .ok (.aload_n 1, 1) := by decide +kernel
theorem dX3_pass_53 : decode cX3_pass 53 = .ok (.getfield 40, 3) := by decide +kernel
theorem dX3_pass_56 : decode cX3_pass 56 = .ok (.iconst 1, 1) := by decide +kernel
theorem dX3_pass_57 : decode cX3_pass 57 = .ok (.iadd, 1) := by decide +kernel
theorem dX3_pass_58 : decode cX3_pass 58 = .ok (.invokestatic 75, 3) := by decide +kernel
theorem dX3_pass_61 : decode cX3_pass 61 = .ok (.putfield 40, 3) := by decide +kernel
theorem dX3_pass_64 : decode cX3_pass 64 = .ok (.return_, 1) := by decide +kernel
set_option maxRecDepth 100000 in
set_option maxHeartbeats 200000 in
theorem T_X3_pass_24 {X : CX} (hX : Ok X cX3_pass 4 RX3 none) (hdx : dX X = 7) {r : Hp} (k1 : Nat) (hk1 : isCity k1) (h : Hp) (hf : F_X3_pass_24 k1 h = some r) : J X ((.inl none, r)) 24 [(1, .ref k1)] [] h := by
  unfold F_X3_pass_24 at hf
  refine J_aload_n hX 0 dX3_pass_24 rfl rfl ?_
  refine J_dup hX dX3_pass_25 rfl ?_
  refine J_getI hX dX3_pass_26 fl_X3_61 (city_ob hk1) rfl ?_
  refine J_iconst hX 1 dX3_pass_29 rfl ?_
  refine J_iadd hX dX3_pass_30 ?_
  obtain ⟨h_1, e_2, hf⟩ := bndE hf
  refine J_putI hX dX3_pass_31 fl_X3_61 fw_1_12 (city_ob hk1) rfl rfl rfl ?_
  refine J_nmh e_2 ?_
  refine J_aload_n hX 0 dX3_pass_34 rfl rfl ?_
  refine J_getI hX dX3_pass_35 fl_X3_61 (city_ob hk1) rfl ?_
  refine J_bipush hX 7 dX3_pass_38 rfl ?_
  rcases ifE hf with ⟨c_3, hf⟩ | ⟨c_3, hf⟩
  · refine J_icmp_ltT hX 64 dX3_pass_40 rfl c_3 ?_
    exact E_Vi hX dX3_pass_64 hf
  · refine J_icmp_ltF hX 64 dX3_pass_40 rfl c_3 ?_
    refine J_aload_n hX 0 dX3_pass_43 rfl rfl ?_
    refine J_iconst hX 0 dX3_pass_44 rfl ?_
    obtain ⟨h_4, e_5, hf⟩ := bndE hf
    refine J_putI hX dX3_pass_45 fl_X3_61 fw_1_12 (city_ob hk1) rfl rfl rfl ?_
    refine J_nmh e_5 ?_
    refine J_aload_n hX 0 dX3_pass_48 rfl rfl ?_
    refine J_sipush hX 9999 dX3_pass_49 rfl ?_
    refine J_aload_n hX 0 dX3_pass_52 rfl rfl ?_
    refine J_getI hX dX3_pass_53 fl_X3_40 (city_ob hk1) rfl ?_
    refine J_iconst hX 1 dX3_pass_56 rfl ?_
    refine J_iadd hX dX3_pass_57 ?_
    refine J_min hX dX3_pass_58 mw_X3_75 (ltD hdx rfl) rfl ?_
    obtain ⟨h_6, e_7, hf⟩ := bndE hf
    refine J_putI hX dX3_pass_61 fl_X3_40 fw_1_13 (city_ob hk1) rfl rfl rfl ?_
    refine J_nmh e_7 ?_
    exact E_Vi hX dX3_pass_64 hf
set_option maxRecDepth 100000 in
set_option maxHeartbeats 200000 in
theorem T_X3_pass_0 {X : CX} (hX : Ok X cX3_pass 4 RX3 none) (hdx : dX X = 7) {r : Hp} (k1 : Nat) (hk1 : isCity k1) (k2 : Nat) (hk2 : isLaw k2) (x3 : Int32) (h : Hp) (hf : f_X3_pass k1 k2 x3 h = some r) : J X ((.inl none, r)) 0 [(0, .ref 4), (1, .ref k1), (2, .ref k2), (3, .int x3)] [] h := by
  unfold f_X3_pass at hf
  refine J_aload_n hX 0 dX3_pass_0 rfl rfl ?_
  refine J_aload_n hX 1 dX3_pass_1 rfl rfl ?_
  refine J_aload_n hX 2 dX3_pass_2 rfl rfl ?_
  refine J_aload_n hX 1 dX3_pass_3 rfl rfl ?_
  refine J_getI hX dX3_pass_4 fl_X3_61 (city_ob hk1) rfl ?_
  obtain ⟨r_1, e_2, hf⟩ := bdE hf
  refine V_1 hX [.ref k1, .ref k2, .int (h k1 12)] dX3_pass_7 cw_X3_64 ob_4 rfl (C_X3_fall (okG hX) hk1 hk2 e_2) (ltD hdx rfl) rfl rfl rfl rfl ?_
  refine J_pop hX dX3_pass_10 rfl ?_
  refine J_aload_n hX 0 dX3_pass_11 rfl rfl ?_
  refine J_aload_n hX 1 dX3_pass_12 rfl rfl ?_
  obtain ⟨r_3, e_4, hf⟩ := bdE hf
  refine V_0 hX [.ref k1] dX3_pass_13 cw_X3_68 ob_4 rfl (C_X3_growAll (okG hX) hk1 e_4) (ltD hdx rfl) rfl rfl rfl rfl ?_
  refine J_iload_n hX 3 dX3_pass_16 rfl rfl ?_
  rcases ifE hf with ⟨c_5, hf⟩ | ⟨c_5, hf⟩
  · refine J_if_eqT hX 24 dX3_pass_17 rfl c_5 ?_
    refine J_sub [1] [(1, .ref k1)] rfl ?_
    exact T_X3_pass_24 hX hdx k1 hk1 r_3 hf
  · refine J_if_eqF hX 24 dX3_pass_17 rfl c_5 ?_
    refine J_aload_n hX 1 dX3_pass_20 rfl rfl ?_
    obtain ⟨r_6, e_7, hf⟩ := bdE hf
    refine S_0 hX [.ref k1] dX3_pass_21 cw_X3_72 (C_X3_wanderAll (okG hX) hk1 e_7) (ltD hdx rfl) rfl rfl rfl rfl ?_
    refine J_sub [1] [(1, .ref k1)] rfl ?_
    exact T_X3_pass_24 hX hdx k1 hk1 r_6 hf
set_option maxRecDepth 100000 in
set_option maxHeartbeats 200000 in
theorem C_X3_pass {G : GX} (hG : GOk G) {k1 : Nat} {k2 : Nat} {x3 : Int32} {h : Hp} {r : Hp} (hk1 : isCity k1) (hk2 : isLaw k2) (hf : f_X3_pass k1 k2 x3 h = some r) : Ctr G 7 yX3_pass cX3_pass 4 none [.ref 4, .ref k1, .ref k2, .int x3] h ((.inl none, r)) :=
  Ctr_of hG RX3 rfl (by decide) rfl (fun X _ hdx hX => T_X3_pass_0 hX hdx k1 hk1 k2 hk2 x3 h hf)
theorem dX3_run_0 : decode cX3_run 0 = .ok (.iconst 0, 1) := by decide +kernel
theorem dX3_run_1 : decode cX3_run 1 = .ok (.istore 5, 2) := by decide +kernel
theorem dX3_run_3 : decode cX3_run 3 = .ok (.iload 5, 2) := by decide +kernel
theorem dX3_run_5 : decode cX3_run 5 = .ok (.iload_n 3, 1) := by decide +kernel
theorem dX3_run_6 : decode cX3_run 6 = .ok (.if_icmp .ge 24, 3) := by decide +kernel
theorem dX3_run_9 : decode cX3_run 9 = .ok (.iload 5, 2) := by decide +kernel
theorem dX3_run_11 : decode cX3_run 11 = .ok (.bipush 70, 2) := by decide +kernel
theorem dX3_run_13 : decode cX3_run 13 = .ok (.if_icmp .ge 17, 3) := by decide +kernel
theorem dX3_run_16 : decode cX3_run 16 = .ok (.aload_n 0, 1) := by decide +kernel
theorem dX3_run_17 : decode cX3_run 17 = .ok (.aload_n 1, 1) := by decide +kernel
theorem dX3_run_18 : decode cX3_run 18 = .ok (.aload_n 2, 1) := by decide +kernel
theorem dX3_run_19 : decode cX3_run 19 = .ok (.iload 4, 2) := by decide +kernel
theorem dX3_run_21 : decode cX3_run 21 = .ok (.invokevirtual 57, 3) := by decide +kernel
theorem dX3_run_24 : decode cX3_run 24 = .ok (.iinc 5 1, 3) := by decide +kernel
theorem dX3_run_27 : decode cX3_run 27 = .ok (.goto (-24), 3) := by decide +kernel
theorem dX3_run_30 : decode cX3_run 30 = .ok (.return_, 1) := by decide +kernel
set_option maxRecDepth 100000 in
set_option maxHeartbeats 200000 in
theorem T_X3_run_3_s {X : CX} (hX : Ok X cX3_run 6 RX3 none) (hdx : dX X = 8) {r : Hp} (k1 : Nat) (hk1 : isCity k1) (k2 : Nat) (hk2 : isLaw k2) (x3 : Int32) (x4 : Int32) (q_3 : Int32 → Hp → Option Hp) (hq_3 : ∀ (x5 : Int32) (h : Hp), q_3 x5 h = some r → J X ((.inl none, r)) 3 [(0, .ref 4), (1, .ref k1), (2, .ref k2), (3, .int x3), (4, .int x4), (5, .int x5)] [] h) (x5 : Int32) (h : Hp) (hf : S_X3_run_3 k1 k2 x3 x4 q_3 x5 h = some r) : J X ((.inl none, r)) 3 [(0, .ref 4), (1, .ref k1), (2, .ref k2), (3, .int x3), (4, .int x4), (5, .int x5)] [] h := by
  unfold S_X3_run_3 at hf
  refine J_iload hX 5 dX3_run_3 rfl ?_
  refine J_iload_n hX 3 dX3_run_5 rfl rfl ?_
  rcases ifE hf with ⟨c_1, hf⟩ | ⟨c_1, hf⟩
  · refine J_icmp_geF hX 30 dX3_run_6 rfl c_1 ?_
    refine J_iload hX 5 dX3_run_9 rfl ?_
    refine J_bipush hX 70 dX3_run_11 rfl ?_
    rcases ifE hf with ⟨c_2, hf⟩ | ⟨c_2, hf⟩
    · refine J_icmp_geF hX 30 dX3_run_13 rfl c_2 ?_
      refine J_aload_n hX 0 dX3_run_16 rfl rfl ?_
      refine J_aload_n hX 1 dX3_run_17 rfl rfl ?_
      refine J_aload_n hX 2 dX3_run_18 rfl rfl ?_
      refine J_iload hX 4 dX3_run_19 rfl ?_
      obtain ⟨r_3, e_4, hf⟩ := bdE hf
      refine V_0 hX [.ref k1, .ref k2, .int x4] dX3_run_21 cw_X3_57 ob_4 rfl (C_X3_pass (okG hX) hk1 hk2 e_4) (ltD hdx rfl) rfl rfl rfl rfl ?_
      refine J_iinc hX (x5 + 1) 5 [(5, .int (x5 + 1)), (0, .ref 4), (1, .ref k1), (2, .ref k2), (3, .int x3), (4, .int x4)] dX3_run_24 rfl rfl rfl rfl ?_
      refine J_goto hX 3 dX3_run_27 rfl ?_
      refine J_sub [1, 2, 3, 4, 5, 0] [(0, .ref 4), (1, .ref k1), (2, .ref k2), (3, .int x3), (4, .int x4), (5, .int (x5 + 1))] rfl ?_
      exact hq_3 (x5 + 1) r_3 hf
    · refine J_icmp_geT hX 30 dX3_run_13 rfl c_2 ?_
      exact E_Vi hX dX3_run_30 hf
  · refine J_icmp_geT hX 30 dX3_run_6 rfl c_1 ?_
    exact E_Vi hX dX3_run_30 hf
set_option maxRecDepth 100000 in
set_option maxHeartbeats 200000 in
theorem T_X3_run_3 {X : CX} (hX : Ok X cX3_run 6 RX3 none) (hdx : dX X = 8) {r : Hp} (k1 : Nat) (hk1 : isCity k1) (k2 : Nat) (hk2 : isLaw k2) (x3 : Int32) (x4 : Int32) : ∀ (n : Nat) (x5 : Int32) (h : Hp), F_X3_run_3 k1 k2 x3 x4 n x5 h = some r → J X ((.inl none, r)) 3 [(0, .ref 4), (1, .ref k1), (2, .ref k2), (3, .int x3), (4, .int x4), (5, .int x5)] [] h := by
  intro n
  induction n with
  | zero => intro x5 h hf; exact nomatch hf
  | succ n ih => intro x5 h hf; exact T_X3_run_3_s hX hdx k1 hk1 k2 hk2 x3 x4 _ (fun x5 h hf => ih x5 h hf) x5 h hf
set_option maxRecDepth 100000 in
set_option maxHeartbeats 200000 in
theorem T_X3_run_0 {X : CX} (hX : Ok X cX3_run 6 RX3 none) (hdx : dX X = 8) {r : Hp} (k1 : Nat) (hk1 : isCity k1) (k2 : Nat) (hk2 : isLaw k2) (x3 : Int32) (x4 : Int32) (h : Hp) (hf : f_X3_run k1 k2 x3 x4 h = some r) : J X ((.inl none, r)) 0 [(0, .ref 4), (1, .ref k1), (2, .ref k2), (3, .int x3), (4, .int x4)] [] h := by
  unfold f_X3_run at hf
  refine J_iconst hX 0 dX3_run_0 rfl ?_
  refine J_istore hX [(5, .int 0), (0, .ref 4), (1, .ref k1), (2, .ref k2), (3, .int x3), (4, .int x4)] dX3_run_1 rfl rfl ?_
  refine J_sub [1, 2, 3, 4, 5, 0] [(0, .ref 4), (1, .ref k1), (2, .ref k2), (3, .int x3), (4, .int x4), (5, .int 0)] rfl ?_
  exact T_X3_run_3 hX hdx k1 hk1 k2 hk2 x3 x4 FU 0 h hf
set_option maxRecDepth 100000 in
set_option maxHeartbeats 200000 in
theorem C_X3_run {G : GX} (hG : GOk G) {k1 : Nat} {k2 : Nat} {x3 : Int32} {x4 : Int32} {h : Hp} {r : Hp} (hk1 : isCity k1) (hk2 : isLaw k2) (hf : f_X3_run k1 k2 x3 x4 h = some r) : Ctr G 8 yX3_run cX3_run 6 none [.ref 4, .ref k1, .ref k2, .int x3, .int x4] h ((.inl none, r)) :=
  Ctr_of hG RX3 rfl (by decide) rfl (fun X _ hdx hX => T_X3_run_0 hX hdx k1 hk1 k2 hk2 x3 x4 h hf)
theorem dX4_copyFrom_0 : decode cX4_copyFrom 0 = .ok (.aload_n 0, 1) := by decide +kernel
theorem dX4_copyFrom_1 : decode cX4_copyFrom 1 = .ok (.aload_n 1, 1) := by decide +kernel
theorem dX4_copyFrom_2 : decode cX4_copyFrom 2 = .ok (.getfield 33, 3) := by decide +kernel
theorem dX4_copyFrom_5 : decode cX4_copyFrom 5 = .ok (.putfield 33, 3) := by decide +kernel
theorem dX4_copyFrom_8 : decode cX4_copyFrom 8 = .ok (.aload_n 0, 1) := by decide +kernel
theorem dX4_copyFrom_9 : decode cX4_copyFrom 9 = .ok (.aload_n 1, 1) := by decide +kernel
theorem dX4_copyFrom_10 : decode cX4_copyFrom 10 = .ok (.getfield 37, 3) := by decide +kernel
theorem dX4_copyFrom_13 : decode cX4_copyFrom 13 = .ok (.putfield 37, 3) := by decide +kernel
theorem dX4_copyFrom_16 : decode cX4_copyFrom 16 = .ok (.aload_n 1, 1) := by decide +kernel
theorem dX4_copyFrom_17 : decode cX4_copyFrom 17 = .ok (.getfield 9, 3) := by decide +kernel
theorem dX4_copyFrom_20 : decode cX4_copyFrom 20 = .ok (.iconst 0, 1) := by decide +kernel
theorem dX4_copyFrom_21 : decode cX4_copyFrom 21 = .ok (.aload_n 0, 1) := by decide +kernel
theorem dX4_copyFrom_22 : decode cX4_copyFrom 22 = .ok (.getfield 9, 3) := by decide +kernel
theorem dX4_copyFrom_25 : decode cX4_copyFrom 25 = .ok (.iconst 0, 1) := by decide +kernel
theorem dX4_copyFrom_26 : decode cX4_copyFrom 26 = .ok (.bipush 12, 2) := by decide +kernel
theorem dX4_copyFrom_28 : decode cX4_copyFrom 28 = .ok (.invokestatic 40, 3) := by decide +kernel
theorem dX4_copyFrom_31 : decode cX4_copyFrom 31 = .ok (.aload_n 1, 1) := by decide +kernel
theorem dX4_copyFrom_32 : decode cX4_copyFrom 32 = .ok (.getfield 15, 3) := by decide +kernel
theorem dX4_copyFrom_35 : decode cX4_copyFrom 35 = .ok (.iconst 0, 1) := by decide +kernel
theorem dX4_copyFrom_36 : decode cX4_copyFrom 36 = .ok (.aload_n 0, 1) := by decide +kernel
theorem dX4_copyFrom_37 : decode cX4_copyFrom 37 = .ok (.getfield 15, 3) := by decide +kernel
theorem dX4_copyFrom_40 : decode cX4_copyFrom 40 = .ok (.iconst 0, 1) := by decide +kernel
theorem dX4_copyFrom_41 : decode cX4_copyFrom 41 = .ok (.bipush 12, 2) := by decide +kernel
theorem dX4_copyFrom_43 : decode cX4_copyFrom 43 = .ok (.invokestatic 40, 3) := by decide +kernel
theorem dX4_copyFrom_46 : decode cX4_copyFrom 46 = .ok (.aload_n 1, 1) := by decide +kernel
theorem dX4_copyFrom_47 : decode cX4_copyFrom 47 = .ok (.getfield 18, 3) := by decide +kernel
theorem dX4_copyFrom_50 : decode cX4_copyFrom 50 = .ok (.iconst 0, 1) := by decide +kernel
theorem dX4_copyFrom_51 : decode cX4_copyFrom 51 = .ok (.aload_n 0, 1) := by decide +kernel
theorem dX4_copyFrom_52 : decode cX4_copyFrom 52 = .ok (.getfield 18, 3) := by decide +kernel
theorem dX4_copyFrom_55 : decode cX4_copyFrom 55 = .ok (.iconst 0, 1) := by decide +kernel
theorem dX4_copyFrom_56 : decode cX4_copyFrom 56 = .ok (.bipush 12, 2) := by decide +kernel
theorem dX4_copyFrom_58 : decode cX4_copyFrom 58 = .ok (.invokestatic 40, 3) := by decide +kernel
theorem dX4_copyFrom_61 : decode cX4_copyFrom 61 = .ok (.aload_n 1, 1) := by decide +kernel
theorem dX4_copyFrom_62 : decode cX4_copyFrom 62 = .ok (.getfield 21, 3) := by decide +kernel
theorem dX4_copyFrom_65 : decode cX4_copyFrom 65 = .ok (.iconst 0, 1) := by decide +kernel
theorem dX4_copyFrom_66 : decode cX4_copyFrom 66 = .ok (.aload_n 0, 1) := by decide +kernel
theorem dX4_copyFrom_67 : decode cX4_copyFrom 67 = .ok (.getfield 21, 3) := by decide +kernel
theorem dX4_copyFrom_70 : decode cX4_copyFrom 70 = .ok (.iconst 0, 1) := by decide +kernel
theorem dX4_copyFrom_71 : decode cX4_copyFrom 71 = .ok (.bipush 12, 2) := by decide +kernel
theorem dX4_copyFrom_73 : decode cX4_copyFrom 73 = .ok (.invokestatic 40, 3) := by decide +kernel
theorem dX4_copyFrom_76 : decode cX4_copyFrom 76 = .ok (.aload_n 1, 1) := by decide +kernel
theorem dX4_copyFrom_77 : decode cX4_copyFrom 77 = .ok (.getfield 24, 3) := by decide +kernel
theorem dX4_copyFrom_80 : decode cX4_copyFrom 80 = .ok (.iconst 0, 1) := by decide +kernel
theorem dX4_copyFrom_81 : decode cX4_copyFrom 81 = .ok (.aload_n 0, 1) := by decide +kernel
theorem dX4_copyFrom_82 : decode cX4_copyFrom 82 = .ok (.getfield 24, 3) := by decide +kernel
theorem dX4_copyFrom_85 : decode cX4_copyFrom 85 = .ok (.iconst 0, 1) := by decide +kernel
theorem dX4_copyFrom_86 : decode cX4_copyFrom 86 = .ok (.sipush 400, 3) := by decide +kernel
theorem dX4_copyFrom_89 : decode cX4_copyFrom 89 = .ok (.invokestatic 40, 3) := by decide +kernel
theorem dX4_copyFrom_92 : decode cX4_copyFrom 92 = .ok (.aload_n 1, 1) := by decide +kernel
theorem dX4_copyFrom_93 : decode cX4_copyFrom 93 = .ok (.getfield 27, 3) := by decide +kernel
theorem dX4_copyFrom_96 : decode cX4_copyFrom 96 = .ok (.iconst 0, 1) := by decide +kernel
theorem dX4_copyFrom_97 : decode cX4_copyFrom 97 = .ok (.aload_n 0, 1) := by decide +kernel
theorem dX4_copyFrom_98 : decode cX4_copyFrom 98 = .ok (.getfield 27, 3) := by decide +kernel
theorem dX4_copyFrom_101 : decode cX4_copyFrom 101 = .ok (.iconst 0, 1) := by decide +kernel
theorem dX4_copyFrom_102 : decode cX4_copyFrom 102 = .ok (.sipush 400, 3) := by decide +kernel
theorem dX4_copyFrom_105 : decode cX4_copyFrom 105 = .ok (.invokestatic 40, 3) := by decide +kernel
theorem dX4_copyFrom_108 : decode cX4_copyFrom 108 = .ok (.return_, 1) := by decide +kernel
set_option maxRecDepth 100000 in
set_option maxHeartbeats 200000 in
theorem T_X4_copyFrom_0 {X : CX} (hX : Ok X cX4_copyFrom 2 RX4 none) (hdx : dX X = 2) {r : Hp} (k0 : Nat) (hk0 : isLaw k0) (k1 : Nat) (hk1 : isLaw k1) (h : Hp) (hf : f_X4_copyFrom k0 k1 h = some r) : J X ((.inl none, r)) 0 [(0, .ref k0), (1, .ref k1)] [] h := by
  unfold f_X4_copyFrom at hf
  refine J_aload_n hX 0 dX4_copyFrom_0 rfl rfl ?_
  refine J_aload_n hX 1 dX4_copyFrom_1 rfl rfl ?_
  refine J_getI hX dX4_copyFrom_2 fl_X4_33 (law_ob hk1) rfl ?_
  obtain ⟨h_1, e_2, hf⟩ := bndE hf
  refine J_putI hX dX4_copyFrom_5 fl_X4_33 fw_3_8 (law_ob hk0) rfl rfl rfl ?_
  refine J_nmh e_2 ?_
  refine J_aload_n hX 0 dX4_copyFrom_8 rfl rfl ?_
  refine J_aload_n hX 1 dX4_copyFrom_9 rfl rfl ?_
  refine J_getI hX dX4_copyFrom_10 fl_X4_37 (law_ob hk1) rfl ?_
  obtain ⟨h_3, e_4, hf⟩ := bndE hf
  refine J_putI hX dX4_copyFrom_13 fl_X4_37 fw_3_7 (law_ob hk0) rfl rfl rfl ?_
  refine J_nmh e_4 ?_
  refine J_aload_n hX 1 dX4_copyFrom_16 rfl rfl ?_
  refine J_getR hX (k1 + 1) dX4_copyFrom_17 fl_X4_9 (law_ob hk1) rfl rfl ?_
  refine J_iconst hX 0 dX4_copyFrom_20 rfl ?_
  refine J_aload_n hX 0 dX4_copyFrom_21 rfl rfl ?_
  refine J_getR hX (k0 + 1) dX4_copyFrom_22 fl_X4_9 (law_ob hk0) rfl rfl ?_
  refine J_iconst hX 0 dX4_copyFrom_25 rfl ?_
  refine J_bipush hX 12 dX4_copyFrom_26 rfl ?_
  obtain ⟨h_5, e_6, hf⟩ := bndE hf
  refine J_copy hX 0 0 12 dX4_copyFrom_28 aw_X4_40 (law_ar 1 12 (by decide) hk1) (law_ar 1 12 (by decide) hk0) (by decide) (by decide) (by decide) (by decide) (by decide) (by decide) (by decide) (by decide) (ltD hdx rfl) rfl ?_
  refine J_nmh e_6 ?_
  refine J_aload_n hX 1 dX4_copyFrom_31 rfl rfl ?_
  refine J_getR hX (k1 + 2) dX4_copyFrom_32 fl_X4_15 (law_ob hk1) rfl rfl ?_
  refine J_iconst hX 0 dX4_copyFrom_35 rfl ?_
  refine J_aload_n hX 0 dX4_copyFrom_36 rfl rfl ?_
  refine J_getR hX (k0 + 2) dX4_copyFrom_37 fl_X4_15 (law_ob hk0) rfl rfl ?_
  refine J_iconst hX 0 dX4_copyFrom_40 rfl ?_
  refine J_bipush hX 12 dX4_copyFrom_41 rfl ?_
  obtain ⟨h_7, e_8, hf⟩ := bndE hf
  refine J_copy hX 0 0 12 dX4_copyFrom_43 aw_X4_40 (law_ar 2 12 (by decide) hk1) (law_ar 2 12 (by decide) hk0) (by decide) (by decide) (by decide) (by decide) (by decide) (by decide) (by decide) (by decide) (ltD hdx rfl) rfl ?_
  refine J_nmh e_8 ?_
  refine J_aload_n hX 1 dX4_copyFrom_46 rfl rfl ?_
  refine J_getR hX (k1 + 3) dX4_copyFrom_47 fl_X4_18 (law_ob hk1) rfl rfl ?_
  refine J_iconst hX 0 dX4_copyFrom_50 rfl ?_
  refine J_aload_n hX 0 dX4_copyFrom_51 rfl rfl ?_
  refine J_getR hX (k0 + 3) dX4_copyFrom_52 fl_X4_18 (law_ob hk0) rfl rfl ?_
  refine J_iconst hX 0 dX4_copyFrom_55 rfl ?_
  refine J_bipush hX 12 dX4_copyFrom_56 rfl ?_
  obtain ⟨h_9, e_10, hf⟩ := bndE hf
  refine J_copy hX 0 0 12 dX4_copyFrom_58 aw_X4_40 (law_ar 3 12 (by decide) hk1) (law_ar 3 12 (by decide) hk0) (by decide) (by decide) (by decide) (by decide) (by decide) (by decide) (by decide) (by decide) (ltD hdx rfl) rfl ?_
  refine J_nmh e_10 ?_
  refine J_aload_n hX 1 dX4_copyFrom_61 rfl rfl ?_
  refine J_getR hX (k1 + 4) dX4_copyFrom_62 fl_X4_21 (law_ob hk1) rfl rfl ?_
  refine J_iconst hX 0 dX4_copyFrom_65 rfl ?_
  refine J_aload_n hX 0 dX4_copyFrom_66 rfl rfl ?_
  refine J_getR hX (k0 + 4) dX4_copyFrom_67 fl_X4_21 (law_ob hk0) rfl rfl ?_
  refine J_iconst hX 0 dX4_copyFrom_70 rfl ?_
  refine J_bipush hX 12 dX4_copyFrom_71 rfl ?_
  obtain ⟨h_11, e_12, hf⟩ := bndE hf
  refine J_copy hX 0 0 12 dX4_copyFrom_73 aw_X4_40 (law_ar 4 12 (by decide) hk1) (law_ar 4 12 (by decide) hk0) (by decide) (by decide) (by decide) (by decide) (by decide) (by decide) (by decide) (by decide) (ltD hdx rfl) rfl ?_
  refine J_nmh e_12 ?_
  refine J_aload_n hX 1 dX4_copyFrom_76 rfl rfl ?_
  refine J_getR hX (k1 + 5) dX4_copyFrom_77 fl_X4_24 (law_ob hk1) rfl rfl ?_
  refine J_iconst hX 0 dX4_copyFrom_80 rfl ?_
  refine J_aload_n hX 0 dX4_copyFrom_81 rfl rfl ?_
  refine J_getR hX (k0 + 5) dX4_copyFrom_82 fl_X4_24 (law_ob hk0) rfl rfl ?_
  refine J_iconst hX 0 dX4_copyFrom_85 rfl ?_
  refine J_sipush hX 400 dX4_copyFrom_86 rfl ?_
  obtain ⟨h_13, e_14, hf⟩ := bndE hf
  refine J_copy hX 0 0 400 dX4_copyFrom_89 aw_X4_40 (law_ar 5 400 (by decide) hk1) (law_ar 5 400 (by decide) hk0) (by decide) (by decide) (by decide) (by decide) (by decide) (by decide) (by decide) (by decide) (ltD hdx rfl) rfl ?_
  refine J_nmh e_14 ?_
  refine J_aload_n hX 1 dX4_copyFrom_92 rfl rfl ?_
  refine J_getR hX (k1 + 6) dX4_copyFrom_93 fl_X4_27 (law_ob hk1) rfl rfl ?_
  refine J_iconst hX 0 dX4_copyFrom_96 rfl ?_
  refine J_aload_n hX 0 dX4_copyFrom_97 rfl rfl ?_
  refine J_getR hX (k0 + 6) dX4_copyFrom_98 fl_X4_27 (law_ob hk0) rfl rfl ?_
  refine J_iconst hX 0 dX4_copyFrom_101 rfl ?_
  refine J_sipush hX 400 dX4_copyFrom_102 rfl ?_
  obtain ⟨h_15, e_16, hf⟩ := bndE hf
  refine J_copy hX 0 0 400 dX4_copyFrom_105 aw_X4_40 (law_ar 6 400 (by decide) hk1) (law_ar 6 400 (by decide) hk0) (by decide) (by decide) (by decide) (by decide) (by decide) (by decide) (by decide) (by decide) (ltD hdx rfl) rfl ?_
  refine J_nmh e_16 ?_
  exact E_Vi hX dX4_copyFrom_108 hf
set_option maxRecDepth 100000 in
set_option maxHeartbeats 200000 in
theorem C_X4_copyFrom {G : GX} (hG : GOk G) {k0 : Nat} {k1 : Nat} {h : Hp} {r : Hp} (hk0 : isLaw k0) (hk1 : isLaw k1) (hf : f_X4_copyFrom k0 k1 h = some r) : Ctr G 2 yX4_copyFrom cX4_copyFrom 2 none [.ref k0, .ref k1] h ((.inl none, r)) :=
  Ctr_of hG RX4 rfl (by decide) rfl (fun X _ hdx hX => T_X4_copyFrom_0 hX hdx k0 hk0 k1 hk1 h hf)
theorem dX4_clear_0 : decode cX4_clear 0 = .ok (.aload_n 0, 1) := by decide +kernel
theorem dX4_clear_1 : decode cX4_clear 1 = .ok (.iconst 0, 1) := by decide +kernel
theorem dX4_clear_2 : decode cX4_clear 2 = .ok (.putfield 33, 3) := by decide +kernel
theorem dX4_clear_5 : decode cX4_clear 5 = .ok (.aload_n 0, 1) := by decide +kernel
theorem dX4_clear_6 : decode cX4_clear 6 = .ok (.iconst 0, 1) := by decide +kernel
theorem dX4_clear_7 : decode cX4_clear 7 = .ok (.putfield 37, 3) := by decide +kernel
theorem dX4_clear_10 : decode cX4_clear 10 = .ok (.return_, 1) := by decide +kernel
set_option maxRecDepth 100000 in
set_option maxHeartbeats 200000 in
theorem T_X4_clear_0 {X : CX} (hX : Ok X cX4_clear 1 RX4 none) (hdx : dX X = 2) {r : Hp} (k0 : Nat) (hk0 : isLaw k0) (h : Hp) (hf : f_X4_clear k0 h = some r) : J X ((.inl none, r)) 0 [(0, .ref k0)] [] h := by
  unfold f_X4_clear at hf
  refine J_aload_n hX 0 dX4_clear_0 rfl rfl ?_
  refine J_iconst hX 0 dX4_clear_1 rfl ?_
  obtain ⟨h_1, e_2, hf⟩ := bndE hf
  refine J_putI hX dX4_clear_2 fl_X4_33 fw_3_8 (law_ob hk0) rfl rfl rfl ?_
  refine J_nmh e_2 ?_
  refine J_aload_n hX 0 dX4_clear_5 rfl rfl ?_
  refine J_iconst hX 0 dX4_clear_6 rfl ?_
  obtain ⟨h_3, e_4, hf⟩ := bndE hf
  refine J_putI hX dX4_clear_7 fl_X4_37 fw_3_7 (law_ob hk0) rfl rfl rfl ?_
  refine J_nmh e_4 ?_
  exact E_Vi hX dX4_clear_10 hf
set_option maxRecDepth 100000 in
set_option maxHeartbeats 200000 in
theorem C_X4_clear {G : GX} (hG : GOk G) {k0 : Nat} {h : Hp} {r : Hp} (hk0 : isLaw k0) (hf : f_X4_clear k0 h = some r) : Ctr G 2 yX4_clear cX4_clear 1 none [.ref k0] h ((.inl none, r)) :=
  Ctr_of hG RX4 rfl (by decide) rfl (fun X _ hdx hX => T_X4_clear_0 hX hdx k0 hk0 h hf)
theorem dX4_openLine_0 : decode cX4_openLine 0 = .ok (.aload_n 0, 1) := by decide +kernel
theorem dX4_openLine_1 : decode cX4_openLine 1 = .ok (.getfield 33, 3) := by decide +kernel
theorem dX4_openLine_4 : decode cX4_openLine 4 = .ok (.ifCond .lt 45, 3) := by decide +kernel
theorem dX4_openLine_7 : decode cX4_openLine 7 = .ok (.aload_n 0, 1) := by decide +kernel
theorem dX4_openLine_8 : decode cX4_openLine 8 = .ok (.getfield 33, 3) := by decide +kernel
theorem dX4_openLine_11 : decode cX4_openLine 11 = .ok (.bipush 12, 2) := by decide +kernel
theorem dX4_openLine_13 : decode cX4_openLine 13 = .ok (.if_icmp .ge 36, 3) := by decide +kernel
theorem dX4_openLine_16 : decode cX4_openLine 16 = .ok (.aload_n 0, 1) := by decide +kernel
theorem dX4_openLine_17 : decode cX4_openLine 17 = .ok (.getfield 9, 3) := by decide +kernel
theorem dX4_openLine_20 : decode cX4_openLine 20 = .ok (.aload_n 0, 1) := by decide +kernel
theorem dX4_openLine_21 : decode cX4_openLine 21 = .ok (.getfield 33, 3) := by decide +kernel
theorem dX4_openLine_24 : decode cX4_openLine 24 = .ok (.iload_n 1, 1) := by decide +kernel
theorem dX4_openLine_25 : decode cX4_openLine 25 = .ok (.iastore, 1) := by decide +kernel
theorem dX4_openLine_26 : decode cX4_openLine 26 = .ok (.aload_n 0, 1) := by decide +kernel
theorem dX4_openLine_27 : decode cX4_openLine 27 = .ok (.getfield 15, 3) := by decide +kernel
theorem dX4_openLine_30 : decode cX4_openLine 30 = .ok (.aload_n 0, 1) := by decide +kernel
theorem dX4_openLine_31 : decode cX4_openLine 31 = .ok (.getfield 33, 3) := by decide +kernel
theorem dX4_openLine_34 : decode cX4_openLine 34 = .ok (.iload_n 2, 1) := by decide +kernel
theorem dX4_openLine_35 : decode cX4_openLine 35 = .ok (.iastore, 1) := by decide +kernel
theorem dX4_openLine_36 : decode cX4_openLine 36 = .ok (.aload_n 0, 1) := by decide +kernel
theorem dX4_openLine_37 : decode cX4_openLine 37 = .ok (.getfield 18, 3) := by decide +kernel
theorem dX4_openLine_40 : decode cX4_openLine 40 = .ok (.aload_n 0, 1) := by decide +kernel
theorem dX4_openLine_41 : decode cX4_openLine 41 = .ok (.getfield 33, 3) := by decide +kernel
theorem dX4_openLine_44 : decode cX4_openLine 44 = .ok (.aload_n 0, 1) := by decide +kernel
theorem dX4_openLine_45 : decode cX4_openLine 45 = .ok (.getfield 37, 3) := by decide +kernel
theorem dX4_openLine_48 : decode cX4_openLine 48 = .ok (.iastore, 1) := by decide +kernel
theorem dX4_openLine_49 : decode cX4_openLine 49 = .ok (.return_, 1) := by decide +kernel
set_option maxRecDepth 100000 in
set_option maxHeartbeats 200000 in
theorem T_X4_openLine_0 {X : CX} (hX : Ok X cX4_openLine 3 RX4 none) (hdx : dX X = 2) {r : Hp} (k0 : Nat) (hk0 : isLaw k0) (x1 : Int32) (x2 : Int32) (h : Hp) (hf : f_X4_openLine k0 x1 x2 h = some r) : J X ((.inl none, r)) 0 [(0, .ref k0), (1, .int x1), (2, .int x2)] [] h := by
  unfold f_X4_openLine at hf
  refine J_aload_n hX 0 dX4_openLine_0 rfl rfl ?_
  refine J_getI hX dX4_openLine_1 fl_X4_33 (law_ob hk0) rfl ?_
  rcases ifE hf with ⟨c_1, hf⟩ | ⟨c_1, hf⟩
  · refine J_if_ltT hX 49 dX4_openLine_4 rfl c_1 ?_
    exact E_Vi hX dX4_openLine_49 hf
  · refine J_if_ltF hX 49 dX4_openLine_4 rfl c_1 ?_
    refine J_aload_n hX 0 dX4_openLine_7 rfl rfl ?_
    refine J_getI hX dX4_openLine_8 fl_X4_33 (law_ob hk0) rfl ?_
    refine J_bipush hX 12 dX4_openLine_11 rfl ?_
    rcases ifE hf with ⟨c_2, hf⟩ | ⟨c_2, hf⟩
    · refine J_icmp_geF hX 49 dX4_openLine_13 rfl c_2 ?_
      refine J_aload_n hX 0 dX4_openLine_16 rfl rfl ?_
      refine J_getR hX (k0 + 1) dX4_openLine_17 fl_X4_9 (law_ob hk0) rfl rfl ?_
      refine J_aload_n hX 0 dX4_openLine_20 rfl rfl ?_
      refine J_getI hX dX4_openLine_21 fl_X4_33 (law_ob hk0) rfl ?_
      refine J_iload_n hX 1 dX4_openLine_24 rfl rfl ?_
      obtain ⟨g_3, hf⟩ := gdE hf
      obtain ⟨h_4, e_5, hf⟩ := bndE hf
      refine J_ast hX ((h k0 8).toNatClampNeg) x1 dX4_openLine_25 (law_ar 1 12 (by decide) hk0) (Or.inl ⟨rfl, rfl, rfl⟩) g_3 rfl ?_
      refine J_nmh e_5 ?_
      refine J_aload_n hX 0 dX4_openLine_26 rfl rfl ?_
      refine J_getR hX (k0 + 2) dX4_openLine_27 fl_X4_15 (law_ob hk0) rfl rfl ?_
      refine J_aload_n hX 0 dX4_openLine_30 rfl rfl ?_
      refine J_getI hX dX4_openLine_31 fl_X4_33 (law_ob hk0) rfl ?_
      refine J_iload_n hX 2 dX4_openLine_34 rfl rfl ?_
      obtain ⟨g_6, hf⟩ := gdE hf
      obtain ⟨h_7, e_8, hf⟩ := bndE hf
      refine J_ast hX ((h_4 k0 8).toNatClampNeg) x2 dX4_openLine_35 (law_ar 2 12 (by decide) hk0) (Or.inl ⟨rfl, rfl, rfl⟩) g_6 rfl ?_
      refine J_nmh e_8 ?_
      refine J_aload_n hX 0 dX4_openLine_36 rfl rfl ?_
      refine J_getR hX (k0 + 3) dX4_openLine_37 fl_X4_18 (law_ob hk0) rfl rfl ?_
      refine J_aload_n hX 0 dX4_openLine_40 rfl rfl ?_
      refine J_getI hX dX4_openLine_41 fl_X4_33 (law_ob hk0) rfl ?_
      refine J_aload_n hX 0 dX4_openLine_44 rfl rfl ?_
      refine J_getI hX dX4_openLine_45 fl_X4_37 (law_ob hk0) rfl ?_
      obtain ⟨g_9, hf⟩ := gdE hf
      obtain ⟨h_10, e_11, hf⟩ := bndE hf
      refine J_ast hX ((h_7 k0 8).toNatClampNeg) (h_7 k0 7) dX4_openLine_48 (law_ar 3 12 (by decide) hk0) (Or.inl ⟨rfl, rfl, rfl⟩) g_9 rfl ?_
      refine J_nmh e_11 ?_
      exact E_Vi hX dX4_openLine_49 hf
    · refine J_icmp_geT hX 49 dX4_openLine_13 rfl c_2 ?_
      exact E_Vi hX dX4_openLine_49 hf
set_option maxRecDepth 100000 in
set_option maxHeartbeats 200000 in
theorem C_X4_openLine {G : GX} (hG : GOk G) {k0 : Nat} {x1 : Int32} {x2 : Int32} {h : Hp} {r : Hp} (hk0 : isLaw k0) (hf : f_X4_openLine k0 x1 x2 h = some r) : Ctr G 2 yX4_openLine cX4_openLine 3 none [.ref k0, .int x1, .int x2] h ((.inl none, r)) :=
  Ctr_of hG RX4 rfl (by decide) rfl (fun X _ hdx hX => T_X4_openLine_0 hX hdx k0 hk0 x1 x2 h hf)
theorem dX4_closeLine_0 : decode cX4_closeLine 0 = .ok (.aload_n 0, 1) := by decide +kernel
theorem dX4_closeLine_1 : decode cX4_closeLine 1 = .ok (.getfield 33, 3) := by decide +kernel
theorem dX4_closeLine_4 : decode cX4_closeLine 4 = .ok (.ifCond .lt 35, 3) := by decide +kernel
theorem dX4_closeLine_7 : decode cX4_closeLine 7 = .ok (.aload_n 0, 1) := by decide +kernel
theorem dX4_closeLine_8 : decode cX4_closeLine 8 = .ok (.getfield 33, 3) := by decide +kernel
theorem dX4_closeLine_11 : decode cX4_closeLine 11 = .ok (.bipush 12, 2) := by decide +kernel
theorem dX4_closeLine_13 : decode cX4_closeLine 13 = .ok (.if_icmp .ge 26, 3) := by decide +kernel
theorem dX4_closeLine_16 : decode cX4_closeLine 16 = .ok (.aload_n 0, 1) := by decide +kernel
theorem dX4_closeLine_17 : decode cX4_closeLine 17 = .ok (.getfield 21, 3) := by decide +kernel
theorem dX4_closeLine_20 : decode cX4_closeLine 20 = .ok (.aload_n 0, 1) := by decide +kernel
theorem dX4_closeLine_21 : decode cX4_closeLine 21 = .ok (.getfield 33, 3) := by decide +kernel
theorem dX4_closeLine_24 : decode cX4_closeLine 24 = .ok (.aload_n 0, 1) := by decide +kernel
theorem dX4_closeLine_25 : decode cX4_closeLine 25 = .ok (.getfield 37, 3) := by decide +kernel
theorem dX4_closeLine_28 : decode cX4_closeLine 28 = .ok (.iastore, 1) := by decide +kernel
theorem dX4_closeLine_29 : decode cX4_closeLine 29 = .ok (.aload_n 0, 1) := by decide +kernel
theorem dX4_closeLine_30 : decode cX4_closeLine 30 = .ok (.dup, 1) := by decide +kernel
theorem dX4_closeLine_31 : decode cX4_closeLine 31 = .ok (.getfield 33, 3) := by decide +kernel
theorem dX4_closeLine_34 : decode cX4_closeLine 34 = .ok (.iconst 1, 1) := by decide +kernel
theorem dX4_closeLine_35 : decode cX4_closeLine 35 = .ok (.iadd, 1) := by decide +kernel
theorem dX4_closeLine_36 : decode cX4_closeLine 36 = .ok (.putfield 33, 3) := by decide +kernel
theorem dX4_closeLine_39 : decode cX4_closeLine 39 = .ok (.return_, 1) := by decide +kernel
set_option maxRecDepth 100000 in
set_option maxHeartbeats 200000 in
theorem T_X4_closeLine_0 {X : CX} (hX : Ok X cX4_closeLine 1 RX4 none) (hdx : dX X = 2) {r : Hp} (k0 : Nat) (hk0 : isLaw k0) (h : Hp) (hf : f_X4_closeLine k0 h = some r) : J X ((.inl none, r)) 0 [(0, .ref k0)] [] h := by
  unfold f_X4_closeLine at hf
  refine J_aload_n hX 0 dX4_closeLine_0 rfl rfl ?_
  refine J_getI hX dX4_closeLine_1 fl_X4_33 (law_ob hk0) rfl ?_
  rcases ifE hf with ⟨c_1, hf⟩ | ⟨c_1, hf⟩
  · refine J_if_ltT hX 39 dX4_closeLine_4 rfl c_1 ?_
    exact E_Vi hX dX4_closeLine_39 hf
  · refine J_if_ltF hX 39 dX4_closeLine_4 rfl c_1 ?_
    refine J_aload_n hX 0 dX4_closeLine_7 rfl rfl ?_
    refine J_getI hX dX4_closeLine_8 fl_X4_33 (law_ob hk0) rfl ?_
    refine J_bipush hX 12 dX4_closeLine_11 rfl ?_
    rcases ifE hf with ⟨c_2, hf⟩ | ⟨c_2, hf⟩
    · refine J_icmp_geF hX 39 dX4_closeLine_13 rfl c_2 ?_
      refine J_aload_n hX 0 dX4_closeLine_16 rfl rfl ?_
      refine J_getR hX (k0 + 4) dX4_closeLine_17 fl_X4_21 (law_ob hk0) rfl rfl ?_
      refine J_aload_n hX 0 dX4_closeLine_20 rfl rfl ?_
      refine J_getI hX dX4_closeLine_21 fl_X4_33 (law_ob hk0) rfl ?_
      refine J_aload_n hX 0 dX4_closeLine_24 rfl rfl ?_
      refine J_getI hX dX4_closeLine_25 fl_X4_37 (law_ob hk0) rfl ?_
      obtain ⟨g_3, hf⟩ := gdE hf
      obtain ⟨h_4, e_5, hf⟩ := bndE hf
      refine J_ast hX ((h k0 8).toNatClampNeg) (h k0 7) dX4_closeLine_28 (law_ar 4 12 (by decide) hk0) (Or.inl ⟨rfl, rfl, rfl⟩) g_3 rfl ?_
      refine J_nmh e_5 ?_
      refine J_aload_n hX 0 dX4_closeLine_29 rfl rfl ?_
      refine J_dup hX dX4_closeLine_30 rfl ?_
      refine J_getI hX dX4_closeLine_31 fl_X4_33 (law_ob hk0) rfl ?_
      refine J_iconst hX 1 dX4_closeLine_34 rfl ?_
      refine J_iadd hX dX4_closeLine_35 ?_
      obtain ⟨h_6, e_7, hf⟩ := bndE hf
      refine J_putI hX dX4_closeLine_36 fl_X4_33 fw_3_8 (law_ob hk0) rfl rfl rfl ?_
      refine J_nmh e_7 ?_
      exact E_Vi hX dX4_closeLine_39 hf
    · refine J_icmp_geT hX 39 dX4_closeLine_13 rfl c_2 ?_
      exact E_Vi hX dX4_closeLine_39 hf
set_option maxRecDepth 100000 in
set_option maxHeartbeats 200000 in
theorem C_X4_closeLine {G : GX} (hG : GOk G) {k0 : Nat} {h : Hp} {r : Hp} (hk0 : isLaw k0) (hf : f_X4_closeLine k0 h = some r) : Ctr G 2 yX4_closeLine cX4_closeLine 1 none [.ref k0] h ((.inl none, r)) :=
  Ctr_of hG RX4 rfl (by decide) rfl (fun X _ hdx hX => T_X4_closeLine_0 hX hdx k0 hk0 h hf)
theorem dX4_addStep_0 : decode cX4_addStep 0 = .ok (.aload_n 0, 1) := by decide +kernel
theorem dX4_addStep_1 : decode cX4_addStep 1 = .ok (.getfield 37, 3) := by decide +kernel
theorem dX4_addStep_4 : decode cX4_addStep 4 = .ok (.ifCond .lt 43, 3) := by decide +kernel
theorem dX4_addStep_7 : decode cX4_addStep 7 = .ok (.aload_n 0, 1) := by decide +kernel
theorem dX4_addStep_8 : decode cX4_addStep 8 = .ok (.getfield 37, 3) := by decide +kernel
theorem dX4_addStep_11 : decode cX4_addStep 11 = .ok (.sipush 400, 3) := by decide +kernel
theorem dX4_addStep_14 : decode cX4_addStep 14 = .ok (.if_icmp .ge 33, 3) := by decide +kernel
theorem dX4_addStep_17 : decode cX4_addStep 17 = .ok (.aload_n 0, 1) := by decide +kernel
theorem dX4_addStep_18 : decode cX4_addStep 18 = .ok (.getfield 24, 3) := by decide +kernel
theorem dX4_addStep_21 : decode cX4_addStep 21 = .ok (.aload_n 0, 1) := by decide +kernel
theorem dX4_addStep_22 : decode cX4_addStep 22 = .ok (.getfield 37, 3) := by decide +kernel
theorem dX4_addStep_25 : decode cX4_addStep 25 = .ok (.iload_n 1, 1) := by decide +kernel
theorem dX4_addStep_26 : decode cX4_addStep 26 = .ok (.iastore, 1) := by decide +kernel
theorem dX4_addStep_27 : decode cX4_addStep 27 = .ok (.aload_n 0, 1) := by decide +kernel
theorem dX4_addStep_28 : decode cX4_addStep 28 = .ok (.getfield 27, 3) := by decide +kernel
theorem dX4_addStep_31 : decode cX4_addStep 31 = .ok (.aload_n 0, 1) := by decide +kernel
theorem dX4_addStep_32 : decode cX4_addStep 32 = .ok (.getfield 37, 3) := by decide +kernel
theorem dX4_addStep_35 : decode cX4_addStep 35 = .ok (.iload_n 2, 1) := by decide +kernel
theorem dX4_addStep_36 : decode cX4_addStep 36 = .ok (.iastore, 1) := by decide +kernel
theorem dX4_addStep_37 : decode cX4_addStep 37 = .ok (.aload_n 0, 1) := by decide +kernel
theorem dX4_addStep_38 : decode cX4_addStep 38 = .ok (.dup, 1) := by decide +kernel
theorem dX4_addStep_39 : decode cX4_addStep 39 = .ok (.getfield 37, 3) := by decide +kernel
theorem dX4_addStep_42 : decode cX4_addStep 42 = .ok (.iconst 1, 1) := by decide +kernel
theorem dX4_addStep_43 : decode cX4_addStep 43 = .ok (.iadd, 1) := by decide +kernel
theorem dX4_addStep_44 : decode cX4_addStep 44 = .ok (.putfield 37, 3) := by decide +kernel
theorem dX4_addStep_47 : decode cX4_addStep 47 = .ok (.iconst 1, 1) := by decide +kernel
theorem dX4_addStep_48 : decode cX4_addStep 48 = .ok (.ireturn, 1) := by decide +kernel
set_option maxRecDepth 100000 in
set_option maxHeartbeats 200000 in
theorem T_X4_addStep_0 {X : CX} (hX : Ok X cX4_addStep 3 RX4 (some .boolean)) (hdx : dX X = 2) {r : Bool × Hp} (k0 : Nat) (hk0 : isLaw k0) (x1 : Int32) (x2 : Int32) (h : Hp) (hf : f_X4_addStep k0 x1 x2 h = some r) : J X ((.inl (some (.int (b2i r.1))), r.2)) 0 [(0, .ref k0), (1, .int x1), (2, .int x2)] [] h := by
  unfold f_X4_addStep at hf
  refine J_aload_n hX 0 dX4_addStep_0 rfl rfl ?_
  refine J_getI hX dX4_addStep_1 fl_X4_37 (law_ob hk0) rfl ?_
  rcases ifE hf with ⟨c_1, hf⟩ | ⟨c_1, hf⟩
  · refine J_if_ltT hX 47 dX4_addStep_4 rfl c_1 ?_
    refine J_iconst hX 1 dX4_addStep_47 rfl ?_
    exact E_Zi hX dX4_addStep_48 rfl hf
  · refine J_if_ltF hX 47 dX4_addStep_4 rfl c_1 ?_
    refine J_aload_n hX 0 dX4_addStep_7 rfl rfl ?_
    refine J_getI hX dX4_addStep_8 fl_X4_37 (law_ob hk0) rfl ?_
    refine J_sipush hX 400 dX4_addStep_11 rfl ?_
    rcases ifE hf with ⟨c_2, hf⟩ | ⟨c_2, hf⟩
    · refine J_icmp_geF hX 47 dX4_addStep_14 rfl c_2 ?_
      refine J_aload_n hX 0 dX4_addStep_17 rfl rfl ?_
      refine J_getR hX (k0 + 5) dX4_addStep_18 fl_X4_24 (law_ob hk0) rfl rfl ?_
      refine J_aload_n hX 0 dX4_addStep_21 rfl rfl ?_
      refine J_getI hX dX4_addStep_22 fl_X4_37 (law_ob hk0) rfl ?_
      refine J_iload_n hX 1 dX4_addStep_25 rfl rfl ?_
      obtain ⟨g_3, hf⟩ := gdE hf
      obtain ⟨h_4, e_5, hf⟩ := bndE hf
      refine J_ast hX ((h k0 7).toNatClampNeg) x1 dX4_addStep_26 (law_ar 5 400 (by decide) hk0) (Or.inl ⟨rfl, rfl, rfl⟩) g_3 rfl ?_
      refine J_nmh e_5 ?_
      refine J_aload_n hX 0 dX4_addStep_27 rfl rfl ?_
      refine J_getR hX (k0 + 6) dX4_addStep_28 fl_X4_27 (law_ob hk0) rfl rfl ?_
      refine J_aload_n hX 0 dX4_addStep_31 rfl rfl ?_
      refine J_getI hX dX4_addStep_32 fl_X4_37 (law_ob hk0) rfl ?_
      refine J_iload_n hX 2 dX4_addStep_35 rfl rfl ?_
      obtain ⟨g_6, hf⟩ := gdE hf
      obtain ⟨h_7, e_8, hf⟩ := bndE hf
      refine J_ast hX ((h_4 k0 7).toNatClampNeg) x2 dX4_addStep_36 (law_ar 6 400 (by decide) hk0) (Or.inl ⟨rfl, rfl, rfl⟩) g_6 rfl ?_
      refine J_nmh e_8 ?_
      refine J_aload_n hX 0 dX4_addStep_37 rfl rfl ?_
      refine J_dup hX dX4_addStep_38 rfl ?_
      refine J_getI hX dX4_addStep_39 fl_X4_37 (law_ob hk0) rfl ?_
      refine J_iconst hX 1 dX4_addStep_42 rfl ?_
      refine J_iadd hX dX4_addStep_43 ?_
      obtain ⟨h_9, e_10, hf⟩ := bndE hf
      refine J_putI hX dX4_addStep_44 fl_X4_37 fw_3_7 (law_ob hk0) rfl rfl rfl ?_
      refine J_nmh e_10 ?_
      refine J_iconst hX 1 dX4_addStep_47 rfl ?_
      exact E_Zi hX dX4_addStep_48 rfl hf
    · refine J_icmp_geT hX 47 dX4_addStep_14 rfl c_2 ?_
      refine J_iconst hX 1 dX4_addStep_47 rfl ?_
      exact E_Zi hX dX4_addStep_48 rfl hf
set_option maxRecDepth 100000 in
set_option maxHeartbeats 200000 in
theorem C_X4_addStep {G : GX} (hG : GOk G) {k0 : Nat} {x1 : Int32} {x2 : Int32} {h : Hp} {r : Bool × Hp} (hk0 : isLaw k0) (hf : f_X4_addStep k0 x1 x2 h = some r) : Ctr G 2 yX4_addStep cX4_addStep 3 (some .boolean) [.ref k0, .int x1, .int x2] h ((.inl (some (.int (b2i r.1))), r.2)) :=
  Ctr_of hG RX4 rfl (by decide) rfl (fun X _ hdx hX => T_X4_addStep_0 hX hdx k0 hk0 x1 x2 h hf)
theorem dX10_isSign_0 : decode cX10_isSign 0 = .ok (.aload_n 0, 1) := by decide +kernel
theorem dX10_isSign_1 : decode cX10_isSign 1 = .ok (.getfield 19, 3) := by decide +kernel
theorem dX10_isSign_4 : decode cX10_isSign 4 = .ok (.iload_n 1, 1) := by decide +kernel
theorem dX10_isSign_5 : decode cX10_isSign 5 = .ok (.if_icmp .ne 7, 3) := by decide +kernel
theorem dX10_isSign_8 : decode cX10_isSign 8 = .ok (.iconst 1, 1) := by decide +kernel
theorem dX10_isSign_9 : decode cX10_isSign 9 = .ok (.goto 4, 3) := by decide +kernel
theorem dX10_isSign_12 : decode cX10_isSign 12 = .ok (.iconst 0, 1) := by decide +kernel
theorem dX10_isSign_13 : decode cX10_isSign 13 = .ok (.ireturn, 1) := by decide +kernel
set_option maxRecDepth 100000 in
set_option maxHeartbeats 200000 in
theorem T_X10_isSign_0 {X : CX} (hX : Ok X cX10_isSign 2 RX10 (some .boolean)) (hdx : dX X = 2) {r : Bool} (x1 : Int32) (h : Hp) (hf : f_X10_isSign x1 h = r) : J X ((.inl (some (.int (b2i r))), h)) 0 [(0, .ref 2), (1, .int x1)] [] h := by
  unfold f_X10_isSign at hf
  refine J_aload_n hX 0 dX10_isSign_0 rfl rfl ?_
  refine J_getI hX dX10_isSign_1 fl_X10_19 ob_2 rfl ?_
  refine J_iload_n hX 1 dX10_isSign_4 rfl rfl ?_
  rcases ifE hf with ⟨c_1, hf⟩ | ⟨c_1, hf⟩
  · refine J_icmp_neF hX 12 dX10_isSign_5 rfl c_1 ?_
    refine J_iconst hX 1 dX10_isSign_8 rfl ?_
    refine J_goto hX 13 dX10_isSign_9 rfl ?_
    exact E_Zt hX dX10_isSign_13 rfl hf
  · refine J_icmp_neT hX 12 dX10_isSign_5 rfl c_1 ?_
    refine J_iconst hX 0 dX10_isSign_12 rfl ?_
    exact E_Zt hX dX10_isSign_13 rfl hf
set_option maxRecDepth 100000 in
set_option maxHeartbeats 200000 in
theorem C_X10_isSign {G : GX} (hG : GOk G) {x1 : Int32} {h : Hp} {r : Bool} (hf : f_X10_isSign x1 h = r) : Ctr G 2 yX10_isSign cX10_isSign 2 (some .boolean) [.ref 2, .int x1] h ((.inl (some (.int (b2i r))), h)) :=
  Ctr_of hG RX10 rfl (by decide) rfl (fun X _ hdx hX => T_X10_isSign_0 hX hdx x1 h hf)
theorem dX5_readSum_0 : decode cX5_readSum 0 = .ok (.iconst 0, 1) := by decide +kernel
theorem dX5_readSum_1 : decode cX5_readSum 1 = .ok (.istore_n 2, 1) := by decide +kernel
theorem dX5_readSum_2 : decode cX5_readSum 2 = .ok (.iload_n 2, 1) := by decide +kernel
theorem dX5_readSum_3 : decode cX5_readSum 3 = .ok (.sipush 400, 3) := by decide +kernel
theorem dX5_readSum_6 : decode cX5_readSum 6 = .ok (.if_icmp .ge 91, 3) := by decide +kernel
theorem dX5_readSum_9 : decode cX5_readSum 9 = .ok (.aload_n 0, 1) := by decide +kernel
theorem dX5_readSum_10 : decode cX5_readSum 10 = .ok (.ldc 93, 2) := by decide +kernel
theorem dX5_readSum_12 : decode cX5_readSum 12 = .ok (.invokevirtual 79, 3) := by decide +kernel
theorem dX5_readSum_15 : decode cX5_readSum 15 = .ok (.istore_n 3, 1) := by decide +kernel
theorem dX5_readSum_16 : decode cX5_readSum 16 = .ok (.aload_n 0, 1) := by decide +kernel
theorem dX5_readSum_17 : decode cX5_readSum 17 = .ok (.iconst 0, 1) := by decide +kernel
theorem dX5_readSum_18 : decode cX5_readSum 18 = .ok (.sipush 999, 3) := by decide +kernel
theorem dX5_readSum_21 : decode cX5_readSum 21 = .ok (.invokevirtual 95, 3) := by decide +kernel
theorem dX5_readSum_24 : decode cX5_readSum 24 = .ok (.istore 4, 2) := by decide +kernel
theorem dX5_readSum_26 : decode cX5_readSum 26 = .ok (.iload_n 3, 1) := by decide +kernel
theorem dX5_readSum_27 : decode cX5_readSum 27 = .ok (.iconst (-1), 1) := by decide +kernel
theorem dX5_readSum_28 : decode cX5_readSum 28 = .ok (.if_icmp .ne 14, 3) := by decide +kernel
theorem dX5_readSum_31 : decode cX5_readSum 31 = .ok (.iload 4, 2) := by decide +kernel
theorem dX5_readSum_33 : decode cX5_readSum 33 = .ok (.iconst (-1), 1) := by decide +kernel
theorem dX5_readSum_34 : decode cX5_readSum 34 = .ok (.if_icmp .ne 8, 3) := by decide +kernel
theorem dX5_readSum_37 : decode cX5_readSum 37 = .ok (.aload_n 0, 1) := by decide +kernel
theorem dX5_readSum_38 : decode cX5_readSum 38 = .ok (.invokevirtual 33, 3) := by decide +kernel
theorem dX5_readSum_41 : decode cX5_readSum 41 = .ok (.ireturn, 1) := by decide +kernel
theorem dX5_readSum_42 : decode cX5_readSum 42 = .ok (.aload_n 1, 1) := by decide +kernel
theorem dX5_readSum_43 : decode cX5_readSum 43 = .ok (.iload_n 3, 1) := by decide +kernel
theorem dX5_readSum_44 : decode cX5_readSum 44 = .ok (.iconst (-1), 1) := by decide +kernel
theorem dX5_readSum_45 : decode cX5_readSum 45 = .ok (.if_icmp .ne 8, 3) := by decide +kernel
theorem dX5_readSum_48 : decode cX5_readSum 48 = .ok (.bipush 9, 2) := by decide +kernel
theorem dX5_readSum_50 : decode cX5_readSum 50 = .ok (.goto 4, 3) := by decide +kernel
theorem dX5_readSum_53 : decode cX5_readSum 53 = .ok (.iload_n 3, 1) := by decide +kernel
theorem dX5_readSum_54 : decode cX5_readSum 54 = .ok (.iload 4, 2) := by decide +kernel
theorem dX5_readSum_56 : decode cX5_readSum 56 = .ok (.invokevirtual 68, 3) := by decide +kernel
theorem dX5_readSum_59 : decode cX5_readSum 59 = .ok (.pop, 1) := by decide +kernel
theorem dX5_readSum_60 : decode cX5_readSum 60 = .ok (.iload_n 2, 1) := by decide +kernel
theorem dX5_readSum_61 : decode cX5_readSum 61 = .ok (.ifCond .le 11, 3) := by decide +kernel
theorem dX5_readSum_64 : decode cX5_readSum 64 = .ok (.aload_n 1, 1) := by decide +kernel
theorem dX5_readSum_65 : decode cX5_readSum 65 = .ok (.bipush 11, 2) := by decide +kernel
theorem dX5_readSum_67 : decode cX5_readSum 67 = .ok (.iconst 0, 1) := by decide +kernel
theorem dX5_readSum_68 : decode cX5_readSum 68 = .ok (.invokevirtual 68, 3) := by decide +kernel
theorem dX5_readSum_71 : decode cX5_readSum 71 = .ok (.pop, 1) := by decide +kernel
theorem dX5_readSum_72 : decode cX5_readSum 72 = .ok (.aload_n 0, 1) := by decide +kernel
theorem dX5_readSum_73 : decode cX5_readSum 73 = .ok (.invokevirtual 85, 3) := by decide +kernel
theorem dX5_readSum_76 : decode cX5_readSum 76 = .ok (.aload_n 0, 1) := by decide +kernel
theorem dX5_readSum_77 : decode cX5_readSum 77 = .ok (.bipush 43, 2) := by decide +kernel
theorem dX5_readSum_79 : decode cX5_readSum 79 = .ok (.invokevirtual 82, 3) := by decide +kernel
theorem dX5_readSum_82 : decode cX5_readSum 82 = .ok (.ifCond .ne 5, 3) := by decide +kernel
theorem dX5_readSum_85 : decode cX5_readSum 85 = .ok (.iconst 1, 1) := by decide +kernel
theorem dX5_readSum_86 : decode cX5_readSum 86 = .ok (.ireturn, 1) := by decide +kernel
theorem dX5_readSum_87 : decode cX5_readSum 87 = .ok (.aload_n 0, 1) := by decide +kernel
theorem dX5_readSum_88 : decode cX5_readSum 88 = .ok (.invokevirtual 85, 3) := by decide +kernel
theorem dX5_readSum_91 : decode cX5_readSum 91 = .ok (.iinc 2 1, 3) := by decide +kernel
theorem dX5_readSum_94 : decode cX5_readSum 94 = .ok (.goto (-92), 3) := by decide +kernel
theorem dX5_readSum_97 : decode cX5_readSum 97 = .ok (.aload_n 0, 1) := by decide +kernel
theorem dX5_readSum_98 : decode cX5_readSum 98 = .ok (.invokevirtual 33, 3) := by decide +kernel
theorem dX5_readSum_101 : decode cX5_readSum 101 = .ok (.ireturn, 1) := by decide +kernel
set_option maxRecDepth 100000 in
set_option maxHeartbeats 200000 in
theorem T_X5_readSum_72 {X : CX} (hX : Ok X cX5_readSum 5 RX5 (some .boolean)) (hdx : dX X = 9) {r : Bool × Hp} (k1 : Nat) (hk1 : isLaw k1) (x2 : Int32) (q_2 : Int32 → Hp → Option (Bool × Hp)) (hq_2 : ∀ (x2 : Int32) (h : Hp), q_2 x2 h = some r → J X ((.inl (some (.int (b2i r.1))), r.2)) 2 [(0, .ref 2), (1, .ref k1), (2, .int x2)] [] h) (h : Hp) (hf : F_X5_readSum_72 q_2 k1 x2 h = some r) : J X ((.inl (some (.int (b2i r.1))), r.2)) 72 [(0, .ref 2), (1, .ref k1), (2, .int x2)] [] h := by
  unfold F_X5_readSum_72 at hf
  refine J_aload_n hX 0 dX5_readSum_72 rfl rfl ?_
  obtain ⟨r_1, e_2, hf⟩ := bdE hf
  refine V_0 hX [] dX5_readSum_73 cw_X5_85 ob_2 rfl (C_X10_step (okG hX) e_2) (ltD hdx rfl) rfl rfl rfl rfl ?_
  refine J_aload_n hX 0 dX5_readSum_76 rfl rfl ?_
  refine J_bipush hX 43 dX5_readSum_77 rfl ?_
  refine V_1 hX [.int 43] dX5_readSum_79 cw_X5_82 ob_2 rfl (C_X10_isSign (okG hX) rfl) (ltD hdx rfl) rfl rfl rfl rfl ?_
  rcases ifE hf with ⟨c_3, hf⟩ | ⟨c_3, hf⟩
  · refine J_if_neT hX 87 dX5_readSum_82 rfl (b2iT c_3) ?_
    refine J_aload_n hX 0 dX5_readSum_87 rfl rfl ?_
    obtain ⟨r_4, e_5, hf⟩ := bdE hf
    refine V_0 hX [] dX5_readSum_88 cw_X5_85 ob_2 rfl (C_X10_step (okG hX) e_5) (ltD hdx rfl) rfl rfl rfl rfl ?_
    refine J_iinc hX (x2 + 1) 2 [(2, .int (x2 + 1)), (0, .ref 2), (1, .ref k1)] dX5_readSum_91 rfl rfl rfl rfl ?_
    refine J_goto hX 2 dX5_readSum_94 rfl ?_
    refine J_sub [1, 2, 0] [(0, .ref 2), (1, .ref k1), (2, .int (x2 + 1))] rfl ?_
    exact hq_2 (x2 + 1) r_4 hf
  · refine J_if_neF hX 87 dX5_readSum_82 rfl (b2iF c_3) ?_
    refine J_iconst hX 1 dX5_readSum_85 rfl ?_
    exact E_Zi hX dX5_readSum_86 rfl hf
set_option maxRecDepth 100000 in
set_option maxHeartbeats 200000 in
theorem T_X5_readSum_54 {X : CX} (hX : Ok X cX5_readSum 5 RX5 (some .boolean)) (hdx : dX X = 9) {r : Bool × Hp} (k1 : Nat) (hk1 : isLaw k1) (x2 : Int32) (x4 : Int32) (t0 : Int32) (kt1 : Nat) (hkt1 : isLaw kt1) (q_2 : Int32 → Hp → Option (Bool × Hp)) (hq_2 : ∀ (x2 : Int32) (h : Hp), q_2 x2 h = some r → J X ((.inl (some (.int (b2i r.1))), r.2)) 2 [(0, .ref 2), (1, .ref k1), (2, .int x2)] [] h) (h : Hp) (hf : F_X5_readSum_54 q_2 k1 x2 x4 t0 kt1 h = some r) : J X ((.inl (some (.int (b2i r.1))), r.2)) 54 [(0, .ref 2), (1, .ref k1), (2, .int x2), (4, .int x4)] [.int t0, .ref kt1] h := by
  unfold F_X5_readSum_54 at hf
  refine J_iload hX 3 dX5_readSum_54 rfl ?_
  obtain ⟨r_1, e_2, hf⟩ := bdE hf
  refine V_1 hX [.int t0, .int x4] dX5_readSum_56 cw_X5_68 (law_ob hkt1) rfl (C_X4_addStep (okG hX) hkt1 e_2) (ltD hdx rfl) rfl rfl rfl rfl ?_
  refine J_pop hX dX5_readSum_59 rfl ?_
  refine J_iload_n hX 2 dX5_readSum_60 rfl rfl ?_
  rcases ifE hf with ⟨c_3, hf⟩ | ⟨c_3, hf⟩
  · refine J_if_leF hX 72 dX5_readSum_61 rfl c_3 ?_
    refine J_aload_n hX 1 dX5_readSum_64 rfl rfl ?_
    refine J_bipush hX 11 dX5_readSum_65 rfl ?_
    refine J_iconst hX 0 dX5_readSum_67 rfl ?_
    obtain ⟨r_4, e_5, hf⟩ := bdE hf
    refine V_1 hX [.int 11, .int 0] dX5_readSum_68 cw_X5_68 (law_ob hk1) rfl (C_X4_addStep (okG hX) hk1 e_5) (ltD hdx rfl) rfl rfl rfl rfl ?_
    refine J_pop hX dX5_readSum_71 rfl ?_
    refine J_sub [0, 1, 2] [(0, .ref 2), (1, .ref k1), (2, .int x2)] rfl ?_
    exact T_X5_readSum_72 hX hdx k1 hk1 x2 q_2 hq_2 r_4.2 hf
  · refine J_if_leT hX 72 dX5_readSum_61 rfl c_3 ?_
    refine J_sub [0, 1, 2] [(0, .ref 2), (1, .ref k1), (2, .int x2)] rfl ?_
    exact T_X5_readSum_72 hX hdx k1 hk1 x2 q_2 hq_2 r_1.2 hf
set_option maxRecDepth 100000 in
set_option maxHeartbeats 200000 in
theorem T_X5_readSum_42 {X : CX} (hX : Ok X cX5_readSum 5 RX5 (some .boolean)) (hdx : dX X = 9) {r : Bool × Hp} (k1 : Nat) (hk1 : isLaw k1) (x2 : Int32) (x3 : Int32) (x4 : Int32) (q_2 : Int32 → Hp → Option (Bool × Hp)) (hq_2 : ∀ (x2 : Int32) (h : Hp), q_2 x2 h = some r → J X ((.inl (some (.int (b2i r.1))), r.2)) 2 [(0, .ref 2), (1, .ref k1), (2, .int x2)] [] h) (h : Hp) (hf : F_X5_readSum_42 q_2 k1 x2 x3 x4 h = some r) : J X ((.inl (some (.int (b2i r.1))), r.2)) 42 [(0, .ref 2), (1, .ref k1), (2, .int x2), (3, .int x3), (4, .int x4)] [] h := by
  unfold F_X5_readSum_42 at hf
  refine J_aload_n hX 1 dX5_readSum_42 rfl rfl ?_
  refine J_iload_n hX 3 dX5_readSum_43 rfl rfl ?_
  refine J_iconst hX (-1) dX5_readSum_44 rfl ?_
  rcases ifE hf with ⟨c_1, hf⟩ | ⟨c_1, hf⟩
  · refine J_icmp_neF hX 53 dX5_readSum_45 rfl c_1 ?_
    refine J_bipush hX 9 dX5_readSum_48 rfl ?_
    refine J_goto hX 54 dX5_readSum_50 rfl ?_
    refine J_sub [0, 1, 2, 4] [(0, .ref 2), (1, .ref k1), (2, .int x2), (4, .int x4)] rfl ?_
    exact T_X5_readSum_54 hX hdx k1 hk1 x2 x4 9 k1 hk1 q_2 hq_2 h hf
  · refine J_icmp_neT hX 53 dX5_readSum_45 rfl c_1 ?_
    refine J_iload_n hX 3 dX5_readSum_53 rfl rfl ?_
    refine J_sub [0, 1, 2, 4] [(0, .ref 2), (1, .ref k1), (2, .int x2), (4, .int x4)] rfl ?_
    exact T_X5_readSum_54 hX hdx k1 hk1 x2 x4 x3 k1 hk1 q_2 hq_2 h hf
set_option maxRecDepth 100000 in
set_option maxHeartbeats 200000 in
theorem T_X5_readSum_2_s {X : CX} (hX : Ok X cX5_readSum 5 RX5 (some .boolean)) (hdx : dX X = 9) {r : Bool × Hp} (k1 : Nat) (hk1 : isLaw k1) (q_2 : Int32 → Hp → Option (Bool × Hp)) (hq_2 : ∀ (x2 : Int32) (h : Hp), q_2 x2 h = some r → J X ((.inl (some (.int (b2i r.1))), r.2)) 2 [(0, .ref 2), (1, .ref k1), (2, .int x2)] [] h) (x2 : Int32) (h : Hp) (hf : S_X5_readSum_2 k1 q_2 x2 h = some r) : J X ((.inl (some (.int (b2i r.1))), r.2)) 2 [(0, .ref 2), (1, .ref k1), (2, .int x2)] [] h := by
  unfold S_X5_readSum_2 at hf
  refine J_iload_n hX 2 dX5_readSum_2 rfl rfl ?_
  refine J_sipush hX 400 dX5_readSum_3 rfl ?_
  rcases ifE hf with ⟨c_1, hf⟩ | ⟨c_1, hf⟩
  · refine J_icmp_geF hX 97 dX5_readSum_6 rfl c_1 ?_
    refine J_aload_n hX 0 dX5_readSum_9 rfl rfl ?_
    refine J_ldcS hX 1013 dX5_readSum_10 rfl rfl ?_
    obtain ⟨r_2, e_3, hf⟩ := bdE hf
    refine V_1 hX [.ref 1013] dX5_readSum_12 cw_X5_79 ob_2 rfl (C_X10_wordOf (okG hX) (isStr_of (by decide)) e_3) (ltD hdx rfl) rfl rfl rfl rfl ?_
    refine J_istore_n hX [(3, .int r_2), (0, .ref 2), (1, .ref k1), (2, .int x2)] dX5_readSum_15 rfl rfl rfl ?_
    refine J_aload_n hX 1 dX5_readSum_16 rfl rfl ?_
    refine J_iconst hX 0 dX5_readSum_17 rfl ?_
    refine J_sipush hX 999 dX5_readSum_18 rfl ?_
    refine V_1 hX [.int 0, .int 999] dX5_readSum_21 cw_X5_95 ob_2 rfl (C_X10_numberAhead (okG hX) rfl) (ltD hdx rfl) rfl rfl rfl rfl ?_
    obtain ⟨x4_4, e_5, hf⟩ := bndE hf
    refine J_nm e_5 ?_
    refine J_istore hX [(4, .int x4_4), (3, .int r_2), (0, .ref 2), (1, .ref k1), (2, .int x2)] dX5_readSum_24 rfl rfl ?_
    refine J_iload_n hX 1 dX5_readSum_26 rfl rfl ?_
    refine J_iconst hX (-1) dX5_readSum_27 rfl ?_
    rcases ifE hf with ⟨c_6, hf⟩ | ⟨c_6, hf⟩
    · refine J_icmp_neF hX 42 dX5_readSum_28 rfl c_6 ?_
      refine J_iload hX 0 dX5_readSum_31 rfl ?_
      refine J_iconst hX (-1) dX5_readSum_33 rfl ?_
      rcases ifE hf with ⟨c_7, hf⟩ | ⟨c_7, hf⟩
      · refine J_icmp_neF hX 42 dX5_readSum_34 rfl c_7 ?_
        refine J_aload_n hX 2 dX5_readSum_37 rfl rfl ?_
        obtain ⟨r_8, e_9, hf⟩ := bdE hf
        refine V_1 hX [] dX5_readSum_38 cw_X5_33 ob_2 rfl (C_X10_fail (okG hX) e_9) (ltD hdx rfl) rfl rfl rfl rfl ?_
        exact E_Zi hX dX5_readSum_41 rfl hf
      · refine J_icmp_neT hX 42 dX5_readSum_34 rfl c_7 ?_
        refine J_sub [2, 3, 4, 1, 0] [(0, .ref 2), (1, .ref k1), (2, .int x2), (3, .int r_2), (4, .int x4_4)] rfl ?_
        exact T_X5_readSum_42 hX hdx k1 hk1 x2 r_2 x4_4 q_2 hq_2 h hf
    · refine J_icmp_neT hX 42 dX5_readSum_28 rfl c_6 ?_
      refine J_sub [2, 3, 4, 1, 0] [(0, .ref 2), (1, .ref k1), (2, .int x2), (3, .int r_2), (4, .int x4_4)] rfl ?_
      exact T_X5_readSum_42 hX hdx k1 hk1 x2 r_2 x4_4 q_2 hq_2 h hf
  · refine J_icmp_geT hX 97 dX5_readSum_6 rfl c_1 ?_
    refine J_aload_n hX 0 dX5_readSum_97 rfl rfl ?_
    obtain ⟨r_10, e_11, hf⟩ := bdE hf
    refine V_1 hX [] dX5_readSum_98 cw_X5_33 ob_2 rfl (C_X10_fail (okG hX) e_11) (ltD hdx rfl) rfl rfl rfl rfl ?_
    exact E_Zi hX dX5_readSum_101 rfl hf
set_option maxRecDepth 100000 in
set_option maxHeartbeats 200000 in
theorem T_X5_readSum_2 {X : CX} (hX : Ok X cX5_readSum 5 RX5 (some .boolean)) (hdx : dX X = 9) {r : Bool × Hp} (k1 : Nat) (hk1 : isLaw k1) : ∀ (n : Nat) (x2 : Int32) (h : Hp), F_X5_readSum_2 k1 n x2 h = some r → J X ((.inl (some (.int (b2i r.1))), r.2)) 2 [(0, .ref 2), (1, .ref k1), (2, .int x2)] [] h := by
  intro n
  induction n with
  | zero => intro x2 h hf; exact nomatch hf
  | succ n ih => intro x2 h hf; exact T_X5_readSum_2_s hX hdx k1 hk1 _ (fun x2 h hf => ih x2 h hf) x2 h hf
set_option maxRecDepth 100000 in
set_option maxHeartbeats 200000 in
theorem T_X5_readSum_0 {X : CX} (hX : Ok X cX5_readSum 5 RX5 (some .boolean)) (hdx : dX X = 9) {r : Bool × Hp} (k1 : Nat) (hk1 : isLaw k1) (h : Hp) (hf : f_X5_readSum k1 h = some r) : J X ((.inl (some (.int (b2i r.1))), r.2)) 0 [(0, .ref 2), (1, .ref k1)] [] h := by
  unfold f_X5_readSum at hf
  refine J_iconst hX 0 dX5_readSum_0 rfl ?_
  refine J_istore_n hX [(2, .int 0), (0, .ref 2), (1, .ref k1)] dX5_readSum_1 rfl rfl rfl ?_
  refine J_sub [1, 2, 0] [(0, .ref 2), (1, .ref k1), (2, .int 0)] rfl ?_
  exact T_X5_readSum_2 hX hdx k1 hk1 FU 0 h hf
set_option maxRecDepth 100000 in
set_option maxHeartbeats 200000 in
theorem C_X5_readSum {G : GX} (hG : GOk G) {k1 : Nat} {h : Hp} {r : Bool × Hp} (hk1 : isLaw k1) (hf : f_X5_readSum k1 h = some r) : Ctr G 9 yX5_readSum cX5_readSum 5 (some .boolean) [.ref 2, .ref k1] h ((.inl (some (.int (b2i r.1))), r.2)) :=
  Ctr_of hG RX5 rfl (by decide) rfl (fun X _ hdx hX => T_X5_readSum_0 hX hdx k1 hk1 h hf)
theorem dX5_readAll_0 : decode cX5_readAll 0 = .ok (.aload_n 0, 1) := by decide +kernel
theorem dX5_readAll_1 : decode cX5_readAll 1 = .ok (.aload_n 1, 1) := by decide +kernel
theorem dX5_readAll_2 : decode cX5_readAll 2 = .ok (.iload_n 2, 1) := by decide +kernel
theorem dX5_readAll_3 : decode cX5_readAll 3 = .ok (.invokestatic 72, 3) := by decide +kernel
theorem dX5_readAll_6 : decode cX5_readAll 6 = .ok (.istore_n 3, 1) := by decide +kernel
theorem dX5_readAll_7 : decode cX5_readAll 7 = .ok (.iconst 0, 1) := by decide +kernel
theorem dX5_readAll_8 : decode cX5_readAll 8 = .ok (.istore 4, 2) := by decide +kernel
theorem dX5_readAll_10 : decode cX5_readAll 10 = .ok (.iload_n 3, 1) := by decide +kernel
theorem dX5_readAll_11 : decode cX5_readAll 11 = .ok (.ifCond .eq 51, 3) := by decide +kernel
theorem dX5_readAll_14 : decode cX5_readAll 14 = .ok (.iload 4, 2) := by decide +kernel
theorem dX5_readAll_16 : decode cX5_readAll 16 = .ok (.sipush 400, 3) := by decide +kernel
theorem dX5_readAll_19 : decode cX5_readAll 19 = .ok (.if_icmp .ge 43, 3) := by decide +kernel
theorem dX5_readAll_22 : decode cX5_readAll 22 = .ok (.aload_n 0, 1) := by decide +kernel
theorem dX5_readAll_23 : decode cX5_readAll 23 = .ok (.ldc 75, 2) := by decide +kernel
theorem dX5_readAll_25 : decode cX5_readAll 25 = .ok (.invokevirtual 52, 3) := by decide +kernel
theorem dX5_readAll_28 : decode cX5_readAll 28 = .ok (.ifCond .eq 34, 3) := by decide +kernel
theorem dX5_readAll_31 : decode cX5_readAll 31 = .ok (.aload_n 0, 1) := by decide +kernel
theorem dX5_readAll_32 : decode cX5_readAll 32 = .ok (.aload_n 1, 1) := by decide +kernel
theorem dX5_readAll_33 : decode cX5_readAll 33 = .ok (.iload_n 2, 1) := by decide +kernel
theorem dX5_readAll_34 : decode cX5_readAll 34 = .ok (.invokestatic 72, 3) := by decide +kernel
theorem dX5_readAll_37 : decode cX5_readAll 37 = .ok (.ifCond .eq 17, 3) := by decide +kernel
theorem dX5_readAll_40 : decode cX5_readAll 40 = .ok (.aload_n 1, 1) := by decide +kernel
theorem dX5_readAll_41 : decode cX5_readAll 41 = .ok (.bipush 14, 2) := by decide +kernel
theorem dX5_readAll_43 : decode cX5_readAll 43 = .ok (.iconst 0, 1) := by decide +kernel
theorem dX5_readAll_44 : decode cX5_readAll 44 = .ok (.invokevirtual 68, 3) := by decide +kernel
theorem dX5_readAll_47 : decode cX5_readAll 47 = .ok (.ifCond .eq 7, 3) := by decide +kernel
theorem dX5_readAll_50 : decode cX5_readAll 50 = .ok (.iconst 1, 1) := by decide +kernel
theorem dX5_readAll_51 : decode cX5_readAll 51 = .ok (.goto 4, 3) := by decide +kernel
theorem dX5_readAll_54 : decode cX5_readAll 54 = .ok (.iconst 0, 1) := by decide +kernel
theorem dX5_readAll_55 : decode cX5_readAll 55 = .ok (.istore_n 3, 1) := by decide +kernel
theorem dX5_readAll_56 : decode cX5_readAll 56 = .ok (.iinc 4 1, 3) := by decide +kernel
theorem dX5_readAll_59 : decode cX5_readAll 59 = .ok (.goto (-49), 3) := by decide +kernel
theorem dX5_readAll_62 : decode cX5_readAll 62 = .ok (.iload_n 3, 1) := by decide +kernel
theorem dX5_readAll_63 : decode cX5_readAll 63 = .ok (.ireturn, 1) := by decide +kernel
set_option maxRecDepth 100000 in
set_option maxHeartbeats 200000 in
theorem T_X5_readAll_10_s {X : CX} {D : Nat} (hX : Ok X cX5_readAll 5 RX5 (some .boolean)) (hdx : dX X = D + 1) (hD : 11 ≤ D) (rec : Nat → Int32 → Hp → Option (Bool × Hp)) (hrec : ∀ (k1 : Nat) (hk1 : isLaw k1) (x2 : Int32) (h : Hp) (r : Bool × Hp), rec k1 x2 h = some r → Ctr X.1 D yX5_readAtom cX5_readAtom 7 (some .boolean) [.ref 2, .ref k1, .int x2] h ((.inl (some (.int (b2i r.1))), r.2))) {r : Bool × Hp} (k1 : Nat) (hk1 : isLaw k1) (x2 : Int32) (q_10 : Int32 → Int32 → Hp → Option (Bool × Hp)) (hq_10 : ∀ (x3 : Int32) (x4 : Int32) (h : Hp), q_10 x3 x4 h = some r → J X ((.inl (some (.int (b2i r.1))), r.2)) 10 [(0, .ref 2), (1, .ref k1), (2, .int x2), (3, .int x3), (4, .int x4)] [] h) (x3 : Int32) (x4 : Int32) (h : Hp) (hf : S_X5_readAll_10 rec k1 x2 q_10 x3 x4 h = some r) : J X ((.inl (some (.int (b2i r.1))), r.2)) 10 [(0, .ref 2), (1, .ref k1), (2, .int x2), (3, .int x3), (4, .int x4)] [] h := by
  unfold S_X5_readAll_10 at hf
  refine J_iload_n hX 3 dX5_readAll_10 rfl rfl ?_
  rcases ifE hf with ⟨c_1, hf⟩ | ⟨c_1, hf⟩
  · refine J_if_eqT hX 62 dX5_readAll_11 rfl c_1 ?_
    refine J_iload_n hX 3 dX5_readAll_62 rfl rfl ?_
    obtain ⟨b_2, e_3, hf⟩ := bdE hf
    exact E_Zi hX dX5_readAll_63 (toBE e_3) hf
  · refine J_if_eqF hX 62 dX5_readAll_11 rfl c_1 ?_
    refine J_iload hX 4 dX5_readAll_14 rfl ?_
    refine J_sipush hX 400 dX5_readAll_16 rfl ?_
    rcases ifE hf with ⟨c_4, hf⟩ | ⟨c_4, hf⟩
    · refine J_icmp_geF hX 62 dX5_readAll_19 rfl c_4 ?_
      refine J_aload_n hX 0 dX5_readAll_22 rfl rfl ?_
      refine J_ldcS hX 1014 dX5_readAll_23 rfl rfl ?_
      obtain ⟨r_5, e_6, hf⟩ := bdE hf
      refine V_1 hX [.ref 1014] dX5_readAll_25 cw_X5_52 ob_2 rfl (C_X10_takes (okG hX) (isStr_of (by decide)) e_6) (by rw [hdx]; omega) rfl rfl rfl rfl ?_
      rcases ifE hf with ⟨c_7, hf⟩ | ⟨c_7, hf⟩
      · refine J_if_eqF hX 62 dX5_readAll_28 rfl (b2iT c_7) ?_
        refine J_aload_n hX 0 dX5_readAll_31 rfl rfl ?_
        refine J_aload_n hX 1 dX5_readAll_32 rfl rfl ?_
        refine J_iload_n hX 2 dX5_readAll_33 rfl rfl ?_
        obtain ⟨r_8, e_9, hf⟩ := bdE hf
        refine S_1 hX [.ref 2, .ref k1, .int x2] dX5_readAll_34 cw_X5_72 (hrec k1 hk1 x2 r_5.2 _ e_9) (by rw [hdx]; omega) rfl rfl rfl rfl ?_
        rcases ifE hf with ⟨c_10, hf⟩ | ⟨c_10, hf⟩
        · refine J_if_eqF hX 54 dX5_readAll_37 rfl (b2iT c_10) ?_
          refine J_aload_n hX 1 dX5_readAll_40 rfl rfl ?_
          refine J_bipush hX 14 dX5_readAll_41 rfl ?_
          refine J_iconst hX 0 dX5_readAll_43 rfl ?_
          obtain ⟨r_11, e_12, hf⟩ := bdE hf
          refine V_1 hX [.int 14, .int 0] dX5_readAll_44 cw_X5_68 (law_ob hk1) rfl (C_X4_addStep (okG hX) hk1 e_12) (by rw [hdx]; omega) rfl rfl rfl rfl ?_
          rcases ifE hf with ⟨c_13, hf⟩ | ⟨c_13, hf⟩
          · refine J_if_eqF hX 54 dX5_readAll_47 rfl (b2iT c_13) ?_
            refine J_iconst hX 1 dX5_readAll_50 rfl ?_
            refine J_goto hX 55 dX5_readAll_51 rfl ?_
            refine J_istore_n hX [(3, .int 1), (0, .ref 2), (1, .ref k1), (2, .int x2), (4, .int x4)] dX5_readAll_55 rfl rfl rfl ?_
            refine J_iinc hX (x4 + 1) 4 [(4, .int (x4 + 1)), (3, .int 1), (0, .ref 2), (1, .ref k1), (2, .int x2)] dX5_readAll_56 rfl rfl rfl rfl ?_
            refine J_goto hX 10 dX5_readAll_59 rfl ?_
            refine J_sub [2, 3, 4, 1, 0] [(0, .ref 2), (1, .ref k1), (2, .int x2), (3, .int 1), (4, .int (x4 + 1))] rfl ?_
            exact hq_10 1 (x4 + 1) r_11.2 hf
          · refine J_if_eqT hX 54 dX5_readAll_47 rfl (b2iF c_13) ?_
            refine J_iconst hX 0 dX5_readAll_54 rfl ?_
            refine J_istore_n hX [(3, .int 0), (0, .ref 2), (1, .ref k1), (2, .int x2), (4, .int x4)] dX5_readAll_55 rfl rfl rfl ?_
            refine J_iinc hX (x4 + 1) 4 [(4, .int (x4 + 1)), (3, .int 0), (0, .ref 2), (1, .ref k1), (2, .int x2)] dX5_readAll_56 rfl rfl rfl rfl ?_
            refine J_goto hX 10 dX5_readAll_59 rfl ?_
            refine J_sub [2, 3, 4, 1, 0] [(0, .ref 2), (1, .ref k1), (2, .int x2), (3, .int 0), (4, .int (x4 + 1))] rfl ?_
            exact hq_10 0 (x4 + 1) r_11.2 hf
        · refine J_if_eqT hX 54 dX5_readAll_37 rfl (b2iF c_10) ?_
          refine J_iconst hX 0 dX5_readAll_54 rfl ?_
          refine J_istore_n hX [(3, .int 0), (0, .ref 2), (1, .ref k1), (2, .int x2), (4, .int x4)] dX5_readAll_55 rfl rfl rfl ?_
          refine J_iinc hX (x4 + 1) 4 [(4, .int (x4 + 1)), (3, .int 0), (0, .ref 2), (1, .ref k1), (2, .int x2)] dX5_readAll_56 rfl rfl rfl rfl ?_
          refine J_goto hX 10 dX5_readAll_59 rfl ?_
          refine J_sub [2, 3, 4, 1, 0] [(0, .ref 2), (1, .ref k1), (2, .int x2), (3, .int 0), (4, .int (x4 + 1))] rfl ?_
          exact hq_10 0 (x4 + 1) r_8.2 hf
      · refine J_if_eqT hX 62 dX5_readAll_28 rfl (b2iF c_7) ?_
        refine J_iload_n hX 3 dX5_readAll_62 rfl rfl ?_
        obtain ⟨b_14, e_15, hf⟩ := bdE hf
        exact E_Zi hX dX5_readAll_63 (toBE e_15) hf
    · refine J_icmp_geT hX 62 dX5_readAll_19 rfl c_4 ?_
      refine J_iload_n hX 3 dX5_readAll_62 rfl rfl ?_
      obtain ⟨b_16, e_17, hf⟩ := bdE hf
      exact E_Zi hX dX5_readAll_63 (toBE e_17) hf
set_option maxRecDepth 100000 in
set_option maxHeartbeats 200000 in
theorem T_X5_readAll_10 {X : CX} {D : Nat} (hX : Ok X cX5_readAll 5 RX5 (some .boolean)) (hdx : dX X = D + 1) (hD : 11 ≤ D) (rec : Nat → Int32 → Hp → Option (Bool × Hp)) (hrec : ∀ (k1 : Nat) (hk1 : isLaw k1) (x2 : Int32) (h : Hp) (r : Bool × Hp), rec k1 x2 h = some r → Ctr X.1 D yX5_readAtom cX5_readAtom 7 (some .boolean) [.ref 2, .ref k1, .int x2] h ((.inl (some (.int (b2i r.1))), r.2))) {r : Bool × Hp} (k1 : Nat) (hk1 : isLaw k1) (x2 : Int32) : ∀ (n : Nat) (x3 : Int32) (x4 : Int32) (h : Hp), F_X5_readAll_10 rec k1 x2 n x3 x4 h = some r → J X ((.inl (some (.int (b2i r.1))), r.2)) 10 [(0, .ref 2), (1, .ref k1), (2, .int x2), (3, .int x3), (4, .int x4)] [] h := by
  intro n
  induction n with
  | zero => intro x3 x4 h hf; exact nomatch hf
  | succ n ih => intro x3 x4 h hf; exact T_X5_readAll_10_s hX hdx hD rec hrec k1 hk1 x2 _ (fun x3 x4 h hf => ih x3 x4 h hf) x3 x4 h hf
set_option maxRecDepth 100000 in
set_option maxHeartbeats 200000 in
theorem T_X5_readAll_0 {X : CX} {D : Nat} (hX : Ok X cX5_readAll 5 RX5 (some .boolean)) (hdx : dX X = D + 1) (hD : 11 ≤ D) (rec : Nat → Int32 → Hp → Option (Bool × Hp)) (hrec : ∀ (k1 : Nat) (hk1 : isLaw k1) (x2 : Int32) (h : Hp) (r : Bool × Hp), rec k1 x2 h = some r → Ctr X.1 D yX5_readAtom cX5_readAtom 7 (some .boolean) [.ref 2, .ref k1, .int x2] h ((.inl (some (.int (b2i r.1))), r.2))) {r : Bool × Hp} (k1 : Nat) (hk1 : isLaw k1) (x2 : Int32) (h : Hp) (hf : f_X5_readAll rec k1 x2 h = some r) : J X ((.inl (some (.int (b2i r.1))), r.2)) 0 [(0, .ref 2), (1, .ref k1), (2, .int x2)] [] h := by
  unfold f_X5_readAll at hf
  refine J_aload_n hX 0 dX5_readAll_0 rfl rfl ?_
  refine J_aload_n hX 1 dX5_readAll_1 rfl rfl ?_
  refine J_iload_n hX 2 dX5_readAll_2 rfl rfl ?_
  obtain ⟨r_1, e_2, hf⟩ := bdE hf
  refine S_1 hX [.ref 2, .ref k1, .int x2] dX5_readAll_3 cw_X5_72 (hrec k1 hk1 x2 h _ e_2) (by rw [hdx]; omega) rfl rfl rfl rfl ?_
  obtain ⟨x3_3, e_4, hf⟩ := bndE hf
  refine J_nm e_4 ?_
  refine J_istore_n hX [(3, .int x3_3), (0, .ref 2), (1, .ref k1), (2, .int x2)] dX5_readAll_6 rfl rfl rfl ?_
  refine J_iconst hX 0 dX5_readAll_7 rfl ?_
  refine J_istore hX [(4, .int 0), (3, .int x3_3), (0, .ref 2), (1, .ref k1), (2, .int x2)] dX5_readAll_8 rfl rfl ?_
  refine J_sub [2, 3, 4, 1, 0] [(0, .ref 2), (1, .ref k1), (2, .int x2), (3, .int x3_3), (4, .int 0)] rfl ?_
  exact T_X5_readAll_10 hX hdx hD rec hrec k1 hk1 x2 FU x3_3 0 r_1.2 hf
set_option maxRecDepth 100000 in
set_option maxHeartbeats 200000 in
theorem C_X5_readAll {G : GX} (hG : GOk G) {D : Nat} (hD : 11 ≤ D) (rec : Nat → Int32 → Hp → Option (Bool × Hp)) (hrec : ∀ (k1 : Nat) (hk1 : isLaw k1) (x2 : Int32) (h : Hp) (r : Bool × Hp), rec k1 x2 h = some r → Ctr G D yX5_readAtom cX5_readAtom 7 (some .boolean) [.ref 2, .ref k1, .int x2] h ((.inl (some (.int (b2i r.1))), r.2))) {k1 : Nat} {x2 : Int32} {h : Hp} {r : Bool × Hp} (hk1 : isLaw k1) (hf : f_X5_readAll rec k1 x2 h = some r) : Ctr G (D + 1) yX5_readAll cX5_readAll 5 (some .boolean) [.ref 2, .ref k1, .int x2] h ((.inl (some (.int (b2i r.1))), r.2)) :=
  Ctr_of hG RX5 rfl (by decide) rfl (fun X hX1 hdx hX => T_X5_readAll_0 hX hdx hD rec (by rw [hX1]; exact hrec) k1 hk1 x2 h hf)
theorem dX5_readChoice_0 : decode cX5_readChoice 0 = .ok (.aload_n 0, 1) := by decide +kernel
theorem dX5_readChoice_1 : decode cX5_readChoice 1 = .ok (.aload_n 1, 1) := by decide +kernel
theorem dX5_readChoice_2 : decode cX5_readChoice 2 = .ok (.iload_n 2, 1) := by decide +kernel
theorem dX5_readChoice_3 : decode cX5_readChoice 3 = .ok (.invokestatic 63, 3) := by decide +kernel
theorem dX5_readChoice_6 : decode cX5_readChoice 6 = .ok (.istore_n 3, 1) := by decide +kernel
theorem dX5_readChoice_7 : decode cX5_readChoice 7 = .ok (.iconst 0, 1) := by decide +kernel
theorem dX5_readChoice_8 : decode cX5_readChoice 8 = .ok (.istore 4, 2) := by decide +kernel
theorem dX5_readChoice_10 : decode cX5_readChoice 10 = .ok (.iload_n 3, 1) := by decide +kernel
theorem dX5_readChoice_11 : decode cX5_readChoice 11 = .ok (.ifCond .eq 51, 3) := by decide +kernel
theorem dX5_readChoice_14 : decode cX5_readChoice 14 = .ok (.iload 4, 2) := by decide +kernel
theorem dX5_readChoice_16 : decode cX5_readChoice 16 = .ok (.sipush 400, 3) := by decide +kernel
theorem dX5_readChoice_19 : decode cX5_readChoice 19 = .ok (.if_icmp .ge 43, 3) := by decide +kernel
theorem dX5_readChoice_22 : decode cX5_readChoice 22 = .ok (.aload_n 0, 1) := by decide +kernel
theorem dX5_readChoice_23 : decode cX5_readChoice 23 = .ok (.ldc 66, 2) := by decide +kernel
theorem dX5_readChoice_25 : decode cX5_readChoice 25 = .ok (.invokevirtual 52, 3) := by decide +kernel
theorem dX5_readChoice_28 : decode cX5_readChoice 28 = .ok (.ifCond .eq 34, 3) := by decide +kernel
theorem dX5_readChoice_31 : decode cX5_readChoice 31 = .ok (.aload_n 0, 1) := by decide +kernel
theorem dX5_readChoice_32 : decode cX5_readChoice 32 = .ok (.aload_n 1, 1) := by decide +kernel
theorem dX5_readChoice_33 : decode cX5_readChoice 33 = .ok (.iload_n 2, 1) := by decide +kernel
theorem dX5_readChoice_34 : decode cX5_readChoice 34 = .ok (.invokestatic 63, 3) := by decide +kernel
theorem dX5_readChoice_37 : decode cX5_readChoice 37 = .ok (.ifCond .eq 17, 3) := by decide +kernel
theorem dX5_readChoice_40 : decode cX5_readChoice 40 = .ok (.aload_n 1, 1) := by decide +kernel
theorem dX5_readChoice_41 : decode cX5_readChoice 41 = .ok (.bipush 15, 2) := by decide +kernel
theorem dX5_readChoice_43 : decode cX5_readChoice 43 = .ok (.iconst 0, 1) := by decide +kernel
theorem dX5_readChoice_44 : decode cX5_readChoice 44 = .ok (.invokevirtual 68, 3) := by decide +kernel
theorem dX5_readChoice_47 : decode cX5_readChoice 47 = .ok (.ifCond .eq 7, 3) := by decide +kernel
theorem dX5_readChoice_50 : decode cX5_readChoice 50 = .ok (.iconst 1, 1) := by decide +kernel
theorem dX5_readChoice_51 : decode cX5_readChoice 51 = .ok (.goto 4, 3) := by decide +kernel
theorem dX5_readChoice_54 : decode cX5_readChoice 54 = .ok (.iconst 0, 1) := by decide +kernel
theorem dX5_readChoice_55 : decode cX5_readChoice 55 = .ok (.istore_n 3, 1) := by decide +kernel
theorem dX5_readChoice_56 : decode cX5_readChoice 56 = .ok (.iinc 4 1, 3) := by decide +kernel
theorem dX5_readChoice_59 : decode cX5_readChoice 59 = .ok (.goto (-49), 3) := by decide +kernel
theorem dX5_readChoice_62 : decode cX5_readChoice 62 = .ok (.iload_n 3, 1) := by decide +kernel
theorem dX5_readChoice_63 : decode cX5_readChoice 63 = .ok (.ireturn, 1) := by decide +kernel
set_option maxRecDepth 100000 in
set_option maxHeartbeats 200000 in
theorem T_X5_readChoice_10_s {X : CX} {D : Nat} (hX : Ok X cX5_readChoice 5 RX5 (some .boolean)) (hdx : dX X = D + 2) (hD : 11 ≤ D) (rec : Nat → Int32 → Hp → Option (Bool × Hp)) (hrec : ∀ (k1 : Nat) (hk1 : isLaw k1) (x2 : Int32) (h : Hp) (r : Bool × Hp), rec k1 x2 h = some r → Ctr X.1 D yX5_readAtom cX5_readAtom 7 (some .boolean) [.ref 2, .ref k1, .int x2] h ((.inl (some (.int (b2i r.1))), r.2))) {r : Bool × Hp} (k1 : Nat) (hk1 : isLaw k1) (x2 : Int32) (q_10 : Int32 → Int32 → Hp → Option (Bool × Hp)) (hq_10 : ∀ (x3 : Int32) (x4 : Int32) (h : Hp), q_10 x3 x4 h = some r → J X ((.inl (some (.int (b2i r.1))), r.2)) 10 [(0, .ref 2), (1, .ref k1), (2, .int x2), (3, .int x3), (4, .int x4)] [] h) (x3 : Int32) (x4 : Int32) (h : Hp) (hf : S_X5_readChoice_10 rec k1 x2 q_10 x3 x4 h = some r) : J X ((.inl (some (.int (b2i r.1))), r.2)) 10 [(0, .ref 2), (1, .ref k1), (2, .int x2), (3, .int x3), (4, .int x4)] [] h := by
  unfold S_X5_readChoice_10 at hf
  refine J_iload_n hX 3 dX5_readChoice_10 rfl rfl ?_
  rcases ifE hf with ⟨c_1, hf⟩ | ⟨c_1, hf⟩
  · refine J_if_eqT hX 62 dX5_readChoice_11 rfl c_1 ?_
    refine J_iload_n hX 3 dX5_readChoice_62 rfl rfl ?_
    obtain ⟨b_2, e_3, hf⟩ := bdE hf
    exact E_Zi hX dX5_readChoice_63 (toBE e_3) hf
  · refine J_if_eqF hX 62 dX5_readChoice_11 rfl c_1 ?_
    refine J_iload hX 4 dX5_readChoice_14 rfl ?_
    refine J_sipush hX 400 dX5_readChoice_16 rfl ?_
    rcases ifE hf with ⟨c_4, hf⟩ | ⟨c_4, hf⟩
    · refine J_icmp_geF hX 62 dX5_readChoice_19 rfl c_4 ?_
      refine J_aload_n hX 0 dX5_readChoice_22 rfl rfl ?_
      refine J_ldcS hX 1015 dX5_readChoice_23 rfl rfl ?_
      obtain ⟨r_5, e_6, hf⟩ := bdE hf
      refine V_1 hX [.ref 1015] dX5_readChoice_25 cw_X5_52 ob_2 rfl (C_X10_takes (okG hX) (isStr_of (by decide)) e_6) (by rw [hdx]; omega) rfl rfl rfl rfl ?_
      rcases ifE hf with ⟨c_7, hf⟩ | ⟨c_7, hf⟩
      · refine J_if_eqF hX 62 dX5_readChoice_28 rfl (b2iT c_7) ?_
        refine J_aload_n hX 0 dX5_readChoice_31 rfl rfl ?_
        refine J_aload_n hX 1 dX5_readChoice_32 rfl rfl ?_
        refine J_iload_n hX 2 dX5_readChoice_33 rfl rfl ?_
        obtain ⟨r_8, e_9, hf⟩ := bdE hf
        refine S_1 hX [.ref 2, .ref k1, .int x2] dX5_readChoice_34 cw_X5_63 (C_X5_readAll (okG hX) hD rec hrec hk1 e_9) (by rw [hdx]; omega) rfl rfl rfl rfl ?_
        rcases ifE hf with ⟨c_10, hf⟩ | ⟨c_10, hf⟩
        · refine J_if_eqF hX 54 dX5_readChoice_37 rfl (b2iT c_10) ?_
          refine J_aload_n hX 1 dX5_readChoice_40 rfl rfl ?_
          refine J_bipush hX 15 dX5_readChoice_41 rfl ?_
          refine J_iconst hX 0 dX5_readChoice_43 rfl ?_
          obtain ⟨r_11, e_12, hf⟩ := bdE hf
          refine V_1 hX [.int 15, .int 0] dX5_readChoice_44 cw_X5_68 (law_ob hk1) rfl (C_X4_addStep (okG hX) hk1 e_12) (by rw [hdx]; omega) rfl rfl rfl rfl ?_
          rcases ifE hf with ⟨c_13, hf⟩ | ⟨c_13, hf⟩
          · refine J_if_eqF hX 54 dX5_readChoice_47 rfl (b2iT c_13) ?_
            refine J_iconst hX 1 dX5_readChoice_50 rfl ?_
            refine J_goto hX 55 dX5_readChoice_51 rfl ?_
            refine J_istore_n hX [(3, .int 1), (0, .ref 2), (1, .ref k1), (2, .int x2), (4, .int x4)] dX5_readChoice_55 rfl rfl rfl ?_
            refine J_iinc hX (x4 + 1) 4 [(4, .int (x4 + 1)), (3, .int 1), (0, .ref 2), (1, .ref k1), (2, .int x2)] dX5_readChoice_56 rfl rfl rfl rfl ?_
            refine J_goto hX 10 dX5_readChoice_59 rfl ?_
            refine J_sub [2, 3, 4, 1, 0] [(0, .ref 2), (1, .ref k1), (2, .int x2), (3, .int 1), (4, .int (x4 + 1))] rfl ?_
            exact hq_10 1 (x4 + 1) r_11.2 hf
          · refine J_if_eqT hX 54 dX5_readChoice_47 rfl (b2iF c_13) ?_
            refine J_iconst hX 0 dX5_readChoice_54 rfl ?_
            refine J_istore_n hX [(3, .int 0), (0, .ref 2), (1, .ref k1), (2, .int x2), (4, .int x4)] dX5_readChoice_55 rfl rfl rfl ?_
            refine J_iinc hX (x4 + 1) 4 [(4, .int (x4 + 1)), (3, .int 0), (0, .ref 2), (1, .ref k1), (2, .int x2)] dX5_readChoice_56 rfl rfl rfl rfl ?_
            refine J_goto hX 10 dX5_readChoice_59 rfl ?_
            refine J_sub [2, 3, 4, 1, 0] [(0, .ref 2), (1, .ref k1), (2, .int x2), (3, .int 0), (4, .int (x4 + 1))] rfl ?_
            exact hq_10 0 (x4 + 1) r_11.2 hf
        · refine J_if_eqT hX 54 dX5_readChoice_37 rfl (b2iF c_10) ?_
          refine J_iconst hX 0 dX5_readChoice_54 rfl ?_
          refine J_istore_n hX [(3, .int 0), (0, .ref 2), (1, .ref k1), (2, .int x2), (4, .int x4)] dX5_readChoice_55 rfl rfl rfl ?_
          refine J_iinc hX (x4 + 1) 4 [(4, .int (x4 + 1)), (3, .int 0), (0, .ref 2), (1, .ref k1), (2, .int x2)] dX5_readChoice_56 rfl rfl rfl rfl ?_
          refine J_goto hX 10 dX5_readChoice_59 rfl ?_
          refine J_sub [2, 3, 4, 1, 0] [(0, .ref 2), (1, .ref k1), (2, .int x2), (3, .int 0), (4, .int (x4 + 1))] rfl ?_
          exact hq_10 0 (x4 + 1) r_8.2 hf
      · refine J_if_eqT hX 62 dX5_readChoice_28 rfl (b2iF c_7) ?_
        refine J_iload_n hX 3 dX5_readChoice_62 rfl rfl ?_
        obtain ⟨b_14, e_15, hf⟩ := bdE hf
        exact E_Zi hX dX5_readChoice_63 (toBE e_15) hf
    · refine J_icmp_geT hX 62 dX5_readChoice_19 rfl c_4 ?_
      refine J_iload_n hX 3 dX5_readChoice_62 rfl rfl ?_
      obtain ⟨b_16, e_17, hf⟩ := bdE hf
      exact E_Zi hX dX5_readChoice_63 (toBE e_17) hf
set_option maxRecDepth 100000 in
set_option maxHeartbeats 200000 in
theorem T_X5_readChoice_10 {X : CX} {D : Nat} (hX : Ok X cX5_readChoice 5 RX5 (some .boolean)) (hdx : dX X = D + 2) (hD : 11 ≤ D) (rec : Nat → Int32 → Hp → Option (Bool × Hp)) (hrec : ∀ (k1 : Nat) (hk1 : isLaw k1) (x2 : Int32) (h : Hp) (r : Bool × Hp), rec k1 x2 h = some r → Ctr X.1 D yX5_readAtom cX5_readAtom 7 (some .boolean) [.ref 2, .ref k1, .int x2] h ((.inl (some (.int (b2i r.1))), r.2))) {r : Bool × Hp} (k1 : Nat) (hk1 : isLaw k1) (x2 : Int32) : ∀ (n : Nat) (x3 : Int32) (x4 : Int32) (h : Hp), F_X5_readChoice_10 rec k1 x2 n x3 x4 h = some r → J X ((.inl (some (.int (b2i r.1))), r.2)) 10 [(0, .ref 2), (1, .ref k1), (2, .int x2), (3, .int x3), (4, .int x4)] [] h := by
  intro n
  induction n with
  | zero => intro x3 x4 h hf; exact nomatch hf
  | succ n ih => intro x3 x4 h hf; exact T_X5_readChoice_10_s hX hdx hD rec hrec k1 hk1 x2 _ (fun x3 x4 h hf => ih x3 x4 h hf) x3 x4 h hf
set_option maxRecDepth 100000 in
set_option maxHeartbeats 200000 in
theorem T_X5_readChoice_0 {X : CX} {D : Nat} (hX : Ok X cX5_readChoice 5 RX5 (some .boolean)) (hdx : dX X = D + 2) (hD : 11 ≤ D) (rec : Nat → Int32 → Hp → Option (Bool × Hp)) (hrec : ∀ (k1 : Nat) (hk1 : isLaw k1) (x2 : Int32) (h : Hp) (r : Bool × Hp), rec k1 x2 h = some r → Ctr X.1 D yX5_readAtom cX5_readAtom 7 (some .boolean) [.ref 2, .ref k1, .int x2] h ((.inl (some (.int (b2i r.1))), r.2))) {r : Bool × Hp} (k1 : Nat) (hk1 : isLaw k1) (x2 : Int32) (h : Hp) (hf : f_X5_readChoice rec k1 x2 h = some r) : J X ((.inl (some (.int (b2i r.1))), r.2)) 0 [(0, .ref 2), (1, .ref k1), (2, .int x2)] [] h := by
  unfold f_X5_readChoice at hf
  refine J_aload_n hX 0 dX5_readChoice_0 rfl rfl ?_
  refine J_aload_n hX 1 dX5_readChoice_1 rfl rfl ?_
  refine J_iload_n hX 2 dX5_readChoice_2 rfl rfl ?_
  obtain ⟨r_1, e_2, hf⟩ := bdE hf
  refine S_1 hX [.ref 2, .ref k1, .int x2] dX5_readChoice_3 cw_X5_63 (C_X5_readAll (okG hX) hD rec hrec hk1 e_2) (by rw [hdx]; omega) rfl rfl rfl rfl ?_
  obtain ⟨x3_3, e_4, hf⟩ := bndE hf
  refine J_nm e_4 ?_
  refine J_istore_n hX [(3, .int x3_3), (0, .ref 2), (1, .ref k1), (2, .int x2)] dX5_readChoice_6 rfl rfl rfl ?_
  refine J_iconst hX 0 dX5_readChoice_7 rfl ?_
  refine J_istore hX [(4, .int 0), (3, .int x3_3), (0, .ref 2), (1, .ref k1), (2, .int x2)] dX5_readChoice_8 rfl rfl ?_
  refine J_sub [2, 3, 4, 1, 0] [(0, .ref 2), (1, .ref k1), (2, .int x2), (3, .int x3_3), (4, .int 0)] rfl ?_
  exact T_X5_readChoice_10 hX hdx hD rec hrec k1 hk1 x2 FU x3_3 0 r_1.2 hf
set_option maxRecDepth 100000 in
set_option maxHeartbeats 200000 in
theorem C_X5_readChoice {G : GX} (hG : GOk G) {D : Nat} (hD : 11 ≤ D) (rec : Nat → Int32 → Hp → Option (Bool × Hp)) (hrec : ∀ (k1 : Nat) (hk1 : isLaw k1) (x2 : Int32) (h : Hp) (r : Bool × Hp), rec k1 x2 h = some r → Ctr G D yX5_readAtom cX5_readAtom 7 (some .boolean) [.ref 2, .ref k1, .int x2] h ((.inl (some (.int (b2i r.1))), r.2))) {k1 : Nat} {x2 : Int32} {h : Hp} {r : Bool × Hp} (hk1 : isLaw k1) (hf : f_X5_readChoice rec k1 x2 h = some r) : Ctr G (D + 2) yX5_readChoice cX5_readChoice 5 (some .boolean) [.ref 2, .ref k1, .int x2] h ((.inl (some (.int (b2i r.1))), r.2)) :=
  Ctr_of hG RX5 rfl (by decide) rfl (fun X hX1 hdx hX => T_X5_readChoice_0 hX hdx hD rec (by rw [hX1]; exact hrec) k1 hk1 x2 h hf)
theorem dX5_readAtom_0 : decode cX5_readAtom 0 = .ok (.aload_n 0, 1) := by decide +kernel
theorem dX5_readAtom_1 : decode cX5_readAtom 1 = .ok (.ldc 77, 2) := by decide +kernel
theorem dX5_readAtom_3 : decode cX5_readAtom 3 = .ok (.invokevirtual 79, 3) := by decide +kernel
theorem dX5_readAtom_6 : decode cX5_readAtom 6 = .ok (.iconst (-1), 1) := by decide +kernel
theorem dX5_readAtom_7 : decode cX5_readAtom 7 = .ok (.if_icmp .eq 7, 3) := by decide +kernel
theorem dX5_readAtom_10 : decode cX5_readAtom 10 = .ok (.iconst 1, 1) := by decide +kernel
theorem dX5_readAtom_11 : decode cX5_readAtom 11 = .ok (.goto 4, 3) := by decide +kernel
theorem dX5_readAtom_14 : decode cX5_readAtom 14 = .ok (.iconst 0, 1) := by decide +kernel
theorem dX5_readAtom_15 : decode cX5_readAtom 15 = .ok (.istore_n 3, 1) := by decide +kernel
theorem dX5_readAtom_16 : decode cX5_readAtom 16 = .ok (.aload_n 0, 1) := by decide +kernel
theorem dX5_readAtom_17 : decode cX5_readAtom 17 = .ok (.bipush 40, 2) := by decide +kernel
theorem dX5_readAtom_19 : decode cX5_readAtom 19 = .ok (.invokevirtual 82, 3) := by decide +kernel
theorem dX5_readAtom_22 : decode cX5_readAtom 22 = .ok (.istore 4, 2) := by decide +kernel
theorem dX5_readAtom_24 : decode cX5_readAtom 24 = .ok (.iload_n 3, 1) := by decide +kernel
theorem dX5_readAtom_25 : decode cX5_readAtom 25 = .ok (.ifCond .ne 8, 3) := by decide +kernel
theorem dX5_readAtom_28 : decode cX5_readAtom 28 = .ok (.iload 4, 2) := by decide +kernel
theorem dX5_readAtom_30 : decode cX5_readAtom 30 = .ok (.ifCond .eq 14, 3) := by decide +kernel
theorem dX5_readAtom_33 : decode cX5_readAtom 33 = .ok (.iload_n 2, 1) := by decide +kernel
theorem dX5_readAtom_34 : decode cX5_readAtom 34 = .ok (.bipush 6, 2) := by decide +kernel
theorem dX5_readAtom_36 : decode cX5_readAtom 36 = .ok (.if_icmp .lt 8, 3) := by decide +kernel
theorem dX5_readAtom_39 : decode cX5_readAtom 39 = .ok (.aload_n 0, 1) := by decide +kernel
theorem dX5_readAtom_40 : decode cX5_readAtom 40 = .ok (.invokevirtual 33, 3) := by decide +kernel
theorem dX5_readAtom_43 : decode cX5_readAtom 43 = .ok (.ireturn, 1) := by decide +kernel
theorem dX5_readAtom_44 : decode cX5_readAtom 44 = .ok (.iload_n 3, 1) := by decide +kernel
theorem dX5_readAtom_45 : decode cX5_readAtom 45 = .ok (.ifCond .eq 34, 3) := by decide +kernel
theorem dX5_readAtom_48 : decode cX5_readAtom 48 = .ok (.aload_n 0, 1) := by decide +kernel
theorem dX5_readAtom_49 : decode cX5_readAtom 49 = .ok (.invokevirtual 85, 3) := by decide +kernel
theorem dX5_readAtom_52 : decode cX5_readAtom 52 = .ok (.aload_n 0, 1) := by decide +kernel
theorem dX5_readAtom_53 : decode cX5_readAtom 53 = .ok (.aload_n 1, 1) := by decide +kernel
theorem dX5_readAtom_54 : decode cX5_readAtom 54 = .ok (.iload_n 2, 1) := by decide +kernel
theorem dX5_readAtom_55 : decode cX5_readAtom 55 = .ok (.iconst 1, 1) := by decide +kernel
theorem dX5_readAtom_56 : decode cX5_readAtom 56 = .ok (.iadd, 1) := by decide +kernel
theorem dX5_readAtom_57 : decode cX5_readAtom 57 = .ok (.invokestatic 72, 3) := by decide +kernel
theorem dX5_readAtom_60 : decode cX5_readAtom 60 = .ok (.ifCond .eq 17, 3) := by decide +kernel
theorem dX5_readAtom_63 : decode cX5_readAtom 63 = .ok (.aload_n 1, 1) := by decide +kernel
theorem dX5_readAtom_64 : decode cX5_readAtom 64 = .ok (.bipush 10, 2) := by decide +kernel
theorem dX5_readAtom_66 : decode cX5_readAtom 66 = .ok (.iconst 0, 1) := by decide +kernel
theorem dX5_readAtom_67 : decode cX5_readAtom 67 = .ok (.invokevirtual 68, 3) := by decide +kernel
theorem dX5_readAtom_70 : decode cX5_readAtom 70 = .ok (.ifCond .eq 7, 3) := by decide +kernel
theorem dX5_readAtom_73 : decode cX5_readAtom 73 = .ok (.iconst 1, 1) := by decide +kernel
theorem dX5_readAtom_74 : decode cX5_readAtom 74 = .ok (.goto 4, 3) := by decide +kernel
theorem dX5_readAtom_77 : decode cX5_readAtom 77 = .ok (.iconst 0, 1) := by decide +kernel
theorem dX5_readAtom_78 : decode cX5_readAtom 78 = .ok (.ireturn, 1) := by decide +kernel
theorem dX5_readAtom_79 : decode cX5_readAtom 79 = .ok (.iload 4, 2) := by decide +kernel
theorem dX5_readAtom_81 : decode cX5_readAtom 81 = .ok (.ifCond .eq 40, 3) := by decide +kernel
theorem dX5_readAtom_84 : decode cX5_readAtom 84 = .ok (.aload_n 0, 1) := by decide +kernel
theorem dX5_readAtom_85 : decode cX5_readAtom 85 = .ok (.invokevirtual 85, 3) := by decide +kernel
theorem dX5_readAtom_88 : decode cX5_readAtom 88 = .ok (.aload_n 0, 1) := by decide +kernel
theorem dX5_readAtom_89 : decode cX5_readAtom 89 = .ok (.aload_n 1, 1) := by decide +kernel
theorem dX5_readAtom_90 : decode cX5_readAtom 90 = .ok (.iload_n 2, 1) := by decide +kernel
theorem dX5_readAtom_91 : decode cX5_readAtom 91 = .ok (.iconst 1, 1) := by decide +kernel
theorem dX5_readAtom_92 : decode cX5_readAtom 92 = .ok (.iadd, 1) := by decide +kernel
theorem dX5_readAtom_93 : decode cX5_readAtom 93 = .ok (.invokestatic 56, 3) := by decide +kernel
theorem dX5_readAtom_96 : decode cX5_readAtom 96 = .ok (.ifCond .eq 23, 3) := by decide +kernel
theorem dX5_readAtom_99 : decode cX5_readAtom 99 = .ok (.aload_n 0, 1) := by decide +kernel
theorem dX5_readAtom_100 : decode cX5_readAtom 100 = .ok (.bipush 41, 2) := by decide +kernel
theorem dX5_readAtom_102 : decode cX5_readAtom 102 = .ok (.invokevirtual 29, 3) := by decide +kernel
theorem dX5_readAtom_105 : decode cX5_readAtom 105 = .ok (.ifCond .ne 10, 3) := by decide +kernel
theorem dX5_readAtom_108 : decode cX5_readAtom 108 = .ok (.aload_n 0, 1) := by decide +kernel
theorem dX5_readAtom_109 : decode cX5_readAtom 109 = .ok (.invokevirtual 33, 3) := by decide +kernel
theorem dX5_readAtom_112 : decode cX5_readAtom 112 = .ok (.ifCond .eq 7, 3) := by decide +kernel
theorem dX5_readAtom_115 : decode cX5_readAtom 115 = .ok (.iconst 1, 1) := by decide +kernel
theorem dX5_readAtom_116 : decode cX5_readAtom 116 = .ok (.goto 4, 3) := by decide +kernel
theorem dX5_readAtom_119 : decode cX5_readAtom 119 = .ok (.iconst 0, 1) := by decide +kernel
theorem dX5_readAtom_120 : decode cX5_readAtom 120 = .ok (.ireturn, 1) := by decide +kernel
theorem dX5_readAtom_121 : decode cX5_readAtom 121 = .ok (.aload_n 0, 1) := by decide +kernel
theorem dX5_readAtom_122 : decode cX5_readAtom 122 = .ok (.ldc 88, 2) := by decide +kernel
theorem dX5_readAtom_124 : decode cX5_readAtom 124 = .ok (.invokevirtual 38, 3) := by decide +kernel
theorem dX5_readAtom_127 : decode cX5_readAtom 127 = .ok (.istore 5, 2) := by decide +kernel
theorem dX5_readAtom_129 : decode cX5_readAtom 129 = .ok (.iload 5, 2) := by decide +kernel
theorem dX5_readAtom_131 : decode cX5_readAtom 131 = .ok (.iconst (-1), 1) := by decide +kernel
theorem dX5_readAtom_132 : decode cX5_readAtom 132 = .ok (.if_icmp .eq 14, 3) := by decide +kernel
theorem dX5_readAtom_135 : decode cX5_readAtom 135 = .ok (.aload_n 1, 1) := by decide +kernel
theorem dX5_readAtom_136 : decode cX5_readAtom 136 = .ok (.bipush 6, 2) := by decide +kernel
theorem dX5_readAtom_138 : decode cX5_readAtom 138 = .ok (.iload 5, 2) := by decide +kernel
theorem dX5_readAtom_140 : decode cX5_readAtom 140 = .ok (.iadd, 1) := by decide +kernel
theorem dX5_readAtom_141 : decode cX5_readAtom 141 = .ok (.iconst 0, 1) := by decide +kernel
theorem dX5_readAtom_142 : decode cX5_readAtom 142 = .ok (.invokevirtual 68, 3) := by decide +kernel
theorem dX5_readAtom_145 : decode cX5_readAtom 145 = .ok (.ireturn, 1) := by decide +kernel
theorem dX5_readAtom_146 : decode cX5_readAtom 146 = .ok (.aload_n 0, 1) := by decide +kernel
theorem dX5_readAtom_147 : decode cX5_readAtom 147 = .ok (.aload_n 1, 1) := by decide +kernel
theorem dX5_readAtom_148 : decode cX5_readAtom 148 = .ok (.invokestatic 90, 3) := by decide +kernel
theorem dX5_readAtom_151 : decode cX5_readAtom 151 = .ok (.ifCond .ne 5, 3) := by decide +kernel
theorem dX5_readAtom_154 : decode cX5_readAtom 154 = .ok (.iconst 0, 1) := by decide +kernel
theorem dX5_readAtom_155 : decode cX5_readAtom 155 = .ok (.ireturn, 1) := by decide +kernel
theorem dX5_readAtom_156 : decode cX5_readAtom 156 = .ok (.aload_n 0, 1) := by decide +kernel
theorem dX5_readAtom_157 : decode cX5_readAtom 157 = .ok (.bipush 60, 2) := by decide +kernel
theorem dX5_readAtom_159 : decode cX5_readAtom 159 = .ok (.invokevirtual 82, 3) := by decide +kernel
theorem dX5_readAtom_162 : decode cX5_readAtom 162 = .ok (.istore 6, 2) := by decide +kernel
theorem dX5_readAtom_164 : decode cX5_readAtom 164 = .ok (.iload 6, 2) := by decide +kernel
theorem dX5_readAtom_166 : decode cX5_readAtom 166 = .ok (.ifCond .ne 17, 3) := by decide +kernel
theorem dX5_readAtom_169 : decode cX5_readAtom 169 = .ok (.aload_n 0, 1) := by decide +kernel
theorem dX5_readAtom_170 : decode cX5_readAtom 170 = .ok (.bipush 62, 2) := by decide +kernel
theorem dX5_readAtom_172 : decode cX5_readAtom 172 = .ok (.invokevirtual 82, 3) := by decide +kernel
theorem dX5_readAtom_175 : decode cX5_readAtom 175 = .ok (.ifCond .ne 8, 3) := by decide +kernel
theorem dX5_readAtom_178 : decode cX5_readAtom 178 = .ok (.aload_n 0, 1) := by decide +kernel
theorem dX5_readAtom_179 : decode cX5_readAtom 179 = .ok (.invokevirtual 33, 3) := by decide +kernel
theorem dX5_readAtom_182 : decode cX5_readAtom 182 = .ok (.ireturn, 1) := by decide +kernel
theorem dX5_readAtom_183 : decode cX5_readAtom 183 = .ok (.aload_n 0, 1) := by decide +kernel
theorem dX5_readAtom_184 : decode cX5_readAtom 184 = .ok (.invokevirtual 85, 3) := by decide +kernel
theorem dX5_readAtom_187 : decode cX5_readAtom 187 = .ok (.aload_n 0, 1) := by decide +kernel
theorem dX5_readAtom_188 : decode cX5_readAtom 188 = .ok (.aload_n 1, 1) := by decide +kernel
theorem dX5_readAtom_189 : decode cX5_readAtom 189 = .ok (.invokestatic 90, 3) := by decide +kernel
theorem dX5_readAtom_192 : decode cX5_readAtom 192 = .ok (.ifCond .eq 27, 3) := by decide +kernel
theorem dX5_readAtom_195 : decode cX5_readAtom 195 = .ok (.aload_n 1, 1) := by decide +kernel
theorem dX5_readAtom_196 : decode cX5_readAtom 196 = .ok (.iload 6, 2) := by decide +kernel
theorem dX5_readAtom_198 : decode cX5_readAtom 198 = .ok (.ifCond .eq 8, 3) := by decide +kernel
theorem dX5_readAtom_201 : decode cX5_readAtom 201 = .ok (.bipush 12, 2) := by decide +kernel
theorem dX5_readAtom_203 : decode cX5_readAtom 203 = .ok (.goto 5, 3) := by decide +kernel
theorem dX5_readAtom_206 : decode cX5_readAtom 206 = .ok (.bipush 13, 2) := by decide +kernel
theorem dX5_readAtom_208 : decode cX5_readAtom 208 = .ok (.iconst 0, 1) := by decide +kernel
theorem dX5_readAtom_209 : decode cX5_readAtom 209 = .ok (.invokevirtual 68, 3) := by decide +kernel
theorem dX5_readAtom_212 : decode cX5_readAtom 212 = .ok (.ifCond .eq 7, 3) := by decide +kernel
theorem dX5_readAtom_215 : decode cX5_readAtom 215 = .ok (.iconst 1, 1) := by decide +kernel
theorem dX5_readAtom_216 : decode cX5_readAtom 216 = .ok (.goto 4, 3) := by decide +kernel
theorem dX5_readAtom_219 : decode cX5_readAtom 219 = .ok (.iconst 0, 1) := by decide +kernel
theorem dX5_readAtom_220 : decode cX5_readAtom 220 = .ok (.ireturn, 1) := by decide +kernel
set_option maxRecDepth 100000 in
set_option maxHeartbeats 200000 in
theorem T_X5_readAtom_208 {X : CX} {D : Nat} (hX : Ok X cX5_readAtom 7 RX5 (some .boolean)) (hdx : dX X = D + 3) (hD : 11 ≤ D) (rec : Nat → Int32 → Hp → Option (Bool × Hp)) (hrec : ∀ (k1 : Nat) (hk1 : isLaw k1) (x2 : Int32) (h : Hp) (r : Bool × Hp), rec k1 x2 h = some r → Ctr X.1 D yX5_readAtom cX5_readAtom 7 (some .boolean) [.ref 2, .ref k1, .int x2] h ((.inl (some (.int (b2i r.1))), r.2))) {r : Bool × Hp} (t0 : Int32) (kt1 : Nat) (hkt1 : isLaw kt1) (h : Hp) (hf : F_X5_readAtom_208 rec t0 kt1 h = some r) : J X ((.inl (some (.int (b2i r.1))), r.2)) 208 [] [.int t0, .ref kt1] h := by
  unfold F_X5_readAtom_208 at hf
  refine J_iconst hX 0 dX5_readAtom_208 rfl ?_
  obtain ⟨r_1, e_2, hf⟩ := bdE hf
  refine V_1 hX [.int t0, .int 0] dX5_readAtom_209 cw_X5_68 (law_ob hkt1) rfl (C_X4_addStep (okG hX) hkt1 e_2) (by rw [hdx]; omega) rfl rfl rfl rfl ?_
  rcases ifE hf with ⟨c_3, hf⟩ | ⟨c_3, hf⟩
  · refine J_if_eqF hX 219 dX5_readAtom_212 rfl (b2iT c_3) ?_
    refine J_iconst hX 1 dX5_readAtom_215 rfl ?_
    refine J_goto hX 220 dX5_readAtom_216 rfl ?_
    exact E_Zi hX dX5_readAtom_220 rfl hf
  · refine J_if_eqT hX 219 dX5_readAtom_212 rfl (b2iF c_3) ?_
    refine J_iconst hX 0 dX5_readAtom_219 rfl ?_
    exact E_Zi hX dX5_readAtom_220 rfl hf
set_option maxRecDepth 100000 in
set_option maxHeartbeats 200000 in
theorem T_X5_readAtom_183 {X : CX} {D : Nat} (hX : Ok X cX5_readAtom 7 RX5 (some .boolean)) (hdx : dX X = D + 3) (hD : 11 ≤ D) (rec : Nat → Int32 → Hp → Option (Bool × Hp)) (hrec : ∀ (k1 : Nat) (hk1 : isLaw k1) (x2 : Int32) (h : Hp) (r : Bool × Hp), rec k1 x2 h = some r → Ctr X.1 D yX5_readAtom cX5_readAtom 7 (some .boolean) [.ref 2, .ref k1, .int x2] h ((.inl (some (.int (b2i r.1))), r.2))) {r : Bool × Hp} (k1 : Nat) (hk1 : isLaw k1) (x6 : Int32) (h : Hp) (hf : F_X5_readAtom_183 rec k1 x6 h = some r) : J X ((.inl (some (.int (b2i r.1))), r.2)) 183 [(0, .ref 2), (1, .ref k1), (6, .int x6)] [] h := by
  unfold F_X5_readAtom_183 at hf
  refine J_aload_n hX 0 dX5_readAtom_183 rfl rfl ?_
  obtain ⟨r_1, e_2, hf⟩ := bdE hf
  refine V_0 hX [] dX5_readAtom_184 cw_X5_85 ob_2 rfl (C_X10_step (okG hX) e_2) (by rw [hdx]; omega) rfl rfl rfl rfl ?_
  refine J_aload_n hX 0 dX5_readAtom_187 rfl rfl ?_
  refine J_aload_n hX 1 dX5_readAtom_188 rfl rfl ?_
  obtain ⟨r_3, e_4, hf⟩ := bdE hf
  refine S_1 hX [.ref 2, .ref k1] dX5_readAtom_189 cw_X5_90 (C_X5_readSum (okG hX) hk1 e_4) (by rw [hdx]; omega) rfl rfl rfl rfl ?_
  rcases ifE hf with ⟨c_5, hf⟩ | ⟨c_5, hf⟩
  · refine J_if_eqF hX 219 dX5_readAtom_192 rfl (b2iT c_5) ?_
    refine J_aload_n hX 1 dX5_readAtom_195 rfl rfl ?_
    refine J_iload hX 2 dX5_readAtom_196 rfl ?_
    rcases ifE hf with ⟨c_6, hf⟩ | ⟨c_6, hf⟩
    · refine J_if_eqT hX 206 dX5_readAtom_198 rfl c_6 ?_
      refine J_bipush hX 13 dX5_readAtom_206 rfl ?_
      refine J_sub [] [] rfl ?_
      exact T_X5_readAtom_208 hX hdx hD rec hrec 13 k1 hk1 r_3.2 hf
    · refine J_if_eqF hX 206 dX5_readAtom_198 rfl c_6 ?_
      refine J_bipush hX 12 dX5_readAtom_201 rfl ?_
      refine J_goto hX 208 dX5_readAtom_203 rfl ?_
      refine J_sub [] [] rfl ?_
      exact T_X5_readAtom_208 hX hdx hD rec hrec 12 k1 hk1 r_3.2 hf
  · refine J_if_eqT hX 219 dX5_readAtom_192 rfl (b2iF c_5) ?_
    refine J_iconst hX 0 dX5_readAtom_219 rfl ?_
    exact E_Zi hX dX5_readAtom_220 rfl hf
set_option maxRecDepth 100000 in
set_option maxHeartbeats 200000 in
theorem T_X5_readAtom_44 {X : CX} {D : Nat} (hX : Ok X cX5_readAtom 7 RX5 (some .boolean)) (hdx : dX X = D + 3) (hD : 11 ≤ D) (rec : Nat → Int32 → Hp → Option (Bool × Hp)) (hrec : ∀ (k1 : Nat) (hk1 : isLaw k1) (x2 : Int32) (h : Hp) (r : Bool × Hp), rec k1 x2 h = some r → Ctr X.1 D yX5_readAtom cX5_readAtom 7 (some .boolean) [.ref 2, .ref k1, .int x2] h ((.inl (some (.int (b2i r.1))), r.2))) {r : Bool × Hp} (k1 : Nat) (hk1 : isLaw k1) (x2 : Int32) (x3 : Int32) (x4 : Int32) (h : Hp) (hf : F_X5_readAtom_44 rec k1 x2 x3 x4 h = some r) : J X ((.inl (some (.int (b2i r.1))), r.2)) 44 [(0, .ref 2), (1, .ref k1), (2, .int x2), (3, .int x3), (4, .int x4)] [] h := by
  unfold F_X5_readAtom_44 at hf
  refine J_iload_n hX 3 dX5_readAtom_44 rfl rfl ?_
  rcases ifE hf with ⟨c_1, hf⟩ | ⟨c_1, hf⟩
  · refine J_if_eqT hX 79 dX5_readAtom_45 rfl c_1 ?_
    refine J_iload hX 4 dX5_readAtom_79 rfl ?_
    rcases ifE hf with ⟨c_2, hf⟩ | ⟨c_2, hf⟩
    · refine J_if_eqT hX 121 dX5_readAtom_81 rfl c_2 ?_
      refine J_aload_n hX 0 dX5_readAtom_121 rfl rfl ?_
      refine J_ldcS hX 1012 dX5_readAtom_122 rfl rfl ?_
      obtain ⟨r_3, e_4, hf⟩ := bdE hf
      refine V_1 hX [.ref 1012] dX5_readAtom_124 cw_X5_38 ob_2 rfl (C_X10_take (okG hX) (isStr_of (by decide)) e_4) (by rw [hdx]; omega) rfl rfl rfl rfl ?_
      refine J_istore hX [(5, .int r_3.1), (0, .ref 2), (1, .ref k1), (2, .int x2), (3, .int x3), (4, .int x4)] dX5_readAtom_127 rfl rfl ?_
      refine J_iload hX 0 dX5_readAtom_129 rfl ?_
      refine J_iconst hX (-1) dX5_readAtom_131 rfl ?_
      rcases ifE hf with ⟨c_5, hf⟩ | ⟨c_5, hf⟩
      · refine J_icmp_eqT hX 146 dX5_readAtom_132 rfl c_5 ?_
        refine J_aload_n hX 1 dX5_readAtom_146 rfl rfl ?_
        refine J_aload_n hX 2 dX5_readAtom_147 rfl rfl ?_
        obtain ⟨r_6, e_7, hf⟩ := bdE hf
        refine S_1 hX [.ref 2, .ref k1] dX5_readAtom_148 cw_X5_90 (C_X5_readSum (okG hX) hk1 e_7) (by rw [hdx]; omega) rfl rfl rfl rfl ?_
        rcases ifE hf with ⟨c_8, hf⟩ | ⟨c_8, hf⟩
        · refine J_if_neT hX 156 dX5_readAtom_151 rfl (b2iT c_8) ?_
          refine J_aload_n hX 1 dX5_readAtom_156 rfl rfl ?_
          refine J_bipush hX 60 dX5_readAtom_157 rfl ?_
          refine V_1 hX [.int 60] dX5_readAtom_159 cw_X5_82 ob_2 rfl (C_X10_isSign (okG hX) rfl) (by rw [hdx]; omega) rfl rfl rfl rfl ?_
          obtain ⟨x6_9, e_10, hf⟩ := bndE hf
          refine J_nm e_10 ?_
          refine J_istore hX [(6, .int x6_9), (5, .int r_3.1), (0, .ref 2), (1, .ref k1), (2, .int x2), (3, .int x3), (4, .int x4)] dX5_readAtom_162 rfl rfl ?_
          refine J_iload hX 0 dX5_readAtom_164 rfl ?_
          rcases ifE hf with ⟨c_11, hf⟩ | ⟨c_11, hf⟩
          · refine J_if_neF hX 183 dX5_readAtom_166 rfl c_11 ?_
            refine J_aload_n hX 2 dX5_readAtom_169 rfl rfl ?_
            refine J_bipush hX 62 dX5_readAtom_170 rfl ?_
            refine V_1 hX [.int 62] dX5_readAtom_172 cw_X5_82 ob_2 rfl (C_X10_isSign (okG hX) rfl) (by rw [hdx]; omega) rfl rfl rfl rfl ?_
            rcases ifE hf with ⟨c_12, hf⟩ | ⟨c_12, hf⟩
            · refine J_if_neT hX 183 dX5_readAtom_175 rfl (b2iT c_12) ?_
              refine J_sub [2, 3, 0] [(0, .ref 2), (1, .ref k1), (6, .int x6_9)] rfl ?_
              exact T_X5_readAtom_183 hX hdx hD rec hrec k1 hk1 x6_9 r_6.2 hf
            · refine J_if_neF hX 183 dX5_readAtom_175 rfl (b2iF c_12) ?_
              refine J_aload_n hX 2 dX5_readAtom_178 rfl rfl ?_
              obtain ⟨r_13, e_14, hf⟩ := bdE hf
              refine V_1 hX [] dX5_readAtom_179 cw_X5_33 ob_2 rfl (C_X10_fail (okG hX) e_14) (by rw [hdx]; omega) rfl rfl rfl rfl ?_
              exact E_Zi hX dX5_readAtom_182 rfl hf
          · refine J_if_neT hX 183 dX5_readAtom_166 rfl c_11 ?_
            refine J_sub [2, 3, 0] [(0, .ref 2), (1, .ref k1), (6, .int x6_9)] rfl ?_
            exact T_X5_readAtom_183 hX hdx hD rec hrec k1 hk1 x6_9 r_6.2 hf
        · refine J_if_neF hX 156 dX5_readAtom_151 rfl (b2iF c_8) ?_
          refine J_iconst hX 0 dX5_readAtom_154 rfl ?_
          exact E_Zi hX dX5_readAtom_155 rfl hf
      · refine J_icmp_eqF hX 146 dX5_readAtom_132 rfl c_5 ?_
        refine J_aload_n hX 2 dX5_readAtom_135 rfl rfl ?_
        refine J_bipush hX 6 dX5_readAtom_136 rfl ?_
        refine J_iload hX 0 dX5_readAtom_138 rfl ?_
        refine J_iadd hX dX5_readAtom_140 ?_
        refine J_iconst hX 0 dX5_readAtom_141 rfl ?_
        obtain ⟨r_15, e_16, hf⟩ := bdE hf
        refine V_1 hX [.int (6 + r_3.1), .int 0] dX5_readAtom_142 cw_X5_68 (law_ob hk1) rfl (C_X4_addStep (okG hX) hk1 e_16) (by rw [hdx]; omega) rfl rfl rfl rfl ?_
        exact E_Zi hX dX5_readAtom_145 rfl hf
    · refine J_if_eqF hX 121 dX5_readAtom_81 rfl c_2 ?_
      refine J_aload_n hX 0 dX5_readAtom_84 rfl rfl ?_
      obtain ⟨r_17, e_18, hf⟩ := bdE hf
      refine V_0 hX [] dX5_readAtom_85 cw_X5_85 ob_2 rfl (C_X10_step (okG hX) e_18) (by rw [hdx]; omega) rfl rfl rfl rfl ?_
      refine J_aload_n hX 0 dX5_readAtom_88 rfl rfl ?_
      refine J_aload_n hX 1 dX5_readAtom_89 rfl rfl ?_
      refine J_iload_n hX 2 dX5_readAtom_90 rfl rfl ?_
      refine J_iconst hX 1 dX5_readAtom_91 rfl ?_
      refine J_iadd hX dX5_readAtom_92 ?_
      obtain ⟨r_19, e_20, hf⟩ := bdE hf
      refine S_1 hX [.ref 2, .ref k1, .int (x2 + 1)] dX5_readAtom_93 cw_X5_56 (C_X5_readChoice (okG hX) hD rec hrec hk1 e_20) (by rw [hdx]; omega) rfl rfl rfl rfl ?_
      rcases ifE hf with ⟨c_21, hf⟩ | ⟨c_21, hf⟩
      · refine J_if_eqF hX 119 dX5_readAtom_96 rfl (b2iT c_21) ?_
        refine J_aload_n hX 0 dX5_readAtom_99 rfl rfl ?_
        refine J_bipush hX 41 dX5_readAtom_100 rfl ?_
        obtain ⟨r_22, e_23, hf⟩ := bdE hf
        refine V_1 hX [.int 41] dX5_readAtom_102 cw_X5_29 ob_2 rfl (C_X10_takesSign (okG hX) e_23) (by rw [hdx]; omega) rfl rfl rfl rfl ?_
        rcases ifE hf with ⟨c_24, hf⟩ | ⟨c_24, hf⟩
        · refine J_if_neT hX 115 dX5_readAtom_105 rfl (b2iT c_24) ?_
          refine J_iconst hX 1 dX5_readAtom_115 rfl ?_
          refine J_goto hX 120 dX5_readAtom_116 rfl ?_
          exact E_Zi hX dX5_readAtom_120 rfl hf
        · refine J_if_neF hX 115 dX5_readAtom_105 rfl (b2iF c_24) ?_
          refine J_aload_n hX 0 dX5_readAtom_108 rfl rfl ?_
          obtain ⟨r_25, e_26, hf⟩ := bdE hf
          refine V_1 hX [] dX5_readAtom_109 cw_X5_33 ob_2 rfl (C_X10_fail (okG hX) e_26) (by rw [hdx]; omega) rfl rfl rfl rfl ?_
          rcases ifE hf with ⟨c_27, hf⟩ | ⟨c_27, hf⟩
          · refine J_if_eqF hX 119 dX5_readAtom_112 rfl (b2iT c_27) ?_
            refine J_iconst hX 1 dX5_readAtom_115 rfl ?_
            refine J_goto hX 120 dX5_readAtom_116 rfl ?_
            exact E_Zi hX dX5_readAtom_120 rfl hf
          · refine J_if_eqT hX 119 dX5_readAtom_112 rfl (b2iF c_27) ?_
            refine J_iconst hX 0 dX5_readAtom_119 rfl ?_
            exact E_Zi hX dX5_readAtom_120 rfl hf
      · refine J_if_eqT hX 119 dX5_readAtom_96 rfl (b2iF c_21) ?_
        refine J_iconst hX 0 dX5_readAtom_119 rfl ?_
        exact E_Zi hX dX5_readAtom_120 rfl hf
  · refine J_if_eqF hX 79 dX5_readAtom_45 rfl c_1 ?_
    refine J_aload_n hX 0 dX5_readAtom_48 rfl rfl ?_
    obtain ⟨r_28, e_29, hf⟩ := bdE hf
    refine V_0 hX [] dX5_readAtom_49 cw_X5_85 ob_2 rfl (C_X10_step (okG hX) e_29) (by rw [hdx]; omega) rfl rfl rfl rfl ?_
    refine J_aload_n hX 0 dX5_readAtom_52 rfl rfl ?_
    refine J_aload_n hX 1 dX5_readAtom_53 rfl rfl ?_
    refine J_iload_n hX 2 dX5_readAtom_54 rfl rfl ?_
    refine J_iconst hX 1 dX5_readAtom_55 rfl ?_
    refine J_iadd hX dX5_readAtom_56 ?_
    obtain ⟨r_30, e_31, hf⟩ := bdE hf
    refine S_1 hX [.ref 2, .ref k1, .int (x2 + 1)] dX5_readAtom_57 cw_X5_72 (hrec k1 hk1 (x2 + 1) r_28 _ e_31) (by rw [hdx]; omega) rfl rfl rfl rfl ?_
    rcases ifE hf with ⟨c_32, hf⟩ | ⟨c_32, hf⟩
    · refine J_if_eqF hX 77 dX5_readAtom_60 rfl (b2iT c_32) ?_
      refine J_aload_n hX 1 dX5_readAtom_63 rfl rfl ?_
      refine J_bipush hX 10 dX5_readAtom_64 rfl ?_
      refine J_iconst hX 0 dX5_readAtom_66 rfl ?_
      obtain ⟨r_33, e_34, hf⟩ := bdE hf
      refine V_1 hX [.int 10, .int 0] dX5_readAtom_67 cw_X5_68 (law_ob hk1) rfl (C_X4_addStep (okG hX) hk1 e_34) (by rw [hdx]; omega) rfl rfl rfl rfl ?_
      rcases ifE hf with ⟨c_35, hf⟩ | ⟨c_35, hf⟩
      · refine J_if_eqF hX 77 dX5_readAtom_70 rfl (b2iT c_35) ?_
        refine J_iconst hX 1 dX5_readAtom_73 rfl ?_
        refine J_goto hX 78 dX5_readAtom_74 rfl ?_
        exact E_Zi hX dX5_readAtom_78 rfl hf
      · refine J_if_eqT hX 77 dX5_readAtom_70 rfl (b2iF c_35) ?_
        refine J_iconst hX 0 dX5_readAtom_77 rfl ?_
        exact E_Zi hX dX5_readAtom_78 rfl hf
    · refine J_if_eqT hX 77 dX5_readAtom_60 rfl (b2iF c_32) ?_
      refine J_iconst hX 0 dX5_readAtom_77 rfl ?_
      exact E_Zi hX dX5_readAtom_78 rfl hf
set_option maxRecDepth 100000 in
set_option maxHeartbeats 200000 in
theorem T_X5_readAtom_33 {X : CX} {D : Nat} (hX : Ok X cX5_readAtom 7 RX5 (some .boolean)) (hdx : dX X = D + 3) (hD : 11 ≤ D) (rec : Nat → Int32 → Hp → Option (Bool × Hp)) (hrec : ∀ (k1 : Nat) (hk1 : isLaw k1) (x2 : Int32) (h : Hp) (r : Bool × Hp), rec k1 x2 h = some r → Ctr X.1 D yX5_readAtom cX5_readAtom 7 (some .boolean) [.ref 2, .ref k1, .int x2] h ((.inl (some (.int (b2i r.1))), r.2))) {r : Bool × Hp} (k1 : Nat) (hk1 : isLaw k1) (x2 : Int32) (x3 : Int32) (x4 : Int32) (h : Hp) (hf : F_X5_readAtom_33 rec k1 x2 x3 x4 h = some r) : J X ((.inl (some (.int (b2i r.1))), r.2)) 33 [(0, .ref 2), (1, .ref k1), (2, .int x2), (3, .int x3), (4, .int x4)] [] h := by
  unfold F_X5_readAtom_33 at hf
  refine J_iload_n hX 2 dX5_readAtom_33 rfl rfl ?_
  refine J_bipush hX 6 dX5_readAtom_34 rfl ?_
  rcases ifE hf with ⟨c_1, hf⟩ | ⟨c_1, hf⟩
  · refine J_icmp_ltT hX 44 dX5_readAtom_36 rfl c_1 ?_
    exact T_X5_readAtom_44 hX hdx hD rec hrec k1 hk1 x2 x3 x4 h hf
  · refine J_icmp_ltF hX 44 dX5_readAtom_36 rfl c_1 ?_
    refine J_aload_n hX 0 dX5_readAtom_39 rfl rfl ?_
    obtain ⟨r_2, e_3, hf⟩ := bdE hf
    refine V_1 hX [] dX5_readAtom_40 cw_X5_33 ob_2 rfl (C_X10_fail (okG hX) e_3) (by rw [hdx]; omega) rfl rfl rfl rfl ?_
    exact E_Zi hX dX5_readAtom_43 rfl hf
set_option maxRecDepth 100000 in
set_option maxHeartbeats 200000 in
theorem T_X5_readAtom_15 {X : CX} {D : Nat} (hX : Ok X cX5_readAtom 7 RX5 (some .boolean)) (hdx : dX X = D + 3) (hD : 11 ≤ D) (rec : Nat → Int32 → Hp → Option (Bool × Hp)) (hrec : ∀ (k1 : Nat) (hk1 : isLaw k1) (x2 : Int32) (h : Hp) (r : Bool × Hp), rec k1 x2 h = some r → Ctr X.1 D yX5_readAtom cX5_readAtom 7 (some .boolean) [.ref 2, .ref k1, .int x2] h ((.inl (some (.int (b2i r.1))), r.2))) {r : Bool × Hp} (k1 : Nat) (hk1 : isLaw k1) (x2 : Int32) (t0 : Int32) (h : Hp) (hf : F_X5_readAtom_15 rec k1 x2 t0 h = some r) : J X ((.inl (some (.int (b2i r.1))), r.2)) 15 [(0, .ref 2), (1, .ref k1), (2, .int x2)] [.int t0] h := by
  unfold F_X5_readAtom_15 at hf
  refine J_istore_n hX [(3, .int t0), (0, .ref 2), (1, .ref k1), (2, .int x2)] dX5_readAtom_15 rfl rfl rfl ?_
  refine J_aload_n hX 1 dX5_readAtom_16 rfl rfl ?_
  refine J_bipush hX 40 dX5_readAtom_17 rfl ?_
  refine V_1 hX [.int 40] dX5_readAtom_19 cw_X5_82 ob_2 rfl (C_X10_isSign (okG hX) rfl) (by rw [hdx]; omega) rfl rfl rfl rfl ?_
  obtain ⟨x4_1, e_2, hf⟩ := bndE hf
  refine J_nm e_2 ?_
  refine J_istore hX [(4, .int x4_1), (3, .int t0), (0, .ref 2), (1, .ref k1), (2, .int x2)] dX5_readAtom_22 rfl rfl ?_
  refine J_iload_n hX 1 dX5_readAtom_24 rfl rfl ?_
  rcases ifE hf with ⟨c_3, hf⟩ | ⟨c_3, hf⟩
  · refine J_if_neF hX 33 dX5_readAtom_25 rfl c_3 ?_
    refine J_iload hX 0 dX5_readAtom_28 rfl ?_
    rcases ifE hf with ⟨c_4, hf⟩ | ⟨c_4, hf⟩
    · refine J_if_eqT hX 44 dX5_readAtom_30 rfl c_4 ?_
      refine J_sub [2, 3, 4, 1, 0] [(0, .ref 2), (1, .ref k1), (2, .int x2), (3, .int t0), (4, .int x4_1)] rfl ?_
      exact T_X5_readAtom_44 hX hdx hD rec hrec k1 hk1 x2 t0 x4_1 h hf
    · refine J_if_eqF hX 44 dX5_readAtom_30 rfl c_4 ?_
      refine J_sub [2, 3, 4, 1, 0] [(0, .ref 2), (1, .ref k1), (2, .int x2), (3, .int t0), (4, .int x4_1)] rfl ?_
      exact T_X5_readAtom_33 hX hdx hD rec hrec k1 hk1 x2 t0 x4_1 h hf
  · refine J_if_neT hX 33 dX5_readAtom_25 rfl c_3 ?_
    refine J_sub [2, 3, 4, 1, 0] [(0, .ref 2), (1, .ref k1), (2, .int x2), (3, .int t0), (4, .int x4_1)] rfl ?_
    exact T_X5_readAtom_33 hX hdx hD rec hrec k1 hk1 x2 t0 x4_1 h hf
set_option maxRecDepth 100000 in
set_option maxHeartbeats 200000 in
theorem T_X5_readAtom_0 {X : CX} {D : Nat} (hX : Ok X cX5_readAtom 7 RX5 (some .boolean)) (hdx : dX X = D + 3) (hD : 11 ≤ D) (rec : Nat → Int32 → Hp → Option (Bool × Hp)) (hrec : ∀ (k1 : Nat) (hk1 : isLaw k1) (x2 : Int32) (h : Hp) (r : Bool × Hp), rec k1 x2 h = some r → Ctr X.1 D yX5_readAtom cX5_readAtom 7 (some .boolean) [.ref 2, .ref k1, .int x2] h ((.inl (some (.int (b2i r.1))), r.2))) {r : Bool × Hp} (k1 : Nat) (hk1 : isLaw k1) (x2 : Int32) (h : Hp) (hf : b_X5_readAtom rec k1 x2 h = some r) : J X ((.inl (some (.int (b2i r.1))), r.2)) 0 [(0, .ref 2), (1, .ref k1), (2, .int x2)] [] h := by
  unfold b_X5_readAtom at hf
  refine J_aload_n hX 0 dX5_readAtom_0 rfl rfl ?_
  refine J_ldcS hX 1011 dX5_readAtom_1 rfl rfl ?_
  obtain ⟨r_1, e_2, hf⟩ := bdE hf
  refine V_1 hX [.ref 1011] dX5_readAtom_3 cw_X5_79 ob_2 rfl (C_X10_wordOf (okG hX) (isStr_of (by decide)) e_2) (by rw [hdx]; omega) rfl rfl rfl rfl ?_
  refine J_iconst hX (-1) dX5_readAtom_6 rfl ?_
  rcases ifE hf with ⟨c_3, hf⟩ | ⟨c_3, hf⟩
  · refine J_icmp_eqT hX 14 dX5_readAtom_7 rfl c_3 ?_
    refine J_iconst hX 0 dX5_readAtom_14 rfl ?_
    exact T_X5_readAtom_15 hX hdx hD rec hrec k1 hk1 x2 0 h hf
  · refine J_icmp_eqF hX 14 dX5_readAtom_7 rfl c_3 ?_
    refine J_iconst hX 1 dX5_readAtom_10 rfl ?_
    refine J_goto hX 15 dX5_readAtom_11 rfl ?_
    exact T_X5_readAtom_15 hX hdx hD rec hrec k1 hk1 x2 1 h hf
set_option maxRecDepth 100000 in
set_option maxHeartbeats 200000 in
theorem C_X5_readAtom {G : GX} (hG : GOk G) : ∀ (n : Nat) (k1 : Nat) (hk1 : isLaw k1) (x2 : Int32) (h : Hp) (r : Bool × Hp), f_X5_readAtom n k1 x2 h = some r → Ctr G (11 + 3 * n) yX5_readAtom cX5_readAtom 7 (some .boolean) [.ref 2, .ref k1, .int x2] h ((.inl (some (.int (b2i r.1))), r.2)) := by
  intro n
  induction n with
  | zero => intro k1 hk1 x2 h r hf; exact nomatch hf
  | succ n ih =>
    intro k1 hk1 x2 h r hf
    exact Ctr_of hG RX5 rfl (by decide) rfl (fun X hX1 hdx hX => T_X5_readAtom_0 (D := 11 + 3 * n) hX hdx (by omega) (f_X5_readAtom n) (by rw [hX1]; exact ih) k1 hk1 x2 h hf)
theorem dX5_readLine_0 : decode cX5_readLine 0 = .ok (.aload_n 0, 1) := by decide +kernel
theorem dX5_readLine_1 : decode cX5_readLine 1 = .ok (.ldc 36, 2) := by decide +kernel
theorem dX5_readLine_3 : decode cX5_readLine 3 = .ok (.invokevirtual 38, 3) := by decide +kernel
theorem dX5_readLine_6 : decode cX5_readLine 6 = .ok (.istore_n 2, 1) := by decide +kernel
theorem dX5_readLine_7 : decode cX5_readLine 7 = .ok (.iload_n 2, 1) := by decide +kernel
theorem dX5_readLine_8 : decode cX5_readLine 8 = .ok (.iconst (-1), 1) := by decide +kernel
theorem dX5_readLine_9 : decode cX5_readLine 9 = .ok (.if_icmp .ne 8, 3) := by decide +kernel
theorem dX5_readLine_12 : decode cX5_readLine 12 = .ok (.aload_n 0, 1) := by decide +kernel
theorem dX5_readLine_13 : decode cX5_readLine 13 = .ok (.invokevirtual 33, 3) := by decide +kernel
theorem dX5_readLine_16 : decode cX5_readLine 16 = .ok (.ireturn, 1) := by decide +kernel
theorem dX5_readLine_17 : decode cX5_readLine 17 = .ok (.aload_n 0, 1) := by decide +kernel
theorem dX5_readLine_18 : decode cX5_readLine 18 = .ok (.iconst 0, 1) := by decide +kernel
theorem dX5_readLine_19 : decode cX5_readLine 19 = .ok (.bipush 99, 2) := by decide +kernel
theorem dX5_readLine_21 : decode cX5_readLine 21 = .ok (.invokevirtual 42, 3) := by decide +kernel
theorem dX5_readLine_24 : decode cX5_readLine 24 = .ok (.istore_n 3, 1) := by decide +kernel
theorem dX5_readLine_25 : decode cX5_readLine 25 = .ok (.iload_n 3, 1) := by decide +kernel
theorem dX5_readLine_26 : decode cX5_readLine 26 = .ok (.iconst (-1), 1) := by decide +kernel
theorem dX5_readLine_27 : decode cX5_readLine 27 = .ok (.if_icmp .ne 5, 3) := by decide +kernel
theorem dX5_readLine_30 : decode cX5_readLine 30 = .ok (.iconst 0, 1) := by decide +kernel
theorem dX5_readLine_31 : decode cX5_readLine 31 = .ok (.ireturn, 1) := by decide +kernel
theorem dX5_readLine_32 : decode cX5_readLine 32 = .ok (.aload_n 1, 1) := by decide +kernel
theorem dX5_readLine_33 : decode cX5_readLine 33 = .ok (.iload_n 2, 1) := by decide +kernel
theorem dX5_readLine_34 : decode cX5_readLine 34 = .ok (.iload_n 3, 1) := by decide +kernel
theorem dX5_readLine_35 : decode cX5_readLine 35 = .ok (.invokevirtual 46, 3) := by decide +kernel
theorem dX5_readLine_38 : decode cX5_readLine 38 = .ok (.aload_n 0, 1) := by decide +kernel
theorem dX5_readLine_39 : decode cX5_readLine 39 = .ok (.ldc 50, 2) := by decide +kernel
theorem dX5_readLine_41 : decode cX5_readLine 41 = .ok (.invokevirtual 52, 3) := by decide +kernel
theorem dX5_readLine_44 : decode cX5_readLine 44 = .ok (.ifCond .eq 14, 3) := by decide +kernel
theorem dX5_readLine_47 : decode cX5_readLine 47 = .ok (.aload_n 0, 1) := by decide +kernel
theorem dX5_readLine_48 : decode cX5_readLine 48 = .ok (.aload_n 1, 1) := by decide +kernel
theorem dX5_readLine_49 : decode cX5_readLine 49 = .ok (.iconst 0, 1) := by decide +kernel
theorem dX5_readLine_50 : decode cX5_readLine 50 = .ok (.invokestatic 56, 3) := by decide +kernel
theorem dX5_readLine_53 : decode cX5_readLine 53 = .ok (.ifCond .ne 5, 3) := by decide +kernel
theorem dX5_readLine_56 : decode cX5_readLine 56 = .ok (.iconst 0, 1) := by decide +kernel
theorem dX5_readLine_57 : decode cX5_readLine 57 = .ok (.ireturn, 1) := by decide +kernel
theorem dX5_readLine_58 : decode cX5_readLine 58 = .ok (.aload_n 1, 1) := by decide +kernel
theorem dX5_readLine_59 : decode cX5_readLine 59 = .ok (.invokevirtual 60, 3) := by decide +kernel
theorem dX5_readLine_62 : decode cX5_readLine 62 = .ok (.iconst 1, 1) := by decide +kernel
theorem dX5_readLine_63 : decode cX5_readLine 63 = .ok (.ireturn, 1) := by decide +kernel
set_option maxRecDepth 100000 in
set_option maxHeartbeats 200000 in
theorem T_X5_readLine_58 {X : CX} (hX : Ok X cX5_readLine 4 RX5 (some .boolean)) (hdx : dX X = 44) {r : Bool × Hp} (k1 : Nat) (hk1 : isLaw k1) (h : Hp) (hf : F_X5_readLine_58 k1 h = some r) : J X ((.inl (some (.int (b2i r.1))), r.2)) 58 [(1, .ref k1)] [] h := by
  unfold F_X5_readLine_58 at hf
  refine J_aload_n hX 0 dX5_readLine_58 rfl rfl ?_
  obtain ⟨r_1, e_2, hf⟩ := bdE hf
  refine V_0 hX [] dX5_readLine_59 cw_X5_60 (law_ob hk1) rfl (C_X4_closeLine (okG hX) hk1 e_2) (ltD hdx rfl) rfl rfl rfl rfl ?_
  refine J_iconst hX 1 dX5_readLine_62 rfl ?_
  exact E_Zi hX dX5_readLine_63 rfl hf
set_option maxRecDepth 100000 in
set_option maxHeartbeats 200000 in
theorem T_X5_readLine_0 {X : CX} (hX : Ok X cX5_readLine 4 RX5 (some .boolean)) (hdx : dX X = 44) {r : Bool × Hp} (k1 : Nat) (hk1 : isLaw k1) (h : Hp) (hf : f_X5_readLine k1 h = some r) : J X ((.inl (some (.int (b2i r.1))), r.2)) 0 [(0, .ref 2), (1, .ref k1)] [] h := by
  unfold f_X5_readLine at hf
  refine J_aload_n hX 0 dX5_readLine_0 rfl rfl ?_
  refine J_ldcS hX 1009 dX5_readLine_1 rfl rfl ?_
  obtain ⟨r_1, e_2, hf⟩ := bdE hf
  refine V_1 hX [.ref 1009] dX5_readLine_3 cw_X5_38 ob_2 rfl (C_X10_take (okG hX) (isStr_of (by decide)) e_2) (ltD hdx rfl) rfl rfl rfl rfl ?_
  refine J_istore_n hX [(2, .int r_1.1), (0, .ref 2), (1, .ref k1)] dX5_readLine_6 rfl rfl rfl ?_
  refine J_iload_n hX 0 dX5_readLine_7 rfl rfl ?_
  refine J_iconst hX (-1) dX5_readLine_8 rfl ?_
  rcases ifE hf with ⟨c_3, hf⟩ | ⟨c_3, hf⟩
  · refine J_icmp_neF hX 17 dX5_readLine_9 rfl c_3 ?_
    refine J_aload_n hX 1 dX5_readLine_12 rfl rfl ?_
    obtain ⟨r_4, e_5, hf⟩ := bdE hf
    refine V_1 hX [] dX5_readLine_13 cw_X5_33 ob_2 rfl (C_X10_fail (okG hX) e_5) (ltD hdx rfl) rfl rfl rfl rfl ?_
    exact E_Zi hX dX5_readLine_16 rfl hf
  · refine J_icmp_neT hX 17 dX5_readLine_9 rfl c_3 ?_
    refine J_aload_n hX 1 dX5_readLine_17 rfl rfl ?_
    refine J_iconst hX 0 dX5_readLine_18 rfl ?_
    refine J_bipush hX 99 dX5_readLine_19 rfl ?_
    obtain ⟨r_6, e_7, hf⟩ := bdE hf
    refine V_1 hX [.int 0, .int 99] dX5_readLine_21 cw_X5_42 ob_2 rfl (C_X10_takeNumber (okG hX) e_7) (ltD hdx rfl) rfl rfl rfl rfl ?_
    refine J_istore_n hX [(3, .int r_6.1), (2, .int r_1.1), (0, .ref 2), (1, .ref k1)] dX5_readLine_24 rfl rfl rfl ?_
    refine J_iload_n hX 0 dX5_readLine_25 rfl rfl ?_
    refine J_iconst hX (-1) dX5_readLine_26 rfl ?_
    rcases ifE hf with ⟨c_8, hf⟩ | ⟨c_8, hf⟩
    · refine J_icmp_neF hX 32 dX5_readLine_27 rfl c_8 ?_
      refine J_iconst hX 0 dX5_readLine_30 rfl ?_
      exact E_Zi hX dX5_readLine_31 rfl hf
    · refine J_icmp_neT hX 32 dX5_readLine_27 rfl c_8 ?_
      refine J_aload_n hX 3 dX5_readLine_32 rfl rfl ?_
      refine J_iload_n hX 1 dX5_readLine_33 rfl rfl ?_
      refine J_iload_n hX 0 dX5_readLine_34 rfl rfl ?_
      obtain ⟨r_9, e_10, hf⟩ := bdE hf
      refine V_0 hX [.int r_1.1, .int r_6.1] dX5_readLine_35 cw_X5_46 (law_ob hk1) rfl (C_X4_openLine (okG hX) hk1 e_10) (ltD hdx rfl) rfl rfl rfl rfl ?_
      refine J_aload_n hX 2 dX5_readLine_38 rfl rfl ?_
      refine J_ldcS hX 1010 dX5_readLine_39 rfl rfl ?_
      obtain ⟨r_11, e_12, hf⟩ := bdE hf
      refine V_1 hX [.ref 1010] dX5_readLine_41 cw_X5_52 ob_2 rfl (C_X10_takes (okG hX) (isStr_of (by decide)) e_12) (ltD hdx rfl) rfl rfl rfl rfl ?_
      rcases ifE hf with ⟨c_13, hf⟩ | ⟨c_13, hf⟩
      · refine J_if_eqF hX 58 dX5_readLine_44 rfl (b2iT c_13) ?_
        refine J_aload_n hX 2 dX5_readLine_47 rfl rfl ?_
        refine J_aload_n hX 3 dX5_readLine_48 rfl rfl ?_
        refine J_iconst hX 0 dX5_readLine_49 rfl ?_
        obtain ⟨r_14, e_15, hf⟩ := bdE hf
        refine S_1 hX [.ref 2, .ref k1, .int 0] dX5_readLine_50 cw_X5_56 (C_X5_readChoice (okG hX) (D := 41) (by decide) (f_X5_readAtom 10) (C_X5_readAtom (okG hX) 10) hk1 e_15) (ltD hdx rfl) rfl rfl rfl rfl ?_
        rcases ifE hf with ⟨c_16, hf⟩ | ⟨c_16, hf⟩
        · refine J_if_neT hX 58 dX5_readLine_53 rfl (b2iT c_16) ?_
          refine J_sub [3] [(1, .ref k1)] rfl ?_
          exact T_X5_readLine_58 hX hdx k1 hk1 r_14.2 hf
        · refine J_if_neF hX 58 dX5_readLine_53 rfl (b2iF c_16) ?_
          refine J_iconst hX 0 dX5_readLine_56 rfl ?_
          exact E_Zi hX dX5_readLine_57 rfl hf
      · refine J_if_eqT hX 58 dX5_readLine_44 rfl (b2iF c_13) ?_
        refine J_sub [3] [(1, .ref k1)] rfl ?_
        exact T_X5_readLine_58 hX hdx k1 hk1 r_11.2 hf
set_option maxRecDepth 100000 in
set_option maxHeartbeats 200000 in
theorem C_X5_readLine {G : GX} (hG : GOk G) {k1 : Nat} {h : Hp} {r : Bool × Hp} (hk1 : isLaw k1) (hf : f_X5_readLine k1 h = some r) : Ctr G 44 yX5_readLine cX5_readLine 4 (some .boolean) [.ref 2, .ref k1] h ((.inl (some (.int (b2i r.1))), r.2)) :=
  Ctr_of hG RX5 rfl (by decide) rfl (fun X _ hdx hX => T_X5_readLine_0 hX hdx k1 hk1 h hf)
theorem dX5_read_0 : decode cX5_read 0 = .ok (.aload_n 0, 1) := by decide +kernel
theorem dX5_read_1 : decode cX5_read 1 = .ok (.invokevirtual 9, 3) := by decide +kernel
theorem dX5_read_4 : decode cX5_read 4 = .ok (.aload_n 1, 1) := by decide +kernel
theorem dX5_read_5 : decode cX5_read 5 = .ok (.invokevirtual 14, 3) := by decide +kernel
theorem dX5_read_8 : decode cX5_read 8 = .ok (.aload_n 0, 1) := by decide +kernel
theorem dX5_read_9 : decode cX5_read 9 = .ok (.invokevirtual 19, 3) := by decide +kernel
theorem dX5_read_12 : decode cX5_read 12 = .ok (.ifCond .eq 5, 3) := by decide +kernel
theorem dX5_read_15 : decode cX5_read 15 = .ok (.iconst 1, 1) := by decide +kernel
theorem dX5_read_16 : decode cX5_read 16 = .ok (.ireturn, 1) := by decide +kernel
theorem dX5_read_17 : decode cX5_read 17 = .ok (.iconst 0, 1) := by decide +kernel
theorem dX5_read_18 : decode cX5_read 18 = .ok (.istore_n 2, 1) := by decide +kernel
theorem dX5_read_19 : decode cX5_read 19 = .ok (.iload_n 2, 1) := by decide +kernel
theorem dX5_read_20 : decode cX5_read 20 = .ok (.bipush 12, 2) := by decide +kernel
theorem dX5_read_22 : decode cX5_read 22 = .ok (.if_icmp .ge 42, 3) := by decide +kernel
theorem dX5_read_25 : decode cX5_read 25 = .ok (.aload_n 0, 1) := by decide +kernel
theorem dX5_read_26 : decode cX5_read 26 = .ok (.aload_n 1, 1) := by decide +kernel
theorem dX5_read_27 : decode cX5_read 27 = .ok (.invokestatic 23, 3) := by decide +kernel
theorem dX5_read_30 : decode cX5_read 30 = .ok (.ifCond .ne 5, 3) := by decide +kernel
theorem dX5_read_33 : decode cX5_read 33 = .ok (.iconst 0, 1) := by decide +kernel
theorem dX5_read_34 : decode cX5_read 34 = .ok (.ireturn, 1) := by decide +kernel
theorem dX5_read_35 : decode cX5_read 35 = .ok (.aload_n 0, 1) := by decide +kernel
theorem dX5_read_36 : decode cX5_read 36 = .ok (.invokevirtual 19, 3) := by decide +kernel
theorem dX5_read_39 : decode cX5_read 39 = .ok (.ifCond .eq 5, 3) := by decide +kernel
theorem dX5_read_42 : decode cX5_read 42 = .ok (.iconst 1, 1) := by decide +kernel
theorem dX5_read_43 : decode cX5_read 43 = .ok (.ireturn, 1) := by decide +kernel
theorem dX5_read_44 : decode cX5_read 44 = .ok (.aload_n 0, 1) := by decide +kernel
theorem dX5_read_45 : decode cX5_read 45 = .ok (.bipush 59, 2) := by decide +kernel
theorem dX5_read_47 : decode cX5_read 47 = .ok (.invokevirtual 29, 3) := by decide +kernel
theorem dX5_read_50 : decode cX5_read 50 = .ok (.ifCond .ne 8, 3) := by decide +kernel
theorem dX5_read_53 : decode cX5_read 53 = .ok (.aload_n 0, 1) := by decide +kernel
theorem dX5_read_54 : decode cX5_read 54 = .ok (.invokevirtual 33, 3) := by decide +kernel
theorem dX5_read_57 : decode cX5_read 57 = .ok (.ireturn, 1) := by decide +kernel
theorem dX5_read_58 : decode cX5_read 58 = .ok (.iinc 2 1, 3) := by decide +kernel
theorem dX5_read_61 : decode cX5_read 61 = .ok (.goto (-42), 3) := by decide +kernel
theorem dX5_read_64 : decode cX5_read 64 = .ok (.aload_n 0, 1) := by decide +kernel
theorem dX5_read_65 : decode cX5_read 65 = .ok (.invokevirtual 33, 3) := by decide +kernel
theorem dX5_read_68 : decode cX5_read 68 = .ok (.ireturn, 1) := by decide +kernel
set_option maxRecDepth 100000 in
set_option maxHeartbeats 200000 in
theorem T_X5_read_19_s {X : CX} (hX : Ok X cX5_read 3 RX5 (some .boolean)) (hdx : dX X = 45) {r : Bool × Hp} (k1 : Nat) (hk1 : isLaw k1) (q_19 : Int32 → Hp → Option (Bool × Hp)) (hq_19 : ∀ (x2 : Int32) (h : Hp), q_19 x2 h = some r → J X ((.inl (some (.int (b2i r.1))), r.2)) 19 [(0, .ref 2), (1, .ref k1), (2, .int x2)] [] h) (x2 : Int32) (h : Hp) (hf : S_X5_read_19 k1 q_19 x2 h = some r) : J X ((.inl (some (.int (b2i r.1))), r.2)) 19 [(0, .ref 2), (1, .ref k1), (2, .int x2)] [] h := by
  unfold S_X5_read_19 at hf
  refine J_iload_n hX 2 dX5_read_19 rfl rfl ?_
  refine J_bipush hX 12 dX5_read_20 rfl ?_
  rcases ifE hf with ⟨c_1, hf⟩ | ⟨c_1, hf⟩
  · refine J_icmp_geF hX 64 dX5_read_22 rfl c_1 ?_
    refine J_aload_n hX 0 dX5_read_25 rfl rfl ?_
    refine J_aload_n hX 1 dX5_read_26 rfl rfl ?_
    obtain ⟨r_2, e_3, hf⟩ := bdE hf
    refine S_1 hX [.ref 2, .ref k1] dX5_read_27 cw_X5_23 (C_X5_readLine (okG hX) hk1 e_3) (ltD hdx rfl) rfl rfl rfl rfl ?_
    rcases ifE hf with ⟨c_4, hf⟩ | ⟨c_4, hf⟩
    · refine J_if_neT hX 35 dX5_read_30 rfl (b2iT c_4) ?_
      refine J_aload_n hX 0 dX5_read_35 rfl rfl ?_
      refine V_1 hX [] dX5_read_36 cw_X5_19 ob_2 rfl (C_X10_isDone (okG hX) rfl) (ltD hdx rfl) rfl rfl rfl rfl ?_
      rcases ifE hf with ⟨c_5, hf⟩ | ⟨c_5, hf⟩
      · refine J_if_eqF hX 44 dX5_read_39 rfl (b2iT c_5) ?_
        refine J_iconst hX 1 dX5_read_42 rfl ?_
        exact E_Zi hX dX5_read_43 rfl hf
      · refine J_if_eqT hX 44 dX5_read_39 rfl (b2iF c_5) ?_
        refine J_aload_n hX 0 dX5_read_44 rfl rfl ?_
        refine J_bipush hX 59 dX5_read_45 rfl ?_
        obtain ⟨r_6, e_7, hf⟩ := bdE hf
        refine V_1 hX [.int 59] dX5_read_47 cw_X5_29 ob_2 rfl (C_X10_takesSign (okG hX) e_7) (ltD hdx rfl) rfl rfl rfl rfl ?_
        rcases ifE hf with ⟨c_8, hf⟩ | ⟨c_8, hf⟩
        · refine J_if_neT hX 58 dX5_read_50 rfl (b2iT c_8) ?_
          refine J_iinc hX (x2 + 1) 2 [(2, .int (x2 + 1)), (0, .ref 2), (1, .ref k1)] dX5_read_58 rfl rfl rfl rfl ?_
          refine J_goto hX 19 dX5_read_61 rfl ?_
          refine J_sub [1, 2, 0] [(0, .ref 2), (1, .ref k1), (2, .int (x2 + 1))] rfl ?_
          exact hq_19 (x2 + 1) r_6.2 hf
        · refine J_if_neF hX 58 dX5_read_50 rfl (b2iF c_8) ?_
          refine J_aload_n hX 0 dX5_read_53 rfl rfl ?_
          obtain ⟨r_9, e_10, hf⟩ := bdE hf
          refine V_1 hX [] dX5_read_54 cw_X5_33 ob_2 rfl (C_X10_fail (okG hX) e_10) (ltD hdx rfl) rfl rfl rfl rfl ?_
          exact E_Zi hX dX5_read_57 rfl hf
    · refine J_if_neF hX 35 dX5_read_30 rfl (b2iF c_4) ?_
      refine J_iconst hX 0 dX5_read_33 rfl ?_
      exact E_Zi hX dX5_read_34 rfl hf
  · refine J_icmp_geT hX 64 dX5_read_22 rfl c_1 ?_
    refine J_aload_n hX 0 dX5_read_64 rfl rfl ?_
    obtain ⟨r_11, e_12, hf⟩ := bdE hf
    refine V_1 hX [] dX5_read_65 cw_X5_33 ob_2 rfl (C_X10_fail (okG hX) e_12) (ltD hdx rfl) rfl rfl rfl rfl ?_
    exact E_Zi hX dX5_read_68 rfl hf
set_option maxRecDepth 100000 in
set_option maxHeartbeats 200000 in
theorem T_X5_read_19 {X : CX} (hX : Ok X cX5_read 3 RX5 (some .boolean)) (hdx : dX X = 45) {r : Bool × Hp} (k1 : Nat) (hk1 : isLaw k1) : ∀ (n : Nat) (x2 : Int32) (h : Hp), F_X5_read_19 k1 n x2 h = some r → J X ((.inl (some (.int (b2i r.1))), r.2)) 19 [(0, .ref 2), (1, .ref k1), (2, .int x2)] [] h := by
  intro n
  induction n with
  | zero => intro x2 h hf; exact nomatch hf
  | succ n ih => intro x2 h hf; exact T_X5_read_19_s hX hdx k1 hk1 _ (fun x2 h hf => ih x2 h hf) x2 h hf
set_option maxRecDepth 100000 in
set_option maxHeartbeats 200000 in
theorem T_X5_read_0 {X : CX} (hX : Ok X cX5_read 3 RX5 (some .boolean)) (hdx : dX X = 45) {r : Bool × Hp} (k1 : Nat) (hk1 : isLaw k1) (h : Hp) (hf : f_X5_read k1 h = some r) : J X ((.inl (some (.int (b2i r.1))), r.2)) 0 [(0, .ref 2), (1, .ref k1)] [] h := by
  unfold f_X5_read at hf
  refine J_aload_n hX 0 dX5_read_0 rfl rfl ?_
  obtain ⟨r_1, e_2, hf⟩ := bdE hf
  refine V_0 hX [] dX5_read_1 cw_X5_9 ob_2 rfl (C_X10_open (okG hX) e_2) (ltD hdx rfl) rfl rfl rfl rfl ?_
  refine J_aload_n hX 1 dX5_read_4 rfl rfl ?_
  obtain ⟨r_3, e_4, hf⟩ := bdE hf
  refine V_0 hX [] dX5_read_5 cw_X5_14 (law_ob hk1) rfl (C_X4_clear (okG hX) hk1 e_4) (ltD hdx rfl) rfl rfl rfl rfl ?_
  refine J_aload_n hX 0 dX5_read_8 rfl rfl ?_
  refine V_1 hX [] dX5_read_9 cw_X5_19 ob_2 rfl (C_X10_isDone (okG hX) rfl) (ltD hdx rfl) rfl rfl rfl rfl ?_
  rcases ifE hf with ⟨c_5, hf⟩ | ⟨c_5, hf⟩
  · refine J_if_eqF hX 17 dX5_read_12 rfl (b2iT c_5) ?_
    refine J_iconst hX 1 dX5_read_15 rfl ?_
    exact E_Zi hX dX5_read_16 rfl hf
  · refine J_if_eqT hX 17 dX5_read_12 rfl (b2iF c_5) ?_
    refine J_iconst hX 0 dX5_read_17 rfl ?_
    refine J_istore_n hX [(2, .int 0), (0, .ref 2), (1, .ref k1)] dX5_read_18 rfl rfl rfl ?_
    refine J_sub [1, 2, 0] [(0, .ref 2), (1, .ref k1), (2, .int 0)] rfl ?_
    exact T_X5_read_19 hX hdx k1 hk1 FU 0 r_3 hf
set_option maxRecDepth 100000 in
set_option maxHeartbeats 200000 in
theorem C_X5_read {G : GX} (hG : GOk G) {k1 : Nat} {h : Hp} {r : Bool × Hp} (hk1 : isLaw k1) (hf : f_X5_read k1 h = some r) : Ctr G 45 yX5_read cX5_read 3 (some .boolean) [.ref 2, .ref k1] h ((.inl (some (.int (b2i r.1))), r.2)) :=
  Ctr_of hG RX5 rfl (by decide) rfl (fun X _ hdx hX => T_X5_read_0 hX hdx k1 hk1 h hf)
theorem dX6_cell_0 : decode cX6_cell 0 = .ok (.iload_n 1, 1) := by decide +kernel
theorem dX6_cell_1 : decode cX6_cell 1 = .ok (.ifCond .lt 21, 3) := by decide +kernel
theorem dX6_cell_4 : decode cX6_cell 4 = .ok (.iload_n 1, 1) := by decide +kernel
theorem dX6_cell_5 : decode cX6_cell 5 = .ok (.aload_n 0, 1) := by decide +kernel
theorem dX6_cell_6 : decode cX6_cell 6 = .ok (.getfield 15, 3) := by decide +kernel
theorem dX6_cell_9 : decode cX6_cell 9 = .ok (.if_icmp .ge 13, 3) := by decide +kernel
theorem dX6_cell_12 : decode cX6_cell 12 = .ok (.iload_n 2, 1) := by decide +kernel
theorem dX6_cell_13 : decode cX6_cell 13 = .ok (.ifCond .lt 9, 3) := by decide +kernel
theorem dX6_cell_16 : decode cX6_cell 16 = .ok (.iload_n 2, 1) := by decide +kernel
theorem dX6_cell_17 : decode cX6_cell 17 = .ok (.bipush 6, 2) := by decide +kernel
theorem dX6_cell_19 : decode cX6_cell 19 = .ok (.if_icmp .lt 5, 3) := by decide +kernel
theorem dX6_cell_22 : decode cX6_cell 22 = .ok (.iconst (-1), 1) := by decide +kernel
theorem dX6_cell_23 : decode cX6_cell 23 = .ok (.ireturn, 1) := by decide +kernel
theorem dX6_cell_24 : decode cX6_cell 24 = .ok (.aload_n 0, 1) := by decide +kernel
theorem dX6_cell_25 : decode cX6_cell 25 = .ok (.getfield 15, 3) := by decide +kernel
theorem dX6_cell_28 : decode cX6_cell 28 = .ok (.iconst 1, 1) := by decide +kernel
theorem dX6_cell_29 : decode cX6_cell 29 = .ok (.isub, 1) := by decide +kernel
theorem dX6_cell_30 : decode cX6_cell 30 = .ok (.iload_n 1, 1) := by decide +kernel
theorem dX6_cell_31 : decode cX6_cell 31 = .ok (.isub, 1) := by decide +kernel
theorem dX6_cell_32 : decode cX6_cell 32 = .ok (.bipush 6, 2) := by decide +kernel
theorem dX6_cell_34 : decode cX6_cell 34 = .ok (.imul, 1) := by decide +kernel
theorem dX6_cell_35 : decode cX6_cell 35 = .ok (.iload_n 2, 1) := by decide +kernel
theorem dX6_cell_36 : decode cX6_cell 36 = .ok (.iadd, 1) := by decide +kernel
theorem dX6_cell_37 : decode cX6_cell 37 = .ok (.istore_n 3, 1) := by decide +kernel
theorem dX6_cell_38 : decode cX6_cell 38 = .ok (.iload_n 3, 1) := by decide +kernel
theorem dX6_cell_39 : decode cX6_cell 39 = .ok (.ifCond .lt 21, 3) := by decide +kernel
theorem dX6_cell_42 : decode cX6_cell 42 = .ok (.iload_n 3, 1) := by decide +kernel
theorem dX6_cell_43 : decode cX6_cell 43 = .ok (.aload_n 0, 1) := by decide +kernel
theorem dX6_cell_44 : decode cX6_cell 44 = .ok (.getfield 9, 3) := by decide +kernel
theorem dX6_cell_47 : decode cX6_cell 47 = .ok (.arraylength, 1) := by decide +kernel
theorem dX6_cell_48 : decode cX6_cell 48 = .ok (.if_icmp .ge 12, 3) := by decide +kernel
theorem dX6_cell_51 : decode cX6_cell 51 = .ok (.aload_n 0, 1) := by decide +kernel
theorem dX6_cell_52 : decode cX6_cell 52 = .ok (.getfield 9, 3) := by decide +kernel
theorem dX6_cell_55 : decode cX6_cell 55 = .ok (.iload_n 3, 1) := by decide +kernel
theorem dX6_cell_56 : decode cX6_cell 56 = .ok (.iaload, 1) := by decide +kernel
theorem dX6_cell_57 : decode cX6_cell 57 = .ok (.goto 4, 3) := by decide +kernel
theorem dX6_cell_60 : decode cX6_cell 60 = .ok (.iconst (-1), 1) := by decide +kernel
theorem dX6_cell_61 : decode cX6_cell 61 = .ok (.ireturn, 1) := by decide +kernel
set_option maxRecDepth 100000 in
set_option maxHeartbeats 200000 in
theorem T_X6_cell_0 {X : CX} (hX : Ok X cX6_cell 4 RX6 (some .int)) (hdx : dX X = 2) {r : Int32} (k0 : Nat) (hk0 : isLog k0) (x1 : Int32) (x2 : Int32) (h : Hp) (hf : f_X6_cell k0 x1 x2 h = some r) : J X ((.inl (some (.int r)), h)) 0 [(0, .ref k0), (1, .int x1), (2, .int x2)] [] h := by
  unfold f_X6_cell at hf
  refine J_iload_n hX 1 dX6_cell_0 rfl rfl ?_
  rcases ifE hf with ⟨c_1, hf⟩ | ⟨c_1, hf⟩
  · refine J_if_ltT hX 22 dX6_cell_1 rfl c_1 ?_
    refine J_iconst hX (-1) dX6_cell_22 rfl ?_
    exact E_Ip hX dX6_cell_23 hf
  · refine J_if_ltF hX 22 dX6_cell_1 rfl c_1 ?_
    refine J_iload_n hX 1 dX6_cell_4 rfl rfl ?_
    refine J_aload_n hX 0 dX6_cell_5 rfl rfl ?_
    refine J_getI hX dX6_cell_6 fl_X6_15 (log_ob hk0) rfl ?_
    rcases ifE hf with ⟨c_2, hf⟩ | ⟨c_2, hf⟩
    · refine J_icmp_geF hX 22 dX6_cell_9 rfl c_2 ?_
      refine J_iload_n hX 2 dX6_cell_12 rfl rfl ?_
      rcases ifE hf with ⟨c_3, hf⟩ | ⟨c_3, hf⟩
      · refine J_if_ltT hX 22 dX6_cell_13 rfl c_3 ?_
        refine J_iconst hX (-1) dX6_cell_22 rfl ?_
        exact E_Ip hX dX6_cell_23 hf
      · refine J_if_ltF hX 22 dX6_cell_13 rfl c_3 ?_
        refine J_iload_n hX 2 dX6_cell_16 rfl rfl ?_
        refine J_bipush hX 6 dX6_cell_17 rfl ?_
        rcases ifE hf with ⟨c_4, hf⟩ | ⟨c_4, hf⟩
        · refine J_icmp_ltT hX 24 dX6_cell_19 rfl c_4 ?_
          refine J_aload_n hX 0 dX6_cell_24 rfl rfl ?_
          refine J_getI hX dX6_cell_25 fl_X6_15 (log_ob hk0) rfl ?_
          refine J_iconst hX 1 dX6_cell_28 rfl ?_
          refine J_isub hX dX6_cell_29 ?_
          refine J_iload_n hX 1 dX6_cell_30 rfl rfl ?_
          refine J_isub hX dX6_cell_31 ?_
          refine J_bipush hX 6 dX6_cell_32 rfl ?_
          refine J_imul hX dX6_cell_34 ?_
          refine J_iload_n hX 2 dX6_cell_35 rfl rfl ?_
          refine J_iadd hX dX6_cell_36 ?_
          obtain ⟨x3_5, e_6, hf⟩ := bndE hf
          refine J_nm e_6 ?_
          refine J_istore_n hX [(3, .int x3_5), (0, .ref k0), (1, .int x1), (2, .int x2)] dX6_cell_37 rfl rfl rfl ?_
          refine J_iload_n hX 0 dX6_cell_38 rfl rfl ?_
          rcases ifE hf with ⟨c_7, hf⟩ | ⟨c_7, hf⟩
          · refine J_if_ltT hX 60 dX6_cell_39 rfl c_7 ?_
            refine J_iconst hX (-1) dX6_cell_60 rfl ?_
            exact E_Ip hX dX6_cell_61 hf
          · refine J_if_ltF hX 60 dX6_cell_39 rfl c_7 ?_
            refine J_iload_n hX 0 dX6_cell_42 rfl rfl ?_
            refine J_aload_n hX 1 dX6_cell_43 rfl rfl ?_
            refine J_getR hX (k0 + 1) dX6_cell_44 fl_X6_9 (log_ob hk0) rfl rfl ?_
            refine J_alen hX 360 dX6_cell_47 (log_ar hk0) (by decide) rfl ?_
            rcases ifE hf with ⟨c_8, hf⟩ | ⟨c_8, hf⟩
            · refine J_icmp_geF hX 60 dX6_cell_48 rfl c_8 ?_
              refine J_aload_n hX 1 dX6_cell_51 rfl rfl ?_
              refine J_getR hX (k0 + 1) dX6_cell_52 fl_X6_9 (log_ob hk0) rfl rfl ?_
              refine J_iload_n hX 0 dX6_cell_55 rfl rfl ?_
              obtain ⟨g_9, hf⟩ := gdE hf
              refine J_ald hX x3_5.toNatClampNeg dX6_cell_56 (log_ar hk0) (Or.inl ⟨rfl, rfl⟩) g_9 rfl ?_
              refine J_goto hX 61 dX6_cell_57 rfl ?_
              exact E_Ip hX dX6_cell_61 hf
            · refine J_icmp_geT hX 60 dX6_cell_48 rfl c_8 ?_
              refine J_iconst hX (-1) dX6_cell_60 rfl ?_
              exact E_Ip hX dX6_cell_61 hf
        · refine J_icmp_ltF hX 24 dX6_cell_19 rfl c_4 ?_
          refine J_iconst hX (-1) dX6_cell_22 rfl ?_
          exact E_Ip hX dX6_cell_23 hf
    · refine J_icmp_geT hX 22 dX6_cell_9 rfl c_2 ?_
      refine J_iconst hX (-1) dX6_cell_22 rfl ?_
      exact E_Ip hX dX6_cell_23 hf
set_option maxRecDepth 100000 in
set_option maxHeartbeats 200000 in
theorem C_X6_cell {G : GX} (hG : GOk G) {k0 : Nat} {x1 : Int32} {x2 : Int32} {h : Hp} {r : Int32} (hk0 : isLog k0) (hf : f_X6_cell k0 x1 x2 h = some r) : Ctr G 2 yX6_cell cX6_cell 4 (some .int) [.ref k0, .int x1, .int x2] h ((.inl (some (.int r)), h)) :=
  Ctr_of hG RX6 rfl (by decide) rfl (fun X _ hdx hX => T_X6_cell_0 hX hdx k0 hk0 x1 x2 h hf)
theorem dX7_gain_0 : decode cX7_gain 0 = .ok (.iload_n 3, 1) := by decide +kernel
theorem dX7_gain_1 : decode cX7_gain 1 = .ok (.ifCond .lt 29, 3) := by decide +kernel
theorem dX7_gain_4 : decode cX7_gain 4 = .ok (.iload_n 3, 1) := by decide +kernel
theorem dX7_gain_5 : decode cX7_gain 5 = .ok (.bipush 8, 2) := by decide +kernel
theorem dX7_gain_7 : decode cX7_gain 7 = .ok (.if_icmp .ge 23, 3) := by decide +kernel
theorem dX7_gain_10 : decode cX7_gain 10 = .ok (.aload_n 0, 1) := by decide +kernel
theorem dX7_gain_11 : decode cX7_gain 11 = .ok (.iload_n 3, 1) := by decide +kernel
theorem dX7_gain_12 : decode cX7_gain 12 = .ok (.invokevirtual 38, 3) := by decide +kernel
theorem dX7_gain_15 : decode cX7_gain 15 = .ok (.ifCond .eq 15, 3) := by decide +kernel
theorem dX7_gain_18 : decode cX7_gain 18 = .ok (.aload_n 0, 1) := by decide +kernel
theorem dX7_gain_19 : decode cX7_gain 19 = .ok (.iload_n 2, 1) := by decide +kernel
theorem dX7_gain_20 : decode cX7_gain 20 = .ok (.aload_n 0, 1) := by decide +kernel
theorem dX7_gain_21 : decode cX7_gain 21 = .ok (.getfield 44, 3) := by decide +kernel
theorem dX7_gain_24 : decode cX7_gain 24 = .ok (.invokevirtual 48, 3) := by decide +kernel
theorem dX7_gain_27 : decode cX7_gain 27 = .ok (.ifCond .ne 5, 3) := by decide +kernel
theorem dX7_gain_30 : decode cX7_gain 30 = .ok (.iconst 0, 1) := by decide +kernel
theorem dX7_gain_31 : decode cX7_gain 31 = .ok (.ireturn, 1) := by decide +kernel
theorem dX7_gain_32 : decode cX7_gain 32 = .ok (.iconst 0, 1) := by decide +kernel
theorem dX7_gain_33 : decode cX7_gain 33 = .ok (.aload_n 0, 1) := by decide +kernel
theorem dX7_gain_34 : decode cX7_gain 34 = .ok (.iload_n 2, 1) := by decide +kernel
theorem dX7_gain_35 : decode cX7_gain 35 = .ok (.invokevirtual 52, 3) := by decide +kernel
theorem dX7_gain_38 : decode cX7_gain 38 = .ok (.aload_n 1, 1) := by decide +kernel
theorem dX7_gain_39 : decode cX7_gain 39 = .ok (.getfield 55, 3) := by decide +kernel
theorem dX7_gain_42 : decode cX7_gain 42 = .ok (.iload_n 3, 1) := by decide +kernel
theorem dX7_gain_43 : decode cX7_gain 43 = .ok (.iaload, 1) := by decide +kernel
theorem dX7_gain_44 : decode cX7_gain 44 = .ok (.invokestatic 60, 3) := by decide +kernel
theorem dX7_gain_47 : decode cX7_gain 47 = .ok (.invokestatic 65, 3) := by decide +kernel
theorem dX7_gain_50 : decode cX7_gain 50 = .ok (.ireturn, 1) := by decide +kernel
set_option maxRecDepth 100000 in
set_option maxHeartbeats 200000 in
theorem T_X7_gain_0 {X : CX} (hX : Ok X cX7_gain 4 RX7 (some .int)) (hdx : dX X = 4) {r : Int32} (k0 : Nat) (hk0 : isCity k0) (x2 : Int32) (x3 : Int32) (h : Hp) (hf : f_X7_gain k0 x2 x3 h = some r) : J X ((.inl (some (.int r)), h)) 0 [(0, .ref k0), (1, .ref 5), (2, .int x2), (3, .int x3)] [] h := by
  unfold f_X7_gain at hf
  refine J_iload_n hX 3 dX7_gain_0 rfl rfl ?_
  rcases ifE hf with ⟨c_1, hf⟩ | ⟨c_1, hf⟩
  · refine J_if_ltT hX 30 dX7_gain_1 rfl c_1 ?_
    refine J_iconst hX 0 dX7_gain_30 rfl ?_
    exact E_Ip hX dX7_gain_31 hf
  · refine J_if_ltF hX 30 dX7_gain_1 rfl c_1 ?_
    refine J_iload_n hX 3 dX7_gain_4 rfl rfl ?_
    refine J_bipush hX 8 dX7_gain_5 rfl ?_
    rcases ifE hf with ⟨c_2, hf⟩ | ⟨c_2, hf⟩
    · refine J_icmp_geF hX 30 dX7_gain_7 rfl c_2 ?_
      refine J_aload_n hX 0 dX7_gain_10 rfl rfl ?_
      refine J_iload_n hX 3 dX7_gain_11 rfl rfl ?_
      refine V_1 hX [.int x3] dX7_gain_12 cw_X7_38 (city_ob hk0) rfl (C_X1_isUp (okG hX) hk0 rfl) (ltD hdx rfl) rfl rfl rfl rfl ?_
      rcases ifE hf with ⟨c_3, hf⟩ | ⟨c_3, hf⟩
      · refine J_if_eqF hX 30 dX7_gain_15 rfl (b2iT c_3) ?_
        refine J_aload_n hX 0 dX7_gain_18 rfl rfl ?_
        refine J_iload_n hX 2 dX7_gain_19 rfl rfl ?_
        refine J_aload_n hX 0 dX7_gain_20 rfl rfl ?_
        refine J_getI hX dX7_gain_21 fl_X7_44 (city_ob hk0) rfl ?_
        obtain ⟨r_4, e_5, hf⟩ := bdE hf
        refine V_1 hX [.int x2, .int (h k0 12)] dX7_gain_24 cw_X7_48 (city_ob hk0) rfl (C_X1_isThere (okG hX) hk0 e_5) (ltD hdx rfl) rfl rfl rfl rfl ?_
        rcases ifE hf with ⟨c_6, hf⟩ | ⟨c_6, hf⟩
        · refine J_if_neT hX 32 dX7_gain_27 rfl (b2iT c_6) ?_
          refine J_iconst hX 0 dX7_gain_32 rfl ?_
          refine J_aload_n hX 0 dX7_gain_33 rfl rfl ?_
          refine J_iload_n hX 2 dX7_gain_34 rfl rfl ?_
          obtain ⟨r_7, e_8, hf⟩ := bdE hf
          refine V_1 hX [.int x2] dX7_gain_35 cw_X7_52 (city_ob hk0) rfl (C_X1_holdOf (okG hX) hk0 e_8) (ltD hdx rfl) rfl rfl rfl rfl ?_
          refine J_aload_n hX 1 dX7_gain_38 rfl rfl ?_
          refine J_getR hX 9 dX7_gain_39 fl_X7_55 ob_5 rfl rfl ?_
          refine J_iload_n hX 3 dX7_gain_42 rfl rfl ?_
          obtain ⟨g_9, hf⟩ := gdE hf
          refine J_ald hX x3.toNatClampNeg dX7_gain_43 ar_9 (Or.inl ⟨rfl, rfl⟩) g_9 rfl ?_
          refine J_min hX dX7_gain_44 mw_X7_60 (ltD hdx rfl) rfl ?_
          refine J_max hX dX7_gain_47 mw_X7_65 (ltD hdx rfl) rfl ?_
          exact E_Ip hX dX7_gain_50 hf
        · refine J_if_neF hX 32 dX7_gain_27 rfl (b2iF c_6) ?_
          refine J_iconst hX 0 dX7_gain_30 rfl ?_
          exact E_Ip hX dX7_gain_31 hf
      · refine J_if_eqT hX 30 dX7_gain_15 rfl (b2iF c_3) ?_
        refine J_iconst hX 0 dX7_gain_30 rfl ?_
        exact E_Ip hX dX7_gain_31 hf
    · refine J_icmp_geT hX 30 dX7_gain_7 rfl c_2 ?_
      refine J_iconst hX 0 dX7_gain_30 rfl ?_
      exact E_Ip hX dX7_gain_31 hf
set_option maxRecDepth 100000 in
set_option maxHeartbeats 200000 in
theorem C_X7_gain {G : GX} (hG : GOk G) {k0 : Nat} {x2 : Int32} {x3 : Int32} {h : Hp} {r : Int32} (hk0 : isCity k0) (hf : f_X7_gain k0 x2 x3 h = some r) : Ctr G 4 yX7_gain cX7_gain 4 (some .int) [.ref k0, .ref 5, .int x2, .int x3] h ((.inl (some (.int r)), h)) :=
  Ctr_of hG RX7 rfl (by decide) rfl (fun X _ hdx hX => T_X7_gain_0 hX hdx k0 hk0 x2 x3 h hf)
theorem dX7_rest_0 : decode cX7_rest 0 = .ok (.iload_n 1, 1) := by decide +kernel
theorem dX7_rest_1 : decode cX7_rest 1 = .ok (.sipush 256, 3) := by decide +kernel
theorem dX7_rest_4 : decode cX7_rest 4 = .ok (.imul, 1) := by decide +kernel
theorem dX7_rest_5 : decode cX7_rest 5 = .ok (.iload_n 2, 1) := by decide +kernel
theorem dX7_rest_6 : decode cX7_rest 6 = .ok (.iadd, 1) := by decide +kernel
theorem dX7_rest_7 : decode cX7_rest 7 = .ok (.istore_n 3, 1) := by decide +kernel
theorem dX7_rest_8 : decode cX7_rest 8 = .ok (.iload_n 3, 1) := by decide +kernel
theorem dX7_rest_9 : decode cX7_rest 9 = .ok (.ifCond .lt 21, 3) := by decide +kernel
theorem dX7_rest_12 : decode cX7_rest 12 = .ok (.iload_n 3, 1) := by decide +kernel
theorem dX7_rest_13 : decode cX7_rest 13 = .ok (.aload_n 0, 1) := by decide +kernel
theorem dX7_rest_14 : decode cX7_rest 14 = .ok (.getfield 11, 3) := by decide +kernel
theorem dX7_rest_17 : decode cX7_rest 17 = .ok (.arraylength, 1) := by decide +kernel
theorem dX7_rest_18 : decode cX7_rest 18 = .ok (.if_icmp .ge 12, 3) := by decide +kernel
theorem dX7_rest_21 : decode cX7_rest 21 = .ok (.aload_n 0, 1) := by decide +kernel
theorem dX7_rest_22 : decode cX7_rest 22 = .ok (.getfield 11, 3) := by decide +kernel
theorem dX7_rest_25 : decode cX7_rest 25 = .ok (.iload_n 3, 1) := by decide +kernel
theorem dX7_rest_26 : decode cX7_rest 26 = .ok (.iaload, 1) := by decide +kernel
theorem dX7_rest_27 : decode cX7_rest 27 = .ok (.goto 4, 3) := by decide +kernel
theorem dX7_rest_30 : decode cX7_rest 30 = .ok (.iconst 0, 1) := by decide +kernel
theorem dX7_rest_31 : decode cX7_rest 31 = .ok (.ireturn, 1) := by decide +kernel
set_option maxRecDepth 100000 in
set_option maxHeartbeats 200000 in
theorem T_X7_rest_0 {X : CX} (hX : Ok X cX7_rest 4 RX7 (some .int)) (hdx : dX X = 2) {r : Int32} (x1 : Int32) (x2 : Int32) (h : Hp) (hf : f_X7_rest x1 x2 h = some r) : J X ((.inl (some (.int r)), h)) 0 [(0, .ref 19), (1, .int x1), (2, .int x2)] [] h := by
  unfold f_X7_rest at hf
  refine J_iload_n hX 1 dX7_rest_0 rfl rfl ?_
  refine J_sipush hX 256 dX7_rest_1 rfl ?_
  refine J_imul hX dX7_rest_4 ?_
  refine J_iload_n hX 2 dX7_rest_5 rfl rfl ?_
  refine J_iadd hX dX7_rest_6 ?_
  obtain ⟨x3_1, e_2, hf⟩ := bndE hf
  refine J_nm e_2 ?_
  refine J_istore_n hX [(3, .int x3_1), (0, .ref 19), (1, .int x1), (2, .int x2)] dX7_rest_7 rfl rfl rfl ?_
  refine J_iload_n hX 0 dX7_rest_8 rfl rfl ?_
  rcases ifE hf with ⟨c_3, hf⟩ | ⟨c_3, hf⟩
  · refine J_if_ltT hX 30 dX7_rest_9 rfl c_3 ?_
    refine J_iconst hX 0 dX7_rest_30 rfl ?_
    exact E_Ip hX dX7_rest_31 hf
  · refine J_if_ltF hX 30 dX7_rest_9 rfl c_3 ?_
    refine J_iload_n hX 0 dX7_rest_12 rfl rfl ?_
    refine J_aload_n hX 1 dX7_rest_13 rfl rfl ?_
    refine J_getR hX 20 dX7_rest_14 fl_X7_11 ob_19 rfl rfl ?_
    refine J_alen hX 1792 dX7_rest_17 ar_20 (by decide) rfl ?_
    rcases ifE hf with ⟨c_4, hf⟩ | ⟨c_4, hf⟩
    · refine J_icmp_geF hX 30 dX7_rest_18 rfl c_4 ?_
      refine J_aload_n hX 1 dX7_rest_21 rfl rfl ?_
      refine J_getR hX 20 dX7_rest_22 fl_X7_11 ob_19 rfl rfl ?_
      refine J_iload_n hX 0 dX7_rest_25 rfl rfl ?_
      obtain ⟨g_5, hf⟩ := gdE hf
      refine J_ald hX x3_1.toNatClampNeg dX7_rest_26 ar_20 (Or.inl ⟨rfl, rfl⟩) g_5 rfl ?_
      refine J_goto hX 31 dX7_rest_27 rfl ?_
      exact E_Ip hX dX7_rest_31 hf
    · refine J_icmp_geT hX 30 dX7_rest_18 rfl c_4 ?_
      refine J_iconst hX 0 dX7_rest_30 rfl ?_
      exact E_Ip hX dX7_rest_31 hf
set_option maxRecDepth 100000 in
set_option maxHeartbeats 200000 in
theorem C_X7_rest {G : GX} (hG : GOk G) {x1 : Int32} {x2 : Int32} {h : Hp} {r : Int32} (hf : f_X7_rest x1 x2 h = some r) : Ctr G 2 yX7_rest cX7_rest 4 (some .int) [.ref 19, .int x1, .int x2] h ((.inl (some (.int r)), h)) :=
  Ctr_of hG RX7 rfl (by decide) rfl (fun X _ hdx hX => T_X7_rest_0 hX hdx x1 x2 h hf)
theorem dX7_mostOf_0 : decode cX7_mostOf 0 = .ok (.aload_n 0, 1) := by decide +kernel
theorem dX7_mostOf_1 : decode cX7_mostOf 1 = .ok (.iload_n 1, 1) := by decide +kernel
theorem dX7_mostOf_2 : decode cX7_mostOf 2 = .ok (.iconst 1, 1) := by decide +kernel
theorem dX7_mostOf_3 : decode cX7_mostOf 3 = .ok (.iadd, 1) := by decide +kernel
theorem dX7_mostOf_4 : decode cX7_mostOf 4 = .ok (.iload_n 2, 1) := by decide +kernel
theorem dX7_mostOf_5 : decode cX7_mostOf 5 = .ok (.invokevirtual 68, 3) := by decide +kernel
theorem dX7_mostOf_8 : decode cX7_mostOf 8 = .ok (.istore_n 3, 1) := by decide +kernel
theorem dX7_mostOf_9 : decode cX7_mostOf 9 = .ok (.iconst 0, 1) := by decide +kernel
theorem dX7_mostOf_10 : decode cX7_mostOf 10 = .ok (.istore 4, 2) := by decide +kernel
theorem dX7_mostOf_12 : decode cX7_mostOf 12 = .ok (.iload 4, 2) := by decide +kernel
theorem dX7_mostOf_14 : decode cX7_mostOf 14 = .ok (.bipush 8, 2) := by decide +kernel
theorem dX7_mostOf_16 : decode cX7_mostOf 16 = .ok (.if_icmp .ge 58, 3) := by decide +kernel
theorem dX7_mostOf_19 : decode cX7_mostOf 19 = .ok (.aload_n 0, 1) := by decide +kernel
theorem dX7_mostOf_20 : decode cX7_mostOf 20 = .ok (.getfield 15, 3) := by decide +kernel
theorem dX7_mostOf_23 : decode cX7_mostOf 23 = .ok (.iload_n 1, 1) := by decide +kernel
theorem dX7_mostOf_24 : decode cX7_mostOf 24 = .ok (.bipush 8, 2) := by decide +kernel
theorem dX7_mostOf_26 : decode cX7_mostOf 26 = .ok (.imul, 1) := by decide +kernel
theorem dX7_mostOf_27 : decode cX7_mostOf 27 = .ok (.iload 4, 2) := by decide +kernel
theorem dX7_mostOf_29 : decode cX7_mostOf 29 = .ok (.iadd, 1) := by decide +kernel
theorem dX7_mostOf_30 : decode cX7_mostOf 30 = .ok (.iaload, 1) := by decide +kernel
theorem dX7_mostOf_31 : decode cX7_mostOf 31 = .ok (.istore 5, 2) := by decide +kernel
theorem dX7_mostOf_33 : decode cX7_mostOf 33 = .ok (.iload 5, 2) := by decide +kernel
theorem dX7_mostOf_35 : decode cX7_mostOf 35 = .ok (.ifCond .le 33, 3) := by decide +kernel
theorem dX7_mostOf_38 : decode cX7_mostOf 38 = .ok (.iload_n 2, 1) := by decide +kernel
theorem dX7_mostOf_39 : decode cX7_mostOf 39 = .ok (.iload 4, 2) := by decide +kernel
theorem dX7_mostOf_41 : decode cX7_mostOf 41 = .ok (.ishr, 1) := by decide +kernel
theorem dX7_mostOf_42 : decode cX7_mostOf 42 = .ok (.iconst 1, 1) := by decide +kernel
theorem dX7_mostOf_43 : decode cX7_mostOf 43 = .ok (.iand, 1) := by decide +kernel
theorem dX7_mostOf_44 : decode cX7_mostOf 44 = .ok (.ifCond .ne 24, 3) := by decide +kernel
theorem dX7_mostOf_47 : decode cX7_mostOf 47 = .ok (.iload_n 3, 1) := by decide +kernel
theorem dX7_mostOf_48 : decode cX7_mostOf 48 = .ok (.iload 5, 2) := by decide +kernel
theorem dX7_mostOf_50 : decode cX7_mostOf 50 = .ok (.aload_n 0, 1) := by decide +kernel
theorem dX7_mostOf_51 : decode cX7_mostOf 51 = .ok (.iload_n 1, 1) := by decide +kernel
theorem dX7_mostOf_52 : decode cX7_mostOf 52 = .ok (.iconst 1, 1) := by decide +kernel
theorem dX7_mostOf_53 : decode cX7_mostOf 53 = .ok (.iadd, 1) := by decide +kernel
theorem dX7_mostOf_54 : decode cX7_mostOf 54 = .ok (.iload_n 2, 1) := by decide +kernel
theorem dX7_mostOf_55 : decode cX7_mostOf 55 = .ok (.iconst 1, 1) := by decide +kernel
theorem dX7_mostOf_56 : decode cX7_mostOf 56 = .ok (.iload 4, 2) := by decide +kernel
theorem dX7_mostOf_58 : decode cX7_mostOf 58 = .ok (.ishl, 1) := by decide +kernel
theorem dX7_mostOf_59 : decode cX7_mostOf 59 = .ok (.ior, 1) := by decide +kernel
theorem dX7_mostOf_60 : decode cX7_mostOf 60 = .ok (.invokevirtual 68, 3) := by decide +kernel
theorem dX7_mostOf_63 : decode cX7_mostOf 63 = .ok (.iadd, 1) := by decide +kernel
theorem dX7_mostOf_64 : decode cX7_mostOf 64 = .ok (.invokestatic 65, 3) := by decide +kernel
theorem dX7_mostOf_67 : decode cX7_mostOf 67 = .ok (.istore_n 3, 1) := by decide +kernel
theorem dX7_mostOf_68 : decode cX7_mostOf 68 = .ok (.iinc 4 1, 3) := by decide +kernel
theorem dX7_mostOf_71 : decode cX7_mostOf 71 = .ok (.goto (-59), 3) := by decide +kernel
theorem dX7_mostOf_74 : decode cX7_mostOf 74 = .ok (.iload_n 3, 1) := by decide +kernel
theorem dX7_mostOf_75 : decode cX7_mostOf 75 = .ok (.ireturn, 1) := by decide +kernel
set_option maxRecDepth 100000 in
set_option maxHeartbeats 200000 in
theorem T_X7_mostOf_12_s {X : CX} (hX : Ok X cX7_mostOf 6 RX7 (some .int)) (hdx : dX X = 3) {r : Int32} (h : Hp) (x1 : Int32) (x2 : Int32) (q_12 : Int32 → Int32 → Option Int32) (hq_12 : ∀ (x3 : Int32) (x4 : Int32), q_12 x3 x4 = some r → J X ((.inl (some (.int r)), h)) 12 [(0, .ref 19), (1, .int x1), (2, .int x2), (3, .int x3), (4, .int x4)] [] h) (x3 : Int32) (x4 : Int32) (hf : S_X7_mostOf_12 h x1 x2 q_12 x3 x4 = some r) : J X ((.inl (some (.int r)), h)) 12 [(0, .ref 19), (1, .int x1), (2, .int x2), (3, .int x3), (4, .int x4)] [] h := by
  unfold S_X7_mostOf_12 at hf
  refine J_iload hX 4 dX7_mostOf_12 rfl ?_
  refine J_bipush hX 8 dX7_mostOf_14 rfl ?_
  rcases ifE hf with ⟨c_1, hf⟩ | ⟨c_1, hf⟩
  · refine J_icmp_geF hX 74 dX7_mostOf_16 rfl c_1 ?_
    refine J_aload_n hX 0 dX7_mostOf_19 rfl rfl ?_
    refine J_getR hX 21 dX7_mostOf_20 fl_X7_15 ob_19 rfl rfl ?_
    refine J_iload_n hX 1 dX7_mostOf_23 rfl rfl ?_
    refine J_bipush hX 8 dX7_mostOf_24 rfl ?_
    refine J_imul hX dX7_mostOf_26 ?_
    refine J_iload hX 4 dX7_mostOf_27 rfl ?_
    refine J_iadd hX dX7_mostOf_29 ?_
    obtain ⟨g_2, hf⟩ := gdE hf
    refine J_ald hX (((x1 * 8) + x4).toNatClampNeg) dX7_mostOf_30 ar_21 (Or.inl ⟨rfl, rfl⟩) g_2 rfl ?_
    obtain ⟨x5_3, e_4, hf⟩ := bndE hf
    refine J_nm e_4 ?_
    refine J_istore hX [(5, .int x5_3), (0, .ref 19), (1, .int x1), (2, .int x2), (3, .int x3), (4, .int x4)] dX7_mostOf_31 rfl rfl ?_
    refine J_iload hX 0 dX7_mostOf_33 rfl ?_
    rcases ifE hf with ⟨c_5, hf⟩ | ⟨c_5, hf⟩
    · refine J_if_leF hX 68 dX7_mostOf_35 rfl c_5 ?_
      refine J_iload_n hX 3 dX7_mostOf_38 rfl rfl ?_
      refine J_iload hX 5 dX7_mostOf_39 rfl ?_
      refine J_ishr hX dX7_mostOf_41 ?_
      refine J_iconst hX 1 dX7_mostOf_42 rfl ?_
      refine J_iand hX dX7_mostOf_43 ?_
      rcases ifE hf with ⟨c_6, hf⟩ | ⟨c_6, hf⟩
      · refine J_if_neF hX 68 dX7_mostOf_44 rfl c_6 ?_
        refine J_iload_n hX 4 dX7_mostOf_47 rfl rfl ?_
        refine J_iload hX 0 dX7_mostOf_48 rfl ?_
        refine J_aload_n hX 1 dX7_mostOf_50 rfl rfl ?_
        refine J_iload_n hX 2 dX7_mostOf_51 rfl rfl ?_
        refine J_iconst hX 1 dX7_mostOf_52 rfl ?_
        refine J_iadd hX dX7_mostOf_53 ?_
        refine J_iload_n hX 3 dX7_mostOf_54 rfl rfl ?_
        refine J_iconst hX 1 dX7_mostOf_55 rfl ?_
        refine J_iload hX 5 dX7_mostOf_56 rfl ?_
        refine J_ishl hX dX7_mostOf_58 ?_
        refine J_ior hX dX7_mostOf_59 ?_
        obtain ⟨r_7, e_8, hf⟩ := bdE hf
        refine V_1 hX [.int (x1 + 1), .int (x2 ||| (shl 1 x4))] dX7_mostOf_60 cw_X7_68 ob_19 rfl (C_X7_rest (okG hX) e_8) (ltD hdx rfl) rfl rfl rfl rfl ?_
        refine J_iadd hX dX7_mostOf_63 ?_
        refine J_max hX dX7_mostOf_64 mw_X7_65 (ltD hdx rfl) rfl ?_
        obtain ⟨x3_9, e_10, hf⟩ := bndE hf
        refine J_nm e_10 ?_
        refine J_istore_n hX [(3, .int x3_9), (5, .int x5_3), (0, .ref 19), (1, .int x1), (2, .int x2), (4, .int x4)] dX7_mostOf_67 rfl rfl rfl ?_
        refine J_iinc hX (x4 + 1) 5 [(4, .int (x4 + 1)), (3, .int x3_9), (5, .int x5_3), (0, .ref 19), (1, .int x1), (2, .int x2)] dX7_mostOf_68 rfl rfl rfl rfl ?_
        refine J_goto hX 12 dX7_mostOf_71 rfl ?_
        refine J_sub [3, 4, 5, 1, 0] [(0, .ref 19), (1, .int x1), (2, .int x2), (3, .int x3_9), (4, .int (x4 + 1))] rfl ?_
        exact hq_12 x3_9 (x4 + 1) hf
      · refine J_if_neT hX 68 dX7_mostOf_44 rfl c_6 ?_
        refine J_iinc hX (x4 + 1) 5 [(4, .int (x4 + 1)), (5, .int x5_3), (0, .ref 19), (1, .int x1), (2, .int x2), (3, .int x3)] dX7_mostOf_68 rfl rfl rfl rfl ?_
        refine J_goto hX 12 dX7_mostOf_71 rfl ?_
        refine J_sub [2, 3, 4, 5, 0] [(0, .ref 19), (1, .int x1), (2, .int x2), (3, .int x3), (4, .int (x4 + 1))] rfl ?_
        exact hq_12 x3 (x4 + 1) hf
    · refine J_if_leT hX 68 dX7_mostOf_35 rfl c_5 ?_
      refine J_iinc hX (x4 + 1) 5 [(4, .int (x4 + 1)), (5, .int x5_3), (0, .ref 19), (1, .int x1), (2, .int x2), (3, .int x3)] dX7_mostOf_68 rfl rfl rfl rfl ?_
      refine J_goto hX 12 dX7_mostOf_71 rfl ?_
      refine J_sub [2, 3, 4, 5, 0] [(0, .ref 19), (1, .int x1), (2, .int x2), (3, .int x3), (4, .int (x4 + 1))] rfl ?_
      exact hq_12 x3 (x4 + 1) hf
  · refine J_icmp_geT hX 74 dX7_mostOf_16 rfl c_1 ?_
    refine J_iload_n hX 3 dX7_mostOf_74 rfl rfl ?_
    exact E_Ip hX dX7_mostOf_75 hf
set_option maxRecDepth 100000 in
set_option maxHeartbeats 200000 in
theorem T_X7_mostOf_12 {X : CX} (hX : Ok X cX7_mostOf 6 RX7 (some .int)) (hdx : dX X = 3) {r : Int32} (h : Hp) (x1 : Int32) (x2 : Int32) : ∀ (n : Nat) (x3 : Int32) (x4 : Int32), F_X7_mostOf_12 h x1 x2 n x3 x4 = some r → J X ((.inl (some (.int r)), h)) 12 [(0, .ref 19), (1, .int x1), (2, .int x2), (3, .int x3), (4, .int x4)] [] h := by
  intro n
  induction n with
  | zero => intro x3 x4 hf; exact nomatch hf
  | succ n ih => intro x3 x4 hf; exact T_X7_mostOf_12_s hX hdx h x1 x2 _ (fun x3 x4 hf => ih x3 x4 hf) x3 x4 hf
set_option maxRecDepth 100000 in
set_option maxHeartbeats 200000 in
theorem T_X7_mostOf_0 {X : CX} (hX : Ok X cX7_mostOf 6 RX7 (some .int)) (hdx : dX X = 3) {r : Int32} (x1 : Int32) (x2 : Int32) (h : Hp) (hf : f_X7_mostOf x1 x2 h = some r) : J X ((.inl (some (.int r)), h)) 0 [(0, .ref 19), (1, .int x1), (2, .int x2)] [] h := by
  unfold f_X7_mostOf at hf
  refine J_aload_n hX 0 dX7_mostOf_0 rfl rfl ?_
  refine J_iload_n hX 1 dX7_mostOf_1 rfl rfl ?_
  refine J_iconst hX 1 dX7_mostOf_2 rfl ?_
  refine J_iadd hX dX7_mostOf_3 ?_
  refine J_iload_n hX 2 dX7_mostOf_4 rfl rfl ?_
  obtain ⟨r_1, e_2, hf⟩ := bdE hf
  refine V_1 hX [.int (x1 + 1), .int x2] dX7_mostOf_5 cw_X7_68 ob_19 rfl (C_X7_rest (okG hX) e_2) (ltD hdx rfl) rfl rfl rfl rfl ?_
  refine J_istore_n hX [(3, .int r_1), (0, .ref 19), (1, .int x1), (2, .int x2)] dX7_mostOf_8 rfl rfl rfl ?_
  refine J_iconst hX 0 dX7_mostOf_9 rfl ?_
  refine J_istore hX [(4, .int 0), (3, .int r_1), (0, .ref 19), (1, .int x1), (2, .int x2)] dX7_mostOf_10 rfl rfl ?_
  refine J_sub [2, 3, 4, 1, 0] [(0, .ref 19), (1, .int x1), (2, .int x2), (3, .int r_1), (4, .int 0)] rfl ?_
  exact T_X7_mostOf_12 hX hdx h x1 x2 FU r_1 0 hf
set_option maxRecDepth 100000 in
set_option maxHeartbeats 200000 in
theorem C_X7_mostOf {G : GX} (hG : GOk G) {x1 : Int32} {x2 : Int32} {h : Hp} {r : Int32} (hf : f_X7_mostOf x1 x2 h = some r) : Ctr G 3 yX7_mostOf cX7_mostOf 6 (some .int) [.ref 19, .int x1, .int x2] h ((.inl (some (.int r)), h)) :=
  Ctr_of hG RX7 rfl (by decide) rfl (fun X _ hdx hX => T_X7_mostOf_0 hX hdx x1 x2 h hf)
