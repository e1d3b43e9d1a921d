theorem dX7_firstPlace_0 : decode cX7_firstPlace 0 = .ok (.aload_n 0, 1) := by decide +kernel
theorem dX7_firstPlace_1 : decode cX7_firstPlace 1 = .ok (.iload_n 1, 1) := by decide +kernel
theorem dX7_firstPlace_2 : decode cX7_firstPlace 2 = .ok (.iload_n 2, 1) := by decide +kernel
theorem dX7_firstPlace_3 : decode cX7_firstPlace 3 = .ok (.invokevirtual 68, 3) := by decide +kernel
theorem dX7_firstPlace_6 : decode cX7_firstPlace 6 = .ok (.istore_n 3, 1) := by decide +kernel
theorem dX7_firstPlace_7 : decode cX7_firstPlace 7 = .ok (.iconst 0, 1) := by decide +kernel
theorem dX7_firstPlace_8 : decode cX7_firstPlace 8 = .ok (.istore 4, 2) := by decide +kernel
theorem dX7_firstPlace_10 : decode cX7_firstPlace 10 = .ok (.iload 4, 2) := by decide +kernel
theorem dX7_firstPlace_12 : decode cX7_firstPlace 12 = .ok (.bipush 8, 2) := by decide +kernel
theorem dX7_firstPlace_14 : decode cX7_firstPlace 14 = .ok (.if_icmp .ge 72, 3) := by decide +kernel
theorem dX7_firstPlace_17 : decode cX7_firstPlace 17 = .ok (.aload_n 0, 1) := by decide +kernel
theorem dX7_firstPlace_18 : decode cX7_firstPlace 18 = .ok (.iload_n 1, 1) := by decide +kernel
theorem dX7_firstPlace_19 : decode cX7_firstPlace 19 = .ok (.iconst 1, 1) := by decide +kernel
theorem dX7_firstPlace_20 : decode cX7_firstPlace 20 = .ok (.iadd, 1) := by decide +kernel
theorem dX7_firstPlace_21 : decode cX7_firstPlace 21 = .ok (.iload_n 2, 1) := by decide +kernel
theorem dX7_firstPlace_22 : decode cX7_firstPlace 22 = .ok (.invokevirtual 68, 3) := by decide +kernel
theorem dX7_firstPlace_25 : decode cX7_firstPlace 25 = .ok (.iload_n 3, 1) := by decide +kernel
theorem dX7_firstPlace_26 : decode cX7_firstPlace 26 = .ok (.if_icmp .eq 60, 3) := by decide +kernel
theorem dX7_firstPlace_29 : decode cX7_firstPlace 29 = .ok (.aload_n 0, 1) := by decide +kernel
theorem dX7_firstPlace_30 : decode cX7_firstPlace 30 = .ok (.getfield 15, 3) := by decide +kernel
theorem dX7_firstPlace_33 : decode cX7_firstPlace 33 = .ok (.iload_n 1, 1) := by decide +kernel
theorem dX7_firstPlace_34 : decode cX7_firstPlace 34 = .ok (.bipush 8, 2) := by decide +kernel
theorem dX7_firstPlace_36 : decode cX7_firstPlace 36 = .ok (.imul, 1) := by decide +kernel
theorem dX7_firstPlace_37 : decode cX7_firstPlace 37 = .ok (.iload 4, 2) := by decide +kernel
theorem dX7_firstPlace_39 : decode cX7_firstPlace 39 = .ok (.iadd, 1) := by decide +kernel
theorem dX7_firstPlace_40 : decode cX7_firstPlace 40 = .ok (.iaload, 1) := by decide +kernel
theorem dX7_firstPlace_41 : decode cX7_firstPlace 41 = .ok (.istore 5, 2) := by decide +kernel
theorem dX7_firstPlace_43 : decode cX7_firstPlace 43 = .ok (.iload 5, 2) := by decide +kernel
theorem dX7_firstPlace_45 : decode cX7_firstPlace 45 = .ok (.ifCond .le 35, 3) := by decide +kernel
theorem dX7_firstPlace_48 : decode cX7_firstPlace 48 = .ok (.iload_n 2, 1) := by decide +kernel
theorem dX7_firstPlace_49 : decode cX7_firstPlace 49 = .ok (.iload 4, 2) := by decide +kernel
theorem dX7_firstPlace_51 : decode cX7_firstPlace 51 = .ok (.ishr, 1) := by decide +kernel
theorem dX7_firstPlace_52 : decode cX7_firstPlace 52 = .ok (.iconst 1, 1) := by decide +kernel
theorem dX7_firstPlace_53 : decode cX7_firstPlace 53 = .ok (.iand, 1) := by decide +kernel
theorem dX7_firstPlace_54 : decode cX7_firstPlace 54 = .ok (.ifCond .ne 26, 3) := by decide +kernel
theorem dX7_firstPlace_57 : decode cX7_firstPlace 57 = .ok (.iload 5, 2) := by decide +kernel
theorem dX7_firstPlace_59 : decode cX7_firstPlace 59 = .ok (.aload_n 0, 1) := by decide +kernel
theorem dX7_firstPlace_60 : decode cX7_firstPlace 60 = .ok (.iload_n 1, 1) := by decide +kernel
theorem dX7_firstPlace_61 : decode cX7_firstPlace 61 = .ok (.iconst 1, 1) := by decide +kernel
theorem dX7_firstPlace_62 : decode cX7_firstPlace 62 = .ok (.iadd, 1) := by decide +kernel
theorem dX7_firstPlace_63 : decode cX7_firstPlace 63 = .ok (.iload_n 2, 1) := by decide +kernel
theorem dX7_firstPlace_64 : decode cX7_firstPlace 64 = .ok (.iconst 1, 1) := by decide +kernel
theorem dX7_firstPlace_65 : decode cX7_firstPlace 65 = .ok (.iload 4, 2) := by decide +kernel
theorem dX7_firstPlace_67 : decode cX7_firstPlace 67 = .ok (.ishl, 1) := by decide +kernel
theorem dX7_firstPlace_68 : decode cX7_firstPlace 68 = .ok (.ior, 1) := by decide +kernel
theorem dX7_firstPlace_69 : decode cX7_firstPlace 69 = .ok (.invokevirtual 68, 3) := by decide +kernel
theorem dX7_firstPlace_72 : decode cX7_firstPlace 72 = .ok (.iadd, 1) := by decide +kernel
theorem dX7_firstPlace_73 : decode cX7_firstPlace 73 = .ok (.iload_n 3, 1) := by decide +kernel
theorem dX7_firstPlace_74 : decode cX7_firstPlace 74 = .ok (.if_icmp .ne 6, 3) := by decide +kernel
theorem dX7_firstPlace_77 : decode cX7_firstPlace 77 = .ok (.iload 4, 2) := by decide +kernel
theorem dX7_firstPlace_79 : decode cX7_firstPlace 79 = .ok (.ireturn, 1) := by decide +kernel
theorem dX7_firstPlace_80 : decode cX7_firstPlace 80 = .ok (.iinc 4 1, 3) := by decide +kernel
theorem dX7_firstPlace_83 : decode cX7_firstPlace 83 = .ok (.goto (-73), 3) := by decide +kernel
theorem dX7_firstPlace_86 : decode cX7_firstPlace 86 = .ok (.iconst (-1), 1) := by decide +kernel
theorem dX7_firstPlace_87 : decode cX7_firstPlace 87 = .ok (.ireturn, 1) := by decide +kernel
set_option maxRecDepth 100000 in
set_option maxHeartbeats 200000 in
theorem T_X7_firstPlace_10_s {X : CX} (hX : Ok X cX7_firstPlace 6 RX7 (some .int)) (hdx : dX X = 3) {r : Int32} (h : Hp) (x1 : Int32) (x2 : Int32) (x3 : Int32) (q_10 : Int32 → Option Int32) (hq_10 : ∀ (x4 : Int32), q_10 x4 = some r → J X ((.inl (some (.int r)), h)) 10 [(0, .ref 19), (1, .int x1), (2, .int x2), (3, .int x3), (4, .int x4)] [] h) (x4 : Int32) (hf : S_X7_firstPlace_10 h x1 x2 x3 q_10 x4 = some r) : J X ((.inl (some (.int r)), h)) 10 [(0, .ref 19), (1, .int x1), (2, .int x2), (3, .int x3), (4, .int x4)] [] h := by
  unfold S_X7_firstPlace_10 at hf
  refine J_iload hX 4 dX7_firstPlace_10 rfl ?_
  refine J_bipush hX 8 dX7_firstPlace_12 rfl ?_
  rcases ifE hf with ⟨c_1, hf⟩ | ⟨c_1, hf⟩
  · refine J_icmp_geF hX 86 dX7_firstPlace_14 rfl c_1 ?_
    refine J_aload_n hX 0 dX7_firstPlace_17 rfl rfl ?_
    refine J_iload_n hX 1 dX7_firstPlace_18 rfl rfl ?_
    refine J_iconst hX 1 dX7_firstPlace_19 rfl ?_
    refine J_iadd hX dX7_firstPlace_20 ?_
    refine J_iload_n hX 2 dX7_firstPlace_21 rfl rfl ?_
    obtain ⟨r_2, e_3, hf⟩ := bdE hf
    refine V_1 hX [.int (x1 + 1), .int x2] dX7_firstPlace_22 cw_X7_68 ob_19 rfl (C_X7_rest (okG hX) e_3) (ltD hdx rfl) rfl rfl rfl rfl ?_
    refine J_iload_n hX 3 dX7_firstPlace_25 rfl rfl ?_
    rcases ifE hf with ⟨c_4, hf⟩ | ⟨c_4, hf⟩
    · refine J_icmp_eqT hX 86 dX7_firstPlace_26 rfl c_4 ?_
      refine J_iconst hX (-1) dX7_firstPlace_86 rfl ?_
      exact E_Ip hX dX7_firstPlace_87 hf
    · refine J_icmp_eqF hX 86 dX7_firstPlace_26 rfl c_4 ?_
      refine J_aload_n hX 0 dX7_firstPlace_29 rfl rfl ?_
      refine J_getR hX 21 dX7_firstPlace_30 fl_X7_15 ob_19 rfl rfl ?_
      refine J_iload_n hX 1 dX7_firstPlace_33 rfl rfl ?_
      refine J_bipush hX 8 dX7_firstPlace_34 rfl ?_
      refine J_imul hX dX7_firstPlace_36 ?_
      refine J_iload hX 4 dX7_firstPlace_37 rfl ?_
      refine J_iadd hX dX7_firstPlace_39 ?_
      obtain ⟨g_5, hf⟩ := gdE hf
      refine J_ald hX (((x1 * 8) + x4).toNatClampNeg) dX7_firstPlace_40 ar_21 (Or.inl ⟨rfl, rfl⟩) g_5 rfl ?_
      obtain ⟨x5_6, e_7, hf⟩ := bndE hf
      refine J_nm e_7 ?_
      refine J_istore hX [(5, .int x5_6), (0, .ref 19), (1, .int x1), (2, .int x2), (3, .int x3), (4, .int x4)] dX7_firstPlace_41 rfl rfl ?_
      refine J_iload hX 0 dX7_firstPlace_43 rfl ?_
      rcases ifE hf with ⟨c_8, hf⟩ | ⟨c_8, hf⟩
      · refine J_if_leF hX 80 dX7_firstPlace_45 rfl c_8 ?_
        refine J_iload_n hX 3 dX7_firstPlace_48 rfl rfl ?_
        refine J_iload hX 5 dX7_firstPlace_49 rfl ?_
        refine J_ishr hX dX7_firstPlace_51 ?_
        refine J_iconst hX 1 dX7_firstPlace_52 rfl ?_
        refine J_iand hX dX7_firstPlace_53 ?_
        rcases ifE hf with ⟨c_9, hf⟩ | ⟨c_9, hf⟩
        · refine J_if_neF hX 80 dX7_firstPlace_54 rfl c_9 ?_
          refine J_iload hX 0 dX7_firstPlace_57 rfl ?_
          refine J_aload_n hX 1 dX7_firstPlace_59 rfl rfl ?_
          refine J_iload_n hX 2 dX7_firstPlace_60 rfl rfl ?_
          refine J_iconst hX 1 dX7_firstPlace_61 rfl ?_
          refine J_iadd hX dX7_firstPlace_62 ?_
          refine J_iload_n hX 3 dX7_firstPlace_63 rfl rfl ?_
          refine J_iconst hX 1 dX7_firstPlace_64 rfl ?_
          refine J_iload hX 5 dX7_firstPlace_65 rfl ?_
          refine J_ishl hX dX7_firstPlace_67 ?_
          refine J_ior hX dX7_firstPlace_68 ?_
          obtain ⟨r_10, e_11, hf⟩ := bdE hf
          refine V_1 hX [.int (x1 + 1), .int (x2 ||| (shl 1 x4))] dX7_firstPlace_69 cw_X7_68 ob_19 rfl (C_X7_rest (okG hX) e_11) (ltD hdx rfl) rfl rfl rfl rfl ?_
          refine J_iadd hX dX7_firstPlace_72 ?_
          refine J_iload_n hX 4 dX7_firstPlace_73 rfl rfl ?_
          rcases ifE hf with ⟨c_12, hf⟩ | ⟨c_12, hf⟩
          · refine J_icmp_neF hX 80 dX7_firstPlace_74 rfl c_12 ?_
            refine J_iload hX 5 dX7_firstPlace_77 rfl ?_
            exact E_Ip hX dX7_firstPlace_79 hf
          · refine J_icmp_neT hX 80 dX7_firstPlace_74 rfl c_12 ?_
            refine J_iinc hX (x4 + 1) 5 [(4, .int (x4 + 1)), (5, .int x5_6), (0, .ref 19), (1, .int x1), (2, .int x2), (3, .int x3)] dX7_firstPlace_80 rfl rfl rfl rfl ?_
            refine J_goto hX 10 dX7_firstPlace_83 rfl ?_
            refine J_sub [2, 3, 4, 5, 0] [(0, .ref 19), (1, .int x1), (2, .int x2), (3, .int x3), (4, .int (x4 + 1))] rfl ?_
            exact hq_10 (x4 + 1) hf
        · refine J_if_neT hX 80 dX7_firstPlace_54 rfl c_9 ?_
          refine J_iinc hX (x4 + 1) 5 [(4, .int (x4 + 1)), (5, .int x5_6), (0, .ref 19), (1, .int x1), (2, .int x2), (3, .int x3)] dX7_firstPlace_80 rfl rfl rfl rfl ?_
          refine J_goto hX 10 dX7_firstPlace_83 rfl ?_
          refine J_sub [2, 3, 4, 5, 0] [(0, .ref 19), (1, .int x1), (2, .int x2), (3, .int x3), (4, .int (x4 + 1))] rfl ?_
          exact hq_10 (x4 + 1) hf
      · refine J_if_leT hX 80 dX7_firstPlace_45 rfl c_8 ?_
        refine J_iinc hX (x4 + 1) 5 [(4, .int (x4 + 1)), (5, .int x5_6), (0, .ref 19), (1, .int x1), (2, .int x2), (3, .int x3)] dX7_firstPlace_80 rfl rfl rfl rfl ?_
        refine J_goto hX 10 dX7_firstPlace_83 rfl ?_
        refine J_sub [2, 3, 4, 5, 0] [(0, .ref 19), (1, .int x1), (2, .int x2), (3, .int x3), (4, .int (x4 + 1))] rfl ?_
        exact hq_10 (x4 + 1) hf
  · refine J_icmp_geT hX 86 dX7_firstPlace_14 rfl c_1 ?_
    refine J_iconst hX (-1) dX7_firstPlace_86 rfl ?_
    exact E_Ip hX dX7_firstPlace_87 hf
set_option maxRecDepth 100000 in
set_option maxHeartbeats 200000 in
theorem T_X7_firstPlace_10 {X : CX} (hX : Ok X cX7_firstPlace 6 RX7 (some .int)) (hdx : dX X = 3) {r : Int32} (h : Hp) (x1 : Int32) (x2 : Int32) (x3 : Int32) : ∀ (n : Nat) (x4 : Int32), F_X7_firstPlace_10 h x1 x2 x3 n x4 = some r → J X ((.inl (some (.int r)), h)) 10 [(0, .ref 19), (1, .int x1), (2, .int x2), (3, .int x3), (4, .int x4)] [] h := by
  intro n
  induction n with
  | zero => intro x4 hf; exact nomatch hf
  | succ n ih => intro x4 hf; exact T_X7_firstPlace_10_s hX hdx h x1 x2 x3 _ (fun x4 hf => ih x4 hf) x4 hf
set_option maxRecDepth 100000 in
set_option maxHeartbeats 200000 in
theorem T_X7_firstPlace_0 {X : CX} (hX : Ok X cX7_firstPlace 6 RX7 (some .int)) (hdx : dX X = 3) {r : Int32} (x1 : Int32) (x2 : Int32) (h : Hp) (hf : f_X7_firstPlace x1 x2 h = some r) : J X ((.inl (some (.int r)), h)) 0 [(0, .ref 19), (1, .int x1), (2, .int x2)] [] h := by
  unfold f_X7_firstPlace at hf
  refine J_aload_n hX 0 dX7_firstPlace_0 rfl rfl ?_
  refine J_iload_n hX 1 dX7_firstPlace_1 rfl rfl ?_
  refine J_iload_n hX 2 dX7_firstPlace_2 rfl rfl ?_
  obtain ⟨r_1, e_2, hf⟩ := bdE hf
  refine V_1 hX [.int x1, .int x2] dX7_firstPlace_3 cw_X7_68 ob_19 rfl (C_X7_rest (okG hX) e_2) (ltD hdx rfl) rfl rfl rfl rfl ?_
  refine J_istore_n hX [(3, .int r_1), (0, .ref 19), (1, .int x1), (2, .int x2)] dX7_firstPlace_6 rfl rfl rfl ?_
  refine J_iconst hX 0 dX7_firstPlace_7 rfl ?_
  refine J_istore hX [(4, .int 0), (3, .int r_1), (0, .ref 19), (1, .int x1), (2, .int x2)] dX7_firstPlace_8 rfl rfl ?_
  refine J_sub [2, 3, 4, 1, 0] [(0, .ref 19), (1, .int x1), (2, .int x2), (3, .int r_1), (4, .int 0)] rfl ?_
  exact T_X7_firstPlace_10 hX hdx h x1 x2 r_1 FU 0 hf
set_option maxRecDepth 100000 in
set_option maxHeartbeats 200000 in
theorem C_X7_firstPlace {G : GX} (hG : GOk G) {x1 : Int32} {x2 : Int32} {h : Hp} {r : Int32} (hf : f_X7_firstPlace x1 x2 h = some r) : Ctr G 3 yX7_firstPlace cX7_firstPlace 6 (some .int) [.ref 19, .int x1, .int x2] h ((.inl (some (.int r)), h)) :=
  Ctr_of hG RX7 rfl (by decide) rfl (fun X _ hdx hX => T_X7_firstPlace_0 hX hdx x1 x2 h hf)
theorem dX7_placeAll_0 : decode cX7_placeAll 0 = .ok (.iconst 0, 1) := by decide +kernel
theorem dX7_placeAll_1 : decode cX7_placeAll 1 = .ok (.istore_n 1, 1) := by decide +kernel
theorem dX7_placeAll_2 : decode cX7_placeAll 2 = .ok (.iconst 0, 1) := by decide +kernel
theorem dX7_placeAll_3 : decode cX7_placeAll 3 = .ok (.istore_n 2, 1) := by decide +kernel
theorem dX7_placeAll_4 : decode cX7_placeAll 4 = .ok (.iload_n 2, 1) := by decide +kernel
theorem dX7_placeAll_5 : decode cX7_placeAll 5 = .ok (.bipush 6, 2) := by decide +kernel
theorem dX7_placeAll_7 : decode cX7_placeAll 7 = .ok (.if_icmp .ge 38, 3) := by decide +kernel
theorem dX7_placeAll_10 : decode cX7_placeAll 10 = .ok (.aload_n 0, 1) := by decide +kernel
theorem dX7_placeAll_11 : decode cX7_placeAll 11 = .ok (.iload_n 2, 1) := by decide +kernel
theorem dX7_placeAll_12 : decode cX7_placeAll 12 = .ok (.iload_n 1, 1) := by decide +kernel
theorem dX7_placeAll_13 : decode cX7_placeAll 13 = .ok (.invokevirtual 71, 3) := by decide +kernel
theorem dX7_placeAll_16 : decode cX7_placeAll 16 = .ok (.istore_n 3, 1) := by decide +kernel
theorem dX7_placeAll_17 : decode cX7_placeAll 17 = .ok (.aload_n 0, 1) := by decide +kernel
theorem dX7_placeAll_18 : decode cX7_placeAll 18 = .ok (.getfield 18, 3) := by decide +kernel
theorem dX7_placeAll_21 : decode cX7_placeAll 21 = .ok (.iload_n 2, 1) := by decide +kernel
theorem dX7_placeAll_22 : decode cX7_placeAll 22 = .ok (.iload_n 3, 1) := by decide +kernel
theorem dX7_placeAll_23 : decode cX7_placeAll 23 = .ok (.iastore, 1) := by decide +kernel
theorem dX7_placeAll_24 : decode cX7_placeAll 24 = .ok (.iload_n 1, 1) := by decide +kernel
theorem dX7_placeAll_25 : decode cX7_placeAll 25 = .ok (.iload_n 3, 1) := by decide +kernel
theorem dX7_placeAll_26 : decode cX7_placeAll 26 = .ok (.iconst (-1), 1) := by decide +kernel
theorem dX7_placeAll_27 : decode cX7_placeAll 27 = .ok (.if_icmp .eq 9, 3) := by decide +kernel
theorem dX7_placeAll_30 : decode cX7_placeAll 30 = .ok (.iconst 1, 1) := by decide +kernel
theorem dX7_placeAll_31 : decode cX7_placeAll 31 = .ok (.iload_n 3, 1) := by decide +kernel
theorem dX7_placeAll_32 : decode cX7_placeAll 32 = .ok (.ishl, 1) := by decide +kernel
theorem dX7_placeAll_33 : decode cX7_placeAll 33 = .ok (.goto 4, 3) := by decide +kernel
theorem dX7_placeAll_36 : decode cX7_placeAll 36 = .ok (.iconst 0, 1) := by decide +kernel
theorem dX7_placeAll_37 : decode cX7_placeAll 37 = .ok (.ior, 1) := by decide +kernel
theorem dX7_placeAll_38 : decode cX7_placeAll 38 = .ok (.istore_n 1, 1) := by decide +kernel
theorem dX7_placeAll_39 : decode cX7_placeAll 39 = .ok (.iinc 2 1, 3) := by decide +kernel
theorem dX7_placeAll_42 : decode cX7_placeAll 42 = .ok (.goto (-38), 3) := by decide +kernel
theorem dX7_placeAll_45 : decode cX7_placeAll 45 = .ok (.return_, 1) := by decide +kernel
set_option maxRecDepth 100000 in
set_option maxHeartbeats 200000 in
theorem T_X7_placeAll_37 {X : CX} (hX : Ok X cX7_placeAll 4 RX7 none) (hdx : dX X = 4) {r : Hp} (x2 : Int32) (t0 : Int32) (t1 : Int32) (q_4 : Int32 → Int32 → Hp → Option Hp) (hq_4 : ∀ (x1 : Int32) (x2 : Int32) (h : Hp), q_4 x1 x2 h = some r → J X ((.inl none, r)) 4 [(0, .ref 19), (1, .int x1), (2, .int x2)] [] h) (h : Hp) (hf : F_X7_placeAll_37 q_4 x2 t0 t1 h = some r) : J X ((.inl none, r)) 37 [(0, .ref 19), (2, .int x2)] [.int t0, .int t1] h := by
  unfold F_X7_placeAll_37 at hf
  refine J_ior hX dX7_placeAll_37 ?_
  obtain ⟨x1_1, e_2, hf⟩ := bndE hf
  refine J_nm e_2 ?_
  refine J_istore_n hX [(1, .int x1_1), (0, .ref 19), (2, .int x2)] dX7_placeAll_38 rfl rfl rfl ?_
  refine J_iinc hX (x2 + 1) 2 [(2, .int (x2 + 1)), (1, .int x1_1), (0, .ref 19)] dX7_placeAll_39 rfl rfl rfl rfl ?_
  refine J_goto hX 4 dX7_placeAll_42 rfl ?_
  refine J_sub [2, 1, 0] [(0, .ref 19), (1, .int x1_1), (2, .int (x2 + 1))] rfl ?_
  exact hq_4 x1_1 (x2 + 1) h hf
set_option maxRecDepth 100000 in
set_option maxHeartbeats 200000 in
theorem T_X7_placeAll_4_s {X : CX} (hX : Ok X cX7_placeAll 4 RX7 none) (hdx : dX X = 4) {r : Hp} (q_4 : Int32 → Int32 → Hp → Option Hp) (hq_4 : ∀ (x1 : Int32) (x2 : Int32) (h : Hp), q_4 x1 x2 h = some r → J X ((.inl none, r)) 4 [(0, .ref 19), (1, .int x1), (2, .int x2)] [] h) (x1 : Int32) (x2 : Int32) (h : Hp) (hf : S_X7_placeAll_4 q_4 x1 x2 h = some r) : J X ((.inl none, r)) 4 [(0, .ref 19), (1, .int x1), (2, .int x2)] [] h := by
  unfold S_X7_placeAll_4 at hf
  refine J_iload_n hX 2 dX7_placeAll_4 rfl rfl ?_
  refine J_bipush hX 6 dX7_placeAll_5 rfl ?_
  rcases ifE hf with ⟨c_1, hf⟩ | ⟨c_1, hf⟩
  · refine J_icmp_geF hX 45 dX7_placeAll_7 rfl c_1 ?_
    refine J_aload_n hX 0 dX7_placeAll_10 rfl rfl ?_
    refine J_iload_n hX 2 dX7_placeAll_11 rfl rfl ?_
    refine J_iload_n hX 1 dX7_placeAll_12 rfl rfl ?_
    obtain ⟨r_2, e_3, hf⟩ := bdE hf
    refine V_1 hX [.int x2, .int x1] dX7_placeAll_13 cw_X7_71 ob_19 rfl (C_X7_firstPlace (okG hX) e_3) (ltD hdx rfl) rfl rfl rfl rfl ?_
    refine J_istore_n hX [(3, .int r_2), (0, .ref 19), (1, .int x1), (2, .int x2)] dX7_placeAll_16 rfl rfl rfl ?_
    refine J_aload_n hX 1 dX7_placeAll_17 rfl rfl ?_
    refine J_getR hX 22 dX7_placeAll_18 fl_X7_18 ob_19 rfl rfl ?_
    refine J_iload_n hX 3 dX7_placeAll_21 rfl rfl ?_
    refine J_iload_n hX 0 dX7_placeAll_22 rfl rfl ?_
    obtain ⟨g_4, hf⟩ := gdE hf
    obtain ⟨h_5, e_6, hf⟩ := bndE hf
    refine J_ast hX x2.toNatClampNeg r_2 dX7_placeAll_23 ar_22 (Or.inl ⟨rfl, rfl, rfl⟩) g_4 rfl ?_
    refine J_nmh e_6 ?_
    refine J_iload_n hX 2 dX7_placeAll_24 rfl rfl ?_
    refine J_iload_n hX 0 dX7_placeAll_25 rfl rfl ?_
    refine J_iconst hX (-1) dX7_placeAll_26 rfl ?_
    rcases ifE hf with ⟨c_7, hf⟩ | ⟨c_7, hf⟩
    · refine J_icmp_eqT hX 36 dX7_placeAll_27 rfl c_7 ?_
      refine J_iconst hX 0 dX7_placeAll_36 rfl ?_
      refine J_sub [1, 3] [(0, .ref 19), (2, .int x2)] rfl ?_
      exact T_X7_placeAll_37 hX hdx x2 0 x1 q_4 hq_4 h_5 hf
    · refine J_icmp_eqF hX 36 dX7_placeAll_27 rfl c_7 ?_
      refine J_iconst hX 1 dX7_placeAll_30 rfl ?_
      refine J_iload_n hX 0 dX7_placeAll_31 rfl rfl ?_
      refine J_ishl hX dX7_placeAll_32 ?_
      refine J_goto hX 37 dX7_placeAll_33 rfl ?_
      refine J_sub [1, 3] [(0, .ref 19), (2, .int x2)] rfl ?_
      exact T_X7_placeAll_37 hX hdx x2 (shl 1 r_2) x1 q_4 hq_4 h_5 hf
  · refine J_icmp_geT hX 45 dX7_placeAll_7 rfl c_1 ?_
    exact E_Vi hX dX7_placeAll_45 hf
set_option maxRecDepth 100000 in
set_option maxHeartbeats 200000 in
theorem T_X7_placeAll_4 {X : CX} (hX : Ok X cX7_placeAll 4 RX7 none) (hdx : dX X = 4) {r : Hp} : ∀ (n : Nat) (x1 : Int32) (x2 : Int32) (h : Hp), F_X7_placeAll_4 n x1 x2 h = some r → J X ((.inl none, r)) 4 [(0, .ref 19), (1, .int x1), (2, .int x2)] [] h := by
  intro n
  induction n with
  | zero => intro x1 x2 h hf; exact nomatch hf
  | succ n ih => intro x1 x2 h hf; exact T_X7_placeAll_4_s hX hdx _ (fun x1 x2 h hf => ih x1 x2 h hf) x1 x2 h hf
set_option maxRecDepth 100000 in
set_option maxHeartbeats 200000 in
theorem T_X7_placeAll_0 {X : CX} (hX : Ok X cX7_placeAll 4 RX7 none) (hdx : dX X = 4) {r : Hp} (h : Hp) (hf : f_X7_placeAll h = some r) : J X ((.inl none, r)) 0 [(0, .ref 19)] [] h := by
  unfold f_X7_placeAll at hf
  refine J_iconst hX 0 dX7_placeAll_0 rfl ?_
  refine J_istore_n hX [(1, .int 0), (0, .ref 19)] dX7_placeAll_1 rfl rfl rfl ?_
  refine J_iconst hX 0 dX7_placeAll_2 rfl ?_
  refine J_istore_n hX [(2, .int 0), (1, .int 0), (0, .ref 19)] dX7_placeAll_3 rfl rfl rfl ?_
  refine J_sub [2, 1, 0] [(0, .ref 19), (1, .int 0), (2, .int 0)] rfl ?_
  exact T_X7_placeAll_4 hX hdx FU 0 0 h hf
set_option maxRecDepth 100000 in
set_option maxHeartbeats 200000 in
theorem C_X7_placeAll {G : GX} (hG : GOk G) {h : Hp} {r : Hp} (hf : f_X7_placeAll h = some r) : Ctr G 4 yX7_placeAll cX7_placeAll 4 none [.ref 19] h ((.inl none, r)) :=
  Ctr_of hG RX7 rfl (by decide) rfl (fun X _ hdx hX => T_X7_placeAll_0 hX hdx h hf)
theorem dX7_solve_0 : decode cX7_solve 0 = .ok (.iconst 0, 1) := by decide +kernel
theorem dX7_solve_1 : decode cX7_solve 1 = .ok (.istore_n 3, 1) := by decide +kernel
theorem dX7_solve_2 : decode cX7_solve 2 = .ok (.iload_n 3, 1) := by decide +kernel
theorem dX7_solve_3 : decode cX7_solve 3 = .ok (.bipush 6, 2) := by decide +kernel
theorem dX7_solve_5 : decode cX7_solve 5 = .ok (.if_icmp .ge 45, 3) := by decide +kernel
theorem dX7_solve_8 : decode cX7_solve 8 = .ok (.iconst 0, 1) := by decide +kernel
theorem dX7_solve_9 : decode cX7_solve 9 = .ok (.istore 4, 2) := by decide +kernel
theorem dX7_solve_11 : decode cX7_solve 11 = .ok (.iload 4, 2) := by decide +kernel
theorem dX7_solve_13 : decode cX7_solve 13 = .ok (.bipush 8, 2) := by decide +kernel
theorem dX7_solve_15 : decode cX7_solve 15 = .ok (.if_icmp .ge 29, 3) := by decide +kernel
theorem dX7_solve_18 : decode cX7_solve 18 = .ok (.aload_n 0, 1) := by decide +kernel
theorem dX7_solve_19 : decode cX7_solve 19 = .ok (.getfield 15, 3) := by decide +kernel
theorem dX7_solve_22 : decode cX7_solve 22 = .ok (.iload_n 3, 1) := by decide +kernel
theorem dX7_solve_23 : decode cX7_solve 23 = .ok (.bipush 8, 2) := by decide +kernel
theorem dX7_solve_25 : decode cX7_solve 25 = .ok (.imul, 1) := by decide +kernel
theorem dX7_solve_26 : decode cX7_solve 26 = .ok (.iload 4, 2) := by decide +kernel
theorem dX7_solve_28 : decode cX7_solve 28 = .ok (.iadd, 1) := by decide +kernel
theorem dX7_solve_29 : decode cX7_solve 29 = .ok (.aload_n 1, 1) := by decide +kernel
theorem dX7_solve_30 : decode cX7_solve 30 = .ok (.aload_n 2, 1) := by decide +kernel
theorem dX7_solve_31 : decode cX7_solve 31 = .ok (.iload_n 3, 1) := by decide +kernel
theorem dX7_solve_32 : decode cX7_solve 32 = .ok (.iload 4, 2) := by decide +kernel
theorem dX7_solve_34 : decode cX7_solve 34 = .ok (.invokestatic 21, 3) := by decide +kernel
theorem dX7_solve_37 : decode cX7_solve 37 = .ok (.iastore, 1) := by decide +kernel
theorem dX7_solve_38 : decode cX7_solve 38 = .ok (.iinc 4 1, 3) := by decide +kernel
theorem dX7_solve_41 : decode cX7_solve 41 = .ok (.goto (-30), 3) := by decide +kernel
theorem dX7_solve_44 : decode cX7_solve 44 = .ok (.iinc 3 1, 3) := by decide +kernel
theorem dX7_solve_47 : decode cX7_solve 47 = .ok (.goto (-45), 3) := by decide +kernel
theorem dX7_solve_50 : decode cX7_solve 50 = .ok (.iconst 5, 1) := by decide +kernel
theorem dX7_solve_51 : decode cX7_solve 51 = .ok (.istore_n 3, 1) := by decide +kernel
theorem dX7_solve_52 : decode cX7_solve 52 = .ok (.iload_n 3, 1) := by decide +kernel
theorem dX7_solve_53 : decode cX7_solve 53 = .ok (.ifCond .lt 55, 3) := by decide +kernel
theorem dX7_solve_56 : decode cX7_solve 56 = .ok (.iconst 0, 1) := by decide +kernel
theorem dX7_solve_57 : decode cX7_solve 57 = .ok (.istore 4, 2) := by decide +kernel
theorem dX7_solve_59 : decode cX7_solve 59 = .ok (.iload 4, 2) := by decide +kernel
theorem dX7_solve_61 : decode cX7_solve 61 = .ok (.sipush 256, 3) := by decide +kernel
theorem dX7_solve_64 : decode cX7_solve 64 = .ok (.if_icmp .ge 38, 3) := by decide +kernel
theorem dX7_solve_67 : decode cX7_solve 67 = .ok (.iload 4, 2) := by decide +kernel
theorem dX7_solve_69 : decode cX7_solve 69 = .ok (.invokestatic 25, 3) := by decide +kernel
theorem dX7_solve_72 : decode cX7_solve 72 = .ok (.iload_n 3, 1) := by decide +kernel
theorem dX7_solve_73 : decode cX7_solve 73 = .ok (.if_icmp .gt 23, 3) := by decide +kernel
theorem dX7_solve_76 : decode cX7_solve 76 = .ok (.aload_n 0, 1) := by decide +kernel
theorem dX7_solve_77 : decode cX7_solve 77 = .ok (.getfield 11, 3) := by decide +kernel
theorem dX7_solve_80 : decode cX7_solve 80 = .ok (.iload_n 3, 1) := by decide +kernel
theorem dX7_solve_81 : decode cX7_solve 81 = .ok (.sipush 256, 3) := by decide +kernel
theorem dX7_solve_84 : decode cX7_solve 84 = .ok (.imul, 1) := by decide +kernel
theorem dX7_solve_85 : decode cX7_solve 85 = .ok (.iload 4, 2) := by decide +kernel
theorem dX7_solve_87 : decode cX7_solve 87 = .ok (.iadd, 1) := by decide +kernel
theorem dX7_solve_88 : decode cX7_solve 88 = .ok (.aload_n 0, 1) := by decide +kernel
theorem dX7_solve_89 : decode cX7_solve 89 = .ok (.iload_n 3, 1) := by decide +kernel
theorem dX7_solve_90 : decode cX7_solve 90 = .ok (.iload 4, 2) := by decide +kernel
theorem dX7_solve_92 : decode cX7_solve 92 = .ok (.invokevirtual 31, 3) := by decide +kernel
theorem dX7_solve_95 : decode cX7_solve 95 = .ok (.iastore, 1) := by decide +kernel
theorem dX7_solve_96 : decode cX7_solve 96 = .ok (.iinc 4 1, 3) := by decide +kernel
theorem dX7_solve_99 : decode cX7_solve 99 = .ok (.goto (-40), 3) := by decide +kernel
theorem dX7_solve_102 : decode cX7_solve 102 = .ok (.iinc 3 (-1), 3) := by decide +kernel
theorem dX7_solve_105 : decode cX7_solve 105 = .ok (.goto (-53), 3) := by decide +kernel
theorem dX7_solve_108 : decode cX7_solve 108 = .ok (.aload_n 0, 1) := by decide +kernel
theorem dX7_solve_109 : decode cX7_solve 109 = .ok (.invokevirtual 35, 3) := by decide +kernel
theorem dX7_solve_112 : decode cX7_solve 112 = .ok (.aload_n 0, 1) := by decide +kernel
theorem dX7_solve_113 : decode cX7_solve 113 = .ok (.getfield 11, 3) := by decide +kernel
theorem dX7_solve_116 : decode cX7_solve 116 = .ok (.iconst 0, 1) := by decide +kernel
theorem dX7_solve_117 : decode cX7_solve 117 = .ok (.iaload, 1) := by decide +kernel
theorem dX7_solve_118 : decode cX7_solve 118 = .ok (.ireturn, 1) := by decide +kernel
set_option maxRecDepth 100000 in
set_option maxHeartbeats 200000 in
theorem T_X7_solve_11_s {X : CX} (hX : Ok X cX7_solve 5 RX7 (some .int)) (hdx : dX X = 5) {r : Int32 × Hp} (k1 : Nat) (hk1 : isCity k1) (x3 : Int32) (q_2 : Int32 → Hp → Option (Int32 × Hp)) (hq_2 : ∀ (x3 : Int32) (h : Hp), q_2 x3 h = some r → J X ((.inl (some (.int r.1)), r.2)) 2 [(0, .ref 19), (1, .ref k1), (2, .ref 5), (3, .int x3)] [] h) (q_11 : Int32 → Hp → Option (Int32 × Hp)) (hq_11 : ∀ (x4 : Int32) (h : Hp), q_11 x4 h = some r → J X ((.inl (some (.int r.1)), r.2)) 11 [(0, .ref 19), (1, .ref k1), (2, .ref 5), (3, .int x3), (4, .int x4)] [] h) (x4 : Int32) (h : Hp) (hf : S_X7_solve_11 q_2 k1 x3 q_11 x4 h = some r) : J X ((.inl (some (.int r.1)), r.2)) 11 [(0, .ref 19), (1, .ref k1), (2, .ref 5), (3, .int x3), (4, .int x4)] [] h := by
  unfold S_X7_solve_11 at hf
  refine J_iload hX 4 dX7_solve_11 rfl ?_
  refine J_bipush hX 8 dX7_solve_13 rfl ?_
  rcases ifE hf with ⟨c_1, hf⟩ | ⟨c_1, hf⟩
  · refine J_icmp_geF hX 44 dX7_solve_15 rfl c_1 ?_
    refine J_aload_n hX 0 dX7_solve_18 rfl rfl ?_
    refine J_getR hX 21 dX7_solve_19 fl_X7_15 ob_19 rfl rfl ?_
    refine J_iload_n hX 3 dX7_solve_22 rfl rfl ?_
    refine J_bipush hX 8 dX7_solve_23 rfl ?_
    refine J_imul hX dX7_solve_25 ?_
    refine J_iload hX 4 dX7_solve_26 rfl ?_
    refine J_iadd hX dX7_solve_28 ?_
    refine J_aload_n hX 1 dX7_solve_29 rfl rfl ?_
    refine J_aload_n hX 2 dX7_solve_30 rfl rfl ?_
    refine J_iload_n hX 3 dX7_solve_31 rfl rfl ?_
    refine J_iload hX 4 dX7_solve_32 rfl ?_
    obtain ⟨r_2, e_3, hf⟩ := bdE hf
    refine S_1 hX [.ref k1, .ref 5, .int x3, .int x4] dX7_solve_34 cw_X7_21 (C_X7_gain (okG hX) hk1 e_3) (ltD hdx rfl) rfl rfl rfl rfl ?_
    obtain ⟨g_4, hf⟩ := gdE hf
    obtain ⟨h_5, e_6, hf⟩ := bndE hf
    refine J_ast hX (((x3 * 8) + x4).toNatClampNeg) r_2 dX7_solve_37 ar_21 (Or.inl ⟨rfl, rfl, rfl⟩) g_4 rfl ?_
    refine J_nmh e_6 ?_
    refine J_iinc hX (x4 + 1) 4 [(4, .int (x4 + 1)), (0, .ref 19), (1, .ref k1), (2, .ref 5), (3, .int x3)] dX7_solve_38 rfl rfl rfl rfl ?_
    refine J_goto hX 11 dX7_solve_41 rfl ?_
    refine J_sub [1, 2, 3, 4, 0] [(0, .ref 19), (1, .ref k1), (2, .ref 5), (3, .int x3), (4, .int (x4 + 1))] rfl ?_
    exact hq_11 (x4 + 1) h_5 hf
  · refine J_icmp_geT hX 44 dX7_solve_15 rfl c_1 ?_
    refine J_iinc hX (x3 + 1) 3 [(3, .int (x3 + 1)), (0, .ref 19), (1, .ref k1), (2, .ref 5), (4, .int x4)] dX7_solve_44 rfl rfl rfl rfl ?_
    refine J_goto hX 2 dX7_solve_47 rfl ?_
    refine J_sub [1, 2, 3, 0] [(0, .ref 19), (1, .ref k1), (2, .ref 5), (3, .int (x3 + 1))] rfl ?_
    exact hq_2 (x3 + 1) h hf
set_option maxRecDepth 100000 in
set_option maxHeartbeats 200000 in
theorem T_X7_solve_11 {X : CX} (hX : Ok X cX7_solve 5 RX7 (some .int)) (hdx : dX X = 5) {r : Int32 × Hp} (k1 : Nat) (hk1 : isCity k1) (x3 : Int32) (q_2 : Int32 → Hp → Option (Int32 × Hp)) (hq_2 : ∀ (x3 : Int32) (h : Hp), q_2 x3 h = some r → J X ((.inl (some (.int r.1)), r.2)) 2 [(0, .ref 19), (1, .ref k1), (2, .ref 5), (3, .int x3)] [] h) : ∀ (n : Nat) (x4 : Int32) (h : Hp), F_X7_solve_11 q_2 k1 x3 n x4 h = some r → J X ((.inl (some (.int r.1)), r.2)) 11 [(0, .ref 19), (1, .ref k1), (2, .ref 5), (3, .int x3), (4, .int x4)] [] h := by
  intro n
  induction n with
  | zero => intro x4 h hf; exact nomatch hf
  | succ n ih => intro x4 h hf; exact T_X7_solve_11_s hX hdx k1 hk1 x3 q_2 hq_2 _ (fun x4 h hf => ih x4 h hf) x4 h hf
set_option maxRecDepth 100000 in
set_option maxHeartbeats 200000 in
theorem T_X7_solve_59_s {X : CX} (hX : Ok X cX7_solve 5 RX7 (some .int)) (hdx : dX X = 5) {r : Int32 × Hp} (x3 : Int32) (q_52 : Int32 → Hp → Option (Int32 × Hp)) (hq_52 : ∀ (x3 : Int32) (h : Hp), q_52 x3 h = some r → J X ((.inl (some (.int r.1)), r.2)) 52 [(0, .ref 19), (3, .int x3)] [] h) (q_59 : Int32 → Hp → Option (Int32 × Hp)) (hq_59 : ∀ (x4 : Int32) (h : Hp), q_59 x4 h = some r → J X ((.inl (some (.int r.1)), r.2)) 59 [(0, .ref 19), (3, .int x3), (4, .int x4)] [] h) (x4 : Int32) (h : Hp) (hf : S_X7_solve_59 q_52 x3 q_59 x4 h = some r) : J X ((.inl (some (.int r.1)), r.2)) 59 [(0, .ref 19), (3, .int x3), (4, .int x4)] [] h := by
  unfold S_X7_solve_59 at hf
  refine J_iload hX 2 dX7_solve_59 rfl ?_
  refine J_sipush hX 256 dX7_solve_61 rfl ?_
  rcases ifE hf with ⟨c_1, hf⟩ | ⟨c_1, hf⟩
  · refine J_icmp_geF hX 102 dX7_solve_64 rfl c_1 ?_
    refine J_iload hX 2 dX7_solve_67 rfl ?_
    refine S_1 hX [.int x4] dX7_solve_69 cw_X7_25 (C_J6_bitCount_0f7a4 (okG hX) rfl) (ltD hdx rfl) rfl rfl rfl rfl ?_
    refine J_iload_n hX 1 dX7_solve_72 rfl rfl ?_
    rcases ifE hf with ⟨c_2, hf⟩ | ⟨c_2, hf⟩
    · refine J_icmp_gtT hX 96 dX7_solve_73 rfl c_2 ?_
      refine J_iinc hX (x4 + 1) 2 [(4, .int (x4 + 1)), (0, .ref 19), (3, .int x3)] dX7_solve_96 rfl rfl rfl rfl ?_
      refine J_goto hX 59 dX7_solve_99 rfl ?_
      refine J_sub [1, 2, 0] [(0, .ref 19), (3, .int x3), (4, .int (x4 + 1))] rfl ?_
      exact hq_59 (x4 + 1) h hf
    · refine J_icmp_gtF hX 96 dX7_solve_73 rfl c_2 ?_
      refine J_aload_n hX 0 dX7_solve_76 rfl rfl ?_
      refine J_getR hX 20 dX7_solve_77 fl_X7_11 ob_19 rfl rfl ?_
      refine J_iload_n hX 1 dX7_solve_80 rfl rfl ?_
      refine J_sipush hX 256 dX7_solve_81 rfl ?_
      refine J_imul hX dX7_solve_84 ?_
      refine J_iload hX 2 dX7_solve_85 rfl ?_
      refine J_iadd hX dX7_solve_87 ?_
      refine J_aload_n hX 0 dX7_solve_88 rfl rfl ?_
      refine J_iload_n hX 1 dX7_solve_89 rfl rfl ?_
      refine J_iload hX 2 dX7_solve_90 rfl ?_
      obtain ⟨r_3, e_4, hf⟩ := bdE hf
      refine V_1 hX [.int x3, .int x4] dX7_solve_92 cw_X7_31 ob_19 rfl (C_X7_mostOf (okG hX) e_4) (ltD hdx rfl) rfl rfl rfl rfl ?_
      obtain ⟨g_5, hf⟩ := gdE hf
      obtain ⟨h_6, e_7, hf⟩ := bndE hf
      refine J_ast hX (((x3 * 256) + x4).toNatClampNeg) r_3 dX7_solve_95 ar_20 (Or.inl ⟨rfl, rfl, rfl⟩) g_5 rfl ?_
      refine J_nmh e_7 ?_
      refine J_iinc hX (x4 + 1) 2 [(4, .int (x4 + 1)), (0, .ref 19), (3, .int x3)] dX7_solve_96 rfl rfl rfl rfl ?_
      refine J_goto hX 59 dX7_solve_99 rfl ?_
      refine J_sub [1, 2, 0] [(0, .ref 19), (3, .int x3), (4, .int (x4 + 1))] rfl ?_
      exact hq_59 (x4 + 1) h_6 hf
  · refine J_icmp_geT hX 102 dX7_solve_64 rfl c_1 ?_
    refine J_iinc hX (x3 + (-1)) 1 [(3, .int (x3 + (-1))), (0, .ref 19), (4, .int x4)] dX7_solve_102 rfl rfl rfl rfl ?_
    refine J_goto hX 52 dX7_solve_105 rfl ?_
    refine J_sub [1, 0] [(0, .ref 19), (3, .int (x3 + (-1)))] rfl ?_
    exact hq_52 (x3 + (-1)) h hf
set_option maxRecDepth 100000 in
set_option maxHeartbeats 200000 in
theorem T_X7_solve_59 {X : CX} (hX : Ok X cX7_solve 5 RX7 (some .int)) (hdx : dX X = 5) {r : Int32 × Hp} (x3 : Int32) (q_52 : Int32 → Hp → Option (Int32 × Hp)) (hq_52 : ∀ (x3 : Int32) (h : Hp), q_52 x3 h = some r → J X ((.inl (some (.int r.1)), r.2)) 52 [(0, .ref 19), (3, .int x3)] [] h) : ∀ (n : Nat) (x4 : Int32) (h : Hp), F_X7_solve_59 q_52 x3 n x4 h = some r → J X ((.inl (some (.int r.1)), r.2)) 59 [(0, .ref 19), (3, .int x3), (4, .int x4)] [] h := by
  intro n
  induction n with
  | zero => intro x4 h hf; exact nomatch hf
  | succ n ih => intro x4 h hf; exact T_X7_solve_59_s hX hdx x3 q_52 hq_52 _ (fun x4 h hf => ih x4 h hf) x4 h hf
set_option maxRecDepth 100000 in
set_option maxHeartbeats 200000 in
theorem T_X7_solve_52_s {X : CX} (hX : Ok X cX7_solve 5 RX7 (some .int)) (hdx : dX X = 5) {r : Int32 × Hp} (q_52 : Int32 → Hp → Option (Int32 × Hp)) (hq_52 : ∀ (x3 : Int32) (h : Hp), q_52 x3 h = some r → J X ((.inl (some (.int r.1)), r.2)) 52 [(0, .ref 19), (3, .int x3)] [] h) (x3 : Int32) (h : Hp) (hf : S_X7_solve_52 q_52 x3 h = some r) : J X ((.inl (some (.int r.1)), r.2)) 52 [(0, .ref 19), (3, .int x3)] [] h := by
  unfold S_X7_solve_52 at hf
  refine J_iload_n hX 1 dX7_solve_52 rfl rfl ?_
  rcases ifE hf with ⟨c_1, hf⟩ | ⟨c_1, hf⟩
  · refine J_if_ltT hX 108 dX7_solve_53 rfl c_1 ?_
    refine J_aload_n hX 0 dX7_solve_108 rfl rfl ?_
    obtain ⟨r_2, e_3, hf⟩ := bdE hf
    refine V_0 hX [] dX7_solve_109 cw_X7_35 ob_19 rfl (C_X7_placeAll (okG hX) e_3) (ltD hdx rfl) rfl rfl rfl rfl ?_
    refine J_aload_n hX 0 dX7_solve_112 rfl rfl ?_
    refine J_getR hX 20 dX7_solve_113 fl_X7_11 ob_19 rfl rfl ?_
    refine J_iconst hX 0 dX7_solve_116 rfl ?_
    refine J_ald hX 0 dX7_solve_117 ar_20 (Or.inl ⟨rfl, rfl⟩) (by decide) (by decide) ?_
    exact E_Ii hX dX7_solve_118 hf
  · refine J_if_ltF hX 108 dX7_solve_53 rfl c_1 ?_
    refine J_iconst hX 0 dX7_solve_56 rfl ?_
    refine J_istore hX [(4, .int 0), (0, .ref 19), (3, .int x3)] dX7_solve_57 rfl rfl ?_
    refine J_sub [1, 2, 0] [(0, .ref 19), (3, .int x3), (4, .int 0)] rfl ?_
    exact T_X7_solve_59 hX hdx x3 q_52 hq_52 FU 0 h hf
set_option maxRecDepth 100000 in
set_option maxHeartbeats 200000 in
theorem T_X7_solve_52 {X : CX} (hX : Ok X cX7_solve 5 RX7 (some .int)) (hdx : dX X = 5) {r : Int32 × Hp} : ∀ (n : Nat) (x3 : Int32) (h : Hp), F_X7_solve_52 n x3 h = some r → J X ((.inl (some (.int r.1)), r.2)) 52 [(0, .ref 19), (3, .int x3)] [] h := by
  intro n
  induction n with
  | zero => intro x3 h hf; exact nomatch hf
  | succ n ih => intro x3 h hf; exact T_X7_solve_52_s hX hdx _ (fun x3 h hf => ih x3 h hf) x3 h hf
set_option maxRecDepth 100000 in
set_option maxHeartbeats 200000 in
theorem T_X7_solve_2_s {X : CX} (hX : Ok X cX7_solve 5 RX7 (some .int)) (hdx : dX X = 5) {r : Int32 × Hp} (k1 : Nat) (hk1 : isCity k1) (q_2 : Int32 → Hp → Option (Int32 × Hp)) (hq_2 : ∀ (x3 : Int32) (h : Hp), q_2 x3 h = some r → J X ((.inl (some (.int r.1)), r.2)) 2 [(0, .ref 19), (1, .ref k1), (2, .ref 5), (3, .int x3)] [] h) (x3 : Int32) (h : Hp) (hf : S_X7_solve_2 k1 q_2 x3 h = some r) : J X ((.inl (some (.int r.1)), r.2)) 2 [(0, .ref 19), (1, .ref k1), (2, .ref 5), (3, .int x3)] [] h := by
  unfold S_X7_solve_2 at hf
  refine J_iload_n hX 3 dX7_solve_2 rfl rfl ?_
  refine J_bipush hX 6 dX7_solve_3 rfl ?_
  rcases ifE hf with ⟨c_1, hf⟩ | ⟨c_1, hf⟩
  · refine J_icmp_geF hX 50 dX7_solve_5 rfl c_1 ?_
    refine J_iconst hX 0 dX7_solve_8 rfl ?_
    refine J_istore hX [(4, .int 0), (0, .ref 19), (1, .ref k1), (2, .ref 5), (3, .int x3)] dX7_solve_9 rfl rfl ?_
    refine J_sub [1, 2, 3, 4, 0] [(0, .ref 19), (1, .ref k1), (2, .ref 5), (3, .int x3), (4, .int 0)] rfl ?_
    exact T_X7_solve_11 hX hdx k1 hk1 x3 q_2 hq_2 FU 0 h hf
  · refine J_icmp_geT hX 50 dX7_solve_5 rfl c_1 ?_
    refine J_iconst hX 5 dX7_solve_50 rfl ?_
    refine J_istore_n hX [(3, .int 5), (0, .ref 19), (1, .ref k1), (2, .ref 5)] dX7_solve_51 rfl rfl rfl ?_
    refine J_sub [1, 0] [(0, .ref 19), (3, .int 5)] rfl ?_
    exact T_X7_solve_52 hX hdx FU 5 h hf
set_option maxRecDepth 100000 in
set_option maxHeartbeats 200000 in
theorem T_X7_solve_2 {X : CX} (hX : Ok X cX7_solve 5 RX7 (some .int)) (hdx : dX X = 5) {r : Int32 × Hp} (k1 : Nat) (hk1 : isCity k1) : ∀ (n : Nat) (x3 : Int32) (h : Hp), F_X7_solve_2 k1 n x3 h = some r → J X ((.inl (some (.int r.1)), r.2)) 2 [(0, .ref 19), (1, .ref k1), (2, .ref 5), (3, .int x3)] [] h := by
  intro n
  induction n with
  | zero => intro x3 h hf; exact nomatch hf
  | succ n ih => intro x3 h hf; exact T_X7_solve_2_s hX hdx k1 hk1 _ (fun x3 h hf => ih x3 h hf) x3 h hf
set_option maxRecDepth 100000 in
set_option maxHeartbeats 200000 in
theorem T_X7_solve_0 {X : CX} (hX : Ok X cX7_solve 5 RX7 (some .int)) (hdx : dX X = 5) {r : Int32 × Hp} (k1 : Nat) (hk1 : isCity k1) (h : Hp) (hf : f_X7_solve k1 h = some r) : J X ((.inl (some (.int r.1)), r.2)) 0 [(0, .ref 19), (1, .ref k1), (2, .ref 5)] [] h := by
  unfold f_X7_solve at hf
  refine J_iconst hX 0 dX7_solve_0 rfl ?_
  refine J_istore_n hX [(3, .int 0), (0, .ref 19), (1, .ref k1), (2, .ref 5)] dX7_solve_1 rfl rfl rfl ?_
  refine J_sub [1, 2, 3, 0] [(0, .ref 19), (1, .ref k1), (2, .ref 5), (3, .int 0)] rfl ?_
  exact T_X7_solve_2 hX hdx k1 hk1 FU 0 h hf
set_option maxRecDepth 100000 in
set_option maxHeartbeats 200000 in
theorem C_X7_solve {G : GX} (hG : GOk G) {k1 : Nat} {h : Hp} {r : Int32 × Hp} (hk1 : isCity k1) (hf : f_X7_solve k1 h = some r) : Ctr G 5 yX7_solve cX7_solve 5 (some .int) [.ref 19, .ref k1, .ref 5] h ((.inl (some (.int r.1)), r.2)) :=
  Ctr_of hG RX7 rfl (by decide) rfl (fun X _ hdx hX => T_X7_solve_0 hX hdx k1 hk1 h hf)
theorem dX7_placeOf_0 : decode cX7_placeOf 0 = .ok (.iload_n 1, 1) := by decide +kernel
theorem dX7_placeOf_1 : decode cX7_placeOf 1 = .ok (.ifCond .lt 18, 3) := by decide +kernel
theorem dX7_placeOf_4 : decode cX7_placeOf 4 = .ok (.iload_n 1, 1) := by decide +kernel
theorem dX7_placeOf_5 : decode cX7_placeOf 5 = .ok (.bipush 6, 2) := by decide +kernel
theorem dX7_placeOf_7 : decode cX7_placeOf 7 = .ok (.if_icmp .ge 12, 3) := by decide +kernel
theorem dX7_placeOf_10 : decode cX7_placeOf 10 = .ok (.aload_n 0, 1) := by decide +kernel
theorem dX7_placeOf_11 : decode cX7_placeOf 11 = .ok (.getfield 18, 3) := by decide +kernel
theorem dX7_placeOf_14 : decode cX7_placeOf 14 = .ok (.iload_n 1, 1) := by decide +kernel
theorem dX7_placeOf_15 : decode cX7_placeOf 15 = .ok (.iaload, 1) := by decide +kernel
theorem dX7_placeOf_16 : decode cX7_placeOf 16 = .ok (.goto 4, 3) := by decide +kernel
theorem dX7_placeOf_19 : decode cX7_placeOf 19 = .ok (.iconst (-1), 1) := by decide +kernel
theorem dX7_placeOf_20 : decode cX7_placeOf 20 = .ok (.ireturn, 1) := by decide +kernel
set_option maxRecDepth 100000 in
set_option maxHeartbeats 200000 in
theorem T_X7_placeOf_0 {X : CX} (hX : Ok X cX7_placeOf 2 RX7 (some .int)) (hdx : dX X = 2) {r : Int32} (x1 : Int32) (h : Hp) (hf : f_X7_placeOf x1 h = some r) : J X ((.inl (some (.int r)), h)) 0 [(0, .ref 19), (1, .int x1)] [] h := by
  unfold f_X7_placeOf at hf
  refine J_iload_n hX 1 dX7_placeOf_0 rfl rfl ?_
  rcases ifE hf with ⟨c_1, hf⟩ | ⟨c_1, hf⟩
  · refine J_if_ltT hX 19 dX7_placeOf_1 rfl c_1 ?_
    refine J_iconst hX (-1) dX7_placeOf_19 rfl ?_
    exact E_Ip hX dX7_placeOf_20 hf
  · refine J_if_ltF hX 19 dX7_placeOf_1 rfl c_1 ?_
    refine J_iload_n hX 1 dX7_placeOf_4 rfl rfl ?_
    refine J_bipush hX 6 dX7_placeOf_5 rfl ?_
    rcases ifE hf with ⟨c_2, hf⟩ | ⟨c_2, hf⟩
    · refine J_icmp_geF hX 19 dX7_placeOf_7 rfl c_2 ?_
      refine J_aload_n hX 0 dX7_placeOf_10 rfl rfl ?_
      refine J_getR hX 22 dX7_placeOf_11 fl_X7_18 ob_19 rfl rfl ?_
      refine J_iload_n hX 1 dX7_placeOf_14 rfl rfl ?_
      obtain ⟨g_3, hf⟩ := gdE hf
      refine J_ald hX x1.toNatClampNeg dX7_placeOf_15 ar_22 (Or.inl ⟨rfl, rfl⟩) g_3 rfl ?_
      refine J_goto hX 20 dX7_placeOf_16 rfl ?_
      exact E_Ip hX dX7_placeOf_20 hf
    · refine J_icmp_geT hX 19 dX7_placeOf_7 rfl c_2 ?_
      refine J_iconst hX (-1) dX7_placeOf_19 rfl ?_
      exact E_Ip hX dX7_placeOf_20 hf
set_option maxRecDepth 100000 in
set_option maxHeartbeats 200000 in
theorem C_X7_placeOf {G : GX} (hG : GOk G) {x1 : Int32} {h : Hp} {r : Int32} (hf : f_X7_placeOf x1 h = some r) : Ctr G 2 yX7_placeOf cX7_placeOf 2 (some .int) [.ref 19, .int x1] h ((.inl (some (.int r)), h)) :=
  Ctr_of hG RX7 rfl (by decide) rfl (fun X _ hdx hX => T_X7_placeOf_0 hX hdx x1 h hf)
theorem dX8_keep_0 : decode cX8_keep 0 = .ok (.iload_n 1, 1) := by decide +kernel
theorem dX8_keep_1 : decode cX8_keep 1 = .ok (.aload_n 0, 1) := by decide +kernel
theorem dX8_keep_2 : decode cX8_keep 2 = .ok (.getfield 25, 3) := by decide +kernel
theorem dX8_keep_5 : decode cX8_keep 5 = .ok (.if_icmp .le 22, 3) := by decide +kernel
theorem dX8_keep_8 : decode cX8_keep 8 = .ok (.aload_n 0, 1) := by decide +kernel
theorem dX8_keep_9 : decode cX8_keep 9 = .ok (.iload_n 1, 1) := by decide +kernel
theorem dX8_keep_10 : decode cX8_keep 10 = .ok (.putfield 25, 3) := by decide +kernel
theorem dX8_keep_13 : decode cX8_keep 13 = .ok (.aload_n 0, 1) := by decide +kernel
theorem dX8_keep_14 : decode cX8_keep 14 = .ok (.getfield 21, 3) := by decide +kernel
theorem dX8_keep_17 : decode cX8_keep 17 = .ok (.iconst 0, 1) := by decide +kernel
theorem dX8_keep_18 : decode cX8_keep 18 = .ok (.aload_n 0, 1) := by decide +kernel
theorem dX8_keep_19 : decode cX8_keep 19 = .ok (.getfield 9, 3) := by decide +kernel
theorem dX8_keep_22 : decode cX8_keep 22 = .ok (.iconst 0, 1) := by decide +kernel
theorem dX8_keep_23 : decode cX8_keep 23 = .ok (.iconst 5, 1) := by decide +kernel
theorem dX8_keep_24 : decode cX8_keep 24 = .ok (.invokestatic 63, 3) := by decide +kernel
theorem dX8_keep_27 : decode cX8_keep 27 = .ok (.return_, 1) := by decide +kernel
set_option maxRecDepth 100000 in
set_option maxHeartbeats 200000 in
theorem T_X8_keep_0 {X : CX} (hX : Ok X cX8_keep 2 RX8 none) (hdx : dX X = 2) {r : Hp} (x1 : Int32) (h : Hp) (hf : f_X8_keep x1 h = some r) : J X ((.inl none, r)) 0 [(0, .ref 15), (1, .int x1)] [] h := by
  unfold f_X8_keep at hf
  refine J_iload_n hX 1 dX8_keep_0 rfl rfl ?_
  refine J_aload_n hX 0 dX8_keep_1 rfl rfl ?_
  refine J_getI hX dX8_keep_2 fl_X8_25 ob_15 rfl ?_
  rcases ifE hf with ⟨c_1, hf⟩ | ⟨c_1, hf⟩
  · refine J_icmp_leF hX 27 dX8_keep_5 rfl c_1 ?_
    refine J_aload_n hX 0 dX8_keep_8 rfl rfl ?_
    refine J_iload_n hX 1 dX8_keep_9 rfl rfl ?_
    obtain ⟨h_2, e_3, hf⟩ := bndE hf
    refine J_putI hX dX8_keep_10 fl_X8_25 fw_6_1 ob_15 rfl rfl rfl ?_
    refine J_nmh e_3 ?_
    refine J_aload_n hX 0 dX8_keep_13 rfl rfl ?_
    refine J_getR hX 18 dX8_keep_14 fl_X8_21 ob_15 rfl rfl ?_
    refine J_iconst hX 0 dX8_keep_17 rfl ?_
    refine J_aload_n hX 0 dX8_keep_18 rfl rfl ?_
    refine J_getR hX 16 dX8_keep_19 fl_X8_9 ob_15 rfl rfl ?_
    refine J_iconst hX 0 dX8_keep_22 rfl ?_
    refine J_iconst hX 5 dX8_keep_23 rfl ?_
    obtain ⟨h_4, e_5, hf⟩ := bndE hf
    refine J_copy hX 0 0 5 dX8_keep_24 aw_X8_63 ar_18 ar_16 (by decide) (by decide) (by decide) (by decide) (by decide) (by decide) (by decide) (by decide) (ltD hdx rfl) rfl ?_
    refine J_nmh e_5 ?_
    exact E_Vi hX dX8_keep_27 hf
  · refine J_icmp_leT hX 27 dX8_keep_5 rfl c_1 ?_
    exact E_Vi hX dX8_keep_27 hf
set_option maxRecDepth 100000 in
set_option maxHeartbeats 200000 in
theorem C_X8_keep {G : GX} (hG : GOk G) {x1 : Int32} {h : Hp} {r : Hp} (hf : f_X8_keep x1 h = some r) : Ctr G 2 yX8_keep cX8_keep 2 none [.ref 15, .int x1] h ((.inl none, r)) :=
  Ctr_of hG RX8 rfl (by decide) rfl (fun X _ hdx hX => T_X8_keep_0 hX hdx x1 h hf)
theorem dX8_search_0 : decode cX8_search 0 = .ok (.iload_n 3, 1) := by decide +kernel
theorem dX8_search_1 : decode cX8_search 1 = .ok (.ifCond .ne 10, 3) := by decide +kernel
theorem dX8_search_4 : decode cX8_search 4 = .ok (.aload_n 0, 1) := by decide +kernel
theorem dX8_search_5 : decode cX8_search 5 = .ok (.iload 5, 2) := by decide +kernel
theorem dX8_search_7 : decode cX8_search 7 = .ok (.invokevirtual 37, 3) := by decide +kernel
theorem dX8_search_10 : decode cX8_search 10 = .ok (.return_, 1) := by decide +kernel
theorem dX8_search_11 : decode cX8_search 11 = .ok (.iload 4, 2) := by decide +kernel
theorem dX8_search_13 : decode cX8_search 13 = .ok (.ifCond .lt 9, 3) := by decide +kernel
theorem dX8_search_16 : decode cX8_search 16 = .ok (.iload 4, 2) := by decide +kernel
theorem dX8_search_18 : decode cX8_search 18 = .ok (.iconst 5, 1) := by decide +kernel
theorem dX8_search_19 : decode cX8_search 19 = .ok (.if_icmp .lt 4, 3) := by decide +kernel
theorem dX8_search_22 : decode cX8_search 22 = .ok (.return_, 1) := by decide +kernel
theorem dX8_search_23 : decode cX8_search 23 = .ok (.aload_n 0, 1) := by decide +kernel
theorem dX8_search_24 : decode cX8_search 24 = .ok (.getfield 17, 3) := by decide +kernel
theorem dX8_search_27 : decode cX8_search 27 = .ok (.iload 4, 2) := by decide +kernel
theorem dX8_search_29 : decode cX8_search 29 = .ok (.aaload, 1) := by decide +kernel
theorem dX8_search_30 : decode cX8_search 30 = .ok (.astore 6, 2) := by decide +kernel
theorem dX8_search_32 : decode cX8_search 32 = .ok (.aload_n 0, 1) := by decide +kernel
theorem dX8_search_33 : decode cX8_search 33 = .ok (.getfield 17, 3) := by decide +kernel
theorem dX8_search_36 : decode cX8_search 36 = .ok (.iload 4, 2) := by decide +kernel
theorem dX8_search_38 : decode cX8_search 38 = .ok (.iconst 1, 1) := by decide +kernel
theorem dX8_search_39 : decode cX8_search 39 = .ok (.iadd, 1) := by decide +kernel
theorem dX8_search_40 : decode cX8_search 40 = .ok (.aaload, 1) := by decide +kernel
theorem dX8_search_41 : decode cX8_search 41 = .ok (.astore 7, 2) := by decide +kernel
theorem dX8_search_43 : decode cX8_search 43 = .ok (.aload 6, 2) := by decide +kernel
theorem dX8_search_45 : decode cX8_search 45 = .ok (.ifnull 8, 3) := by decide +kernel
theorem dX8_search_48 : decode cX8_search 48 = .ok (.aload 7, 2) := by decide +kernel
theorem dX8_search_50 : decode cX8_search 50 = .ok (.ifnonnull 4, 3) := by decide +kernel
theorem dX8_search_53 : decode cX8_search 53 = .ok (.return_, 1) := by decide +kernel
theorem dX8_search_54 : decode cX8_search 54 = .ok (.iconst 0, 1) := by decide +kernel
theorem dX8_search_55 : decode cX8_search 55 = .ok (.istore 8, 2) := by decide +kernel
theorem dX8_search_57 : decode cX8_search 57 = .ok (.iload 8, 2) := by decide +kernel
theorem dX8_search_59 : decode cX8_search 59 = .ok (.bipush 8, 2) := by decide +kernel
theorem dX8_search_61 : decode cX8_search 61 = .ok (.if_icmp .ge 100, 3) := by decide +kernel
theorem dX8_search_64 : decode cX8_search 64 = .ok (.iload_n 3, 1) := by decide +kernel
theorem dX8_search_65 : decode cX8_search 65 = .ok (.iload 8, 2) := by decide +kernel
theorem dX8_search_67 : decode cX8_search 67 = .ok (.ishr, 1) := by decide +kernel
theorem dX8_search_68 : decode cX8_search 68 = .ok (.iconst 1, 1) := by decide +kernel
theorem dX8_search_69 : decode cX8_search 69 = .ok (.iand, 1) := by decide +kernel
theorem dX8_search_70 : decode cX8_search 70 = .ok (.iconst 1, 1) := by decide +kernel
theorem dX8_search_71 : decode cX8_search 71 = .ok (.if_icmp .ne 84, 3) := by decide +kernel
theorem dX8_search_74 : decode cX8_search 74 = .ok (.iconst 0, 1) := by decide +kernel
theorem dX8_search_75 : decode cX8_search 75 = .ok (.istore 9, 2) := by decide +kernel
theorem dX8_search_77 : decode cX8_search 77 = .ok (.aload 7, 2) := by decide +kernel
theorem dX8_search_79 : decode cX8_search 79 = .ok (.aload 6, 2) := by decide +kernel
theorem dX8_search_81 : decode cX8_search 81 = .ok (.invokevirtual 29, 3) := by decide +kernel
theorem dX8_search_84 : decode cX8_search 84 = .ok (.aload 7, 2) := by decide +kernel
theorem dX8_search_86 : decode cX8_search 86 = .ok (.iload 8, 2) := by decide +kernel
theorem dX8_search_88 : decode cX8_search 88 = .ok (.invokevirtual 41, 3) := by decide +kernel
theorem dX8_search_91 : decode cX8_search 91 = .ok (.ifCond .eq 29, 3) := by decide +kernel
theorem dX8_search_94 : decode cX8_search 94 = .ok (.aload 7, 2) := by decide +kernel
theorem dX8_search_96 : decode cX8_search 96 = .ok (.iload 8, 2) := by decide +kernel
theorem dX8_search_98 : decode cX8_search 98 = .ok (.invokevirtual 45, 3) := by decide +kernel
theorem dX8_search_101 : decode cX8_search 101 = .ok (.iconst 1, 1) := by decide +kernel
theorem dX8_search_102 : decode cX8_search 102 = .ok (.aload_n 2, 1) := by decide +kernel
theorem dX8_search_103 : decode cX8_search 103 = .ok (.aload 7, 2) := by decide +kernel
theorem dX8_search_105 : decode cX8_search 105 = .ok (.aload_n 1, 1) := by decide +kernel
theorem dX8_search_106 : decode cX8_search 106 = .ok (.aload 7, 2) := by decide +kernel
theorem dX8_search_108 : decode cX8_search 108 = .ok (.getfield 48, 3) := by decide +kernel
theorem dX8_search_111 : decode cX8_search 111 = .ok (.invokevirtual 51, 3) := by decide +kernel
theorem dX8_search_114 : decode cX8_search 114 = .ok (.invokestatic 57, 3) := by decide +kernel
theorem dX8_search_117 : decode cX8_search 117 = .ok (.iadd, 1) := by decide +kernel
theorem dX8_search_118 : decode cX8_search 118 = .ok (.istore 9, 2) := by decide +kernel
theorem dX8_search_120 : decode cX8_search 120 = .ok (.aload_n 0, 1) := by decide +kernel
theorem dX8_search_121 : decode cX8_search 121 = .ok (.getfield 21, 3) := by decide +kernel
theorem dX8_search_124 : decode cX8_search 124 = .ok (.iload 4, 2) := by decide +kernel
theorem dX8_search_126 : decode cX8_search 126 = .ok (.iload 8, 2) := by decide +kernel
theorem dX8_search_128 : decode cX8_search 128 = .ok (.iastore, 1) := by decide +kernel
theorem dX8_search_129 : decode cX8_search 129 = .ok (.aload_n 0, 1) := by decide +kernel
theorem dX8_search_130 : decode cX8_search 130 = .ok (.aload_n 1, 1) := by decide +kernel
theorem dX8_search_131 : decode cX8_search 131 = .ok (.aload_n 2, 1) := by decide +kernel
theorem dX8_search_132 : decode cX8_search 132 = .ok (.iload_n 3, 1) := by decide +kernel
theorem dX8_search_133 : decode cX8_search 133 = .ok (.iconst 1, 1) := by decide +kernel
theorem dX8_search_134 : decode cX8_search 134 = .ok (.iload 8, 2) := by decide +kernel
theorem dX8_search_136 : decode cX8_search 136 = .ok (.ishl, 1) := by decide +kernel
theorem dX8_search_137 : decode cX8_search 137 = .ok (.iconst (-1), 1) := by decide +kernel
theorem dX8_search_138 : decode cX8_search 138 = .ok (.ixor, 1) := by decide +kernel
theorem dX8_search_139 : decode cX8_search 139 = .ok (.iand, 1) := by decide +kernel
theorem dX8_search_140 : decode cX8_search 140 = .ok (.iload 4, 2) := by decide +kernel
theorem dX8_search_142 : decode cX8_search 142 = .ok (.iconst 1, 1) := by decide +kernel
theorem dX8_search_143 : decode cX8_search 143 = .ok (.iadd, 1) := by decide +kernel
theorem dX8_search_144 : decode cX8_search 144 = .ok (.iload 5, 2) := by decide +kernel
theorem dX8_search_146 : decode cX8_search 146 = .ok (.iload 4, 2) := by decide +kernel
theorem dX8_search_148 : decode cX8_search 148 = .ok (.iload 9, 2) := by decide +kernel
theorem dX8_search_150 : decode cX8_search 150 = .ok (.imul, 1) := by decide +kernel
theorem dX8_search_151 : decode cX8_search 151 = .ok (.iadd, 1) := by decide +kernel
theorem dX8_search_152 : decode cX8_search 152 = .ok (.invokevirtual 33, 3) := by decide +kernel
theorem dX8_search_155 : decode cX8_search 155 = .ok (.iinc 8 1, 3) := by decide +kernel
theorem dX8_search_158 : decode cX8_search 158 = .ok (.goto (-101), 3) := by decide +kernel
theorem dX8_search_161 : decode cX8_search 161 = .ok (.return_, 1) := by decide +kernel
set_option maxRecDepth 100000 in
set_option maxHeartbeats 200000 in
theorem T_X8_search_120 {X : CX} {D : Nat} (hX : Ok X cX8_search 10 RX8 none) (hdx : dX X = D + 3) (hD : 7 ≤ D) (rec : Nat → Int32 → Int32 → Int32 → Hp → Option Hp) (hrec : ∀ (k1 : Nat) (hk1 : isLaw k1) (x3 : Int32) (x4 : Int32) (x5 : Int32) (h : Hp) (r : Hp), rec k1 x3 x4 x5 h = some r → Ctr X.1 D yX8_search cX8_search 10 none [.ref 15, .ref k1, .ref 4, .int x3, .int x4, .int x5] h ((.inl none, r))) {r : Hp} (k1 : Nat) (hk1 : isLaw k1) (x3 : Int32) (x4 : Int32) (x5 : Int32) (k6 : Nat) (hk6 : isCity k6) (k7 : Nat) (hk7 : isCity k7) (x8 : Int32) (x9 : Int32) (q_57 : Int32 → Hp → Option Hp) (hq_57 : ∀ (x8 : Int32) (h : Hp), q_57 x8 h = some r → J X ((.inl none, r)) 57 [(0, .ref 15), (1, .ref k1), (2, .ref 4), (3, .int x3), (4, .int x4), (5, .int x5), (6, .ref k6), (7, .ref k7), (8, .int x8)] [] h) (h : Hp) (hf : F_X8_search_120 rec q_57 k1 x3 x4 x5 k6 k7 x8 x9 h = some r) : J X ((.inl none, r)) 120 [(0, .ref 15), (1, .ref k1), (2, .ref 4), (3, .int x3), (4, .int x4), (5, .int x5), (6, .ref k6), (7, .ref k7), (8, .int x8), (9, .int x9)] [] h := by
  unfold F_X8_search_120 at hf
  refine J_aload_n hX 0 dX8_search_120 rfl rfl ?_
  refine J_getR hX 18 dX8_search_121 fl_X8_21 ob_15 rfl rfl ?_
  refine J_iload hX 4 dX8_search_124 rfl ?_
  refine J_iload hX 8 dX8_search_126 rfl ?_
  obtain ⟨g_1, hf⟩ := gdE hf
  obtain ⟨h_2, e_3, hf⟩ := bndE hf
  refine J_ast hX x4.toNatClampNeg x8 dX8_search_128 ar_18 (Or.inl ⟨rfl, rfl, rfl⟩) g_1 rfl ?_
  refine J_nmh e_3 ?_
  refine J_aload_n hX 0 dX8_search_129 rfl rfl ?_
  refine J_aload_n hX 1 dX8_search_130 rfl rfl ?_
  refine J_aload_n hX 2 dX8_search_131 rfl rfl ?_
  refine J_iload_n hX 3 dX8_search_132 rfl rfl ?_
  refine J_iconst hX 1 dX8_search_133 rfl ?_
  refine J_iload hX 8 dX8_search_134 rfl ?_
  refine J_ishl hX dX8_search_136 ?_
  refine J_iconst hX (-1) dX8_search_137 rfl ?_
  refine J_ixor hX dX8_search_138 ?_
  refine J_iand hX dX8_search_139 ?_
  refine J_iload hX 4 dX8_search_140 rfl ?_
  refine J_iconst hX 1 dX8_search_142 rfl ?_
  refine J_iadd hX dX8_search_143 ?_
  refine J_iload hX 5 dX8_search_144 rfl ?_
  refine J_iload hX 4 dX8_search_146 rfl ?_
  refine J_iload hX 9 dX8_search_148 rfl ?_
  refine J_imul hX dX8_search_150 ?_
  refine J_iadd hX dX8_search_151 ?_
  obtain ⟨r_4, e_5, hf⟩ := bdE hf
  refine V_0 hX [.ref k1, .ref 4, .int (x3 &&& ((shl 1 x8) ^^^ (-1))), .int (x4 + 1), .int (x5 + (x4 * x9))] dX8_search_152 cw_X8_33 ob_15 rfl (hrec k1 hk1 (x3 &&& ((shl 1 x8) ^^^ (-1))) (x4 + 1) (x5 + (x4 * x9)) h_2 _ e_5) (by rw [hdx]; omega) rfl rfl rfl rfl ?_
  refine J_iinc hX (x8 + 1) 8 [(8, .int (x8 + 1)), (0, .ref 15), (1, .ref k1), (2, .ref 4), (3, .int x3), (4, .int x4), (5, .int x5), (6, .ref k6), (7, .ref k7), (9, .int x9)] dX8_search_155 rfl rfl rfl rfl ?_
  refine J_goto hX 57 dX8_search_158 rfl ?_
  refine J_sub [1, 2, 3, 4, 5, 6, 7, 8, 0] [(0, .ref 15), (1, .ref k1), (2, .ref 4), (3, .int x3), (4, .int x4), (5, .int x5), (6, .ref k6), (7, .ref k7), (8, .int (x8 + 1))] rfl ?_
  exact hq_57 (x8 + 1) r_4 hf
set_option maxRecDepth 100000 in
set_option maxHeartbeats 200000 in
theorem T_X8_search_57_s {X : CX} {D : Nat} (hX : Ok X cX8_search 10 RX8 none) (hdx : dX X = D + 3) (hD : 7 ≤ D) (rec : Nat → Int32 → Int32 → Int32 → Hp → Option Hp) (hrec : ∀ (k1 : Nat) (hk1 : isLaw k1) (x3 : Int32) (x4 : Int32) (x5 : Int32) (h : Hp) (r : Hp), rec k1 x3 x4 x5 h = some r → Ctr X.1 D yX8_search cX8_search 10 none [.ref 15, .ref k1, .ref 4, .int x3, .int x4, .int x5] h ((.inl none, r))) {r : Hp} (k1 : Nat) (hk1 : isLaw k1) (x3 : Int32) (x4 : Int32) (x5 : Int32) (k6 : Nat) (hk6 : isCity k6) (k7 : Nat) (hk7 : isCity k7) (q_57 : Int32 → Hp → Option Hp) (hq_57 : ∀ (x8 : Int32) (h : Hp), q_57 x8 h = some r → J X ((.inl none, r)) 57 [(0, .ref 15), (1, .ref k1), (2, .ref 4), (3, .int x3), (4, .int x4), (5, .int x5), (6, .ref k6), (7, .ref k7), (8, .int x8)] [] h) (x8 : Int32) (h : Hp) (hf : S_X8_search_57 rec k1 x3 x4 x5 k6 k7 q_57 x8 h = some r) : J X ((.inl none, r)) 57 [(0, .ref 15), (1, .ref k1), (2, .ref 4), (3, .int x3), (4, .int x4), (5, .int x5), (6, .ref k6), (7, .ref k7), (8, .int x8)] [] h := by
  unfold S_X8_search_57 at hf
  refine J_iload hX 8 dX8_search_57 rfl ?_
  refine J_bipush hX 8 dX8_search_59 rfl ?_
  rcases ifE hf with ⟨c_1, hf⟩ | ⟨c_1, hf⟩
  · refine J_icmp_geF hX 161 dX8_search_61 rfl c_1 ?_
    refine J_iload_n hX 3 dX8_search_64 rfl rfl ?_
    refine J_iload hX 8 dX8_search_65 rfl ?_
    refine J_ishr hX dX8_search_67 ?_
    refine J_iconst hX 1 dX8_search_68 rfl ?_
    refine J_iand hX dX8_search_69 ?_
    refine J_iconst hX 1 dX8_search_70 rfl ?_
    rcases ifE hf with ⟨c_2, hf⟩ | ⟨c_2, hf⟩
    · refine J_icmp_neF hX 155 dX8_search_71 rfl c_2 ?_
      refine J_iconst hX 0 dX8_search_74 rfl ?_
      refine J_istore hX [(9, .int 0), (0, .ref 15), (1, .ref k1), (2, .ref 4), (3, .int x3), (4, .int x4), (5, .int x5), (6, .ref k6), (7, .ref k7), (8, .int x8)] dX8_search_75 rfl rfl ?_
      refine J_aload hX 8 dX8_search_77 rfl ?_
      refine J_aload hX 7 dX8_search_79 rfl ?_
      obtain ⟨r_3, e_4, hf⟩ := bdE hf
      refine V_0 hX [.ref k6] dX8_search_81 cw_X8_29 (city_ob hk7) rfl (C_X1_copyFrom (okG hX) hk7 hk6 e_4) (by rw [hdx]; omega) rfl rfl rfl rfl ?_
      refine J_aload hX 8 dX8_search_84 rfl ?_
      refine J_iload hX 9 dX8_search_86 rfl ?_
      refine V_1 hX [.int x8] dX8_search_88 cw_X8_41 (city_ob hk7) rfl (C_X1_isUp (okG hX) hk7 rfl) (by rw [hdx]; omega) rfl rfl rfl rfl ?_
      rcases ifE hf with ⟨c_5, hf⟩ | ⟨c_5, hf⟩
      · refine J_if_eqF hX 120 dX8_search_91 rfl (b2iT c_5) ?_
        refine J_aload hX 8 dX8_search_94 rfl ?_
        refine J_iload hX 9 dX8_search_96 rfl ?_
        obtain ⟨r_6, e_7, hf⟩ := bdE hf
        refine V_0 hX [.int x8] dX8_search_98 cw_X8_45 (city_ob hk7) rfl (C_X1_takeDown (okG hX) hk7 e_7) (by rw [hdx]; omega) rfl rfl rfl rfl ?_
        refine J_iconst hX 1 dX8_search_101 rfl ?_
        refine J_aload_n hX 3 dX8_search_102 rfl rfl ?_
        refine J_aload hX 8 dX8_search_103 rfl ?_
        refine J_aload_n hX 2 dX8_search_105 rfl rfl ?_
        refine J_aload hX 8 dX8_search_106 rfl ?_
        refine J_getI hX dX8_search_108 fl_X8_48 (city_ob hk7) rfl ?_
        obtain ⟨r_8, e_9, hf⟩ := bdE hf
        refine V_1 hX [.ref k7, .ref k1, .int (r_6 k7 12)] dX8_search_111 cw_X8_51 ob_4 rfl (C_X3_fall (okG hX) hk7 hk1 e_9) (by rw [hdx]; omega) rfl rfl rfl rfl ?_
        refine S_1 hX [.int r_8.1] dX8_search_114 cw_X8_57 (C_J6_bitCount_0f7a4 (okG hX) rfl) (by rw [hdx]; omega) rfl rfl rfl rfl ?_
        refine J_iadd hX dX8_search_117 ?_
        obtain ⟨x9_10, e_11, hf⟩ := bndE hf
        refine J_nm e_11 ?_
        refine J_istore hX [(9, .int x9_10), (0, .ref 15), (1, .ref k1), (2, .ref 4), (3, .int x3), (4, .int x4), (5, .int x5), (6, .ref k6), (7, .ref k7), (8, .int x8)] dX8_search_118 rfl rfl ?_
        refine J_sub [1, 2, 3, 4, 5, 6, 7, 8, 9, 0] [(0, .ref 15), (1, .ref k1), (2, .ref 4), (3, .int x3), (4, .int x4), (5, .int x5), (6, .ref k6), (7, .ref k7), (8, .int x8), (9, .int x9_10)] rfl ?_
        exact T_X8_search_120 hX hdx hD rec hrec k1 hk1 x3 x4 x5 k6 hk6 k7 hk7 x8 x9_10 q_57 hq_57 r_8.2 hf
      · refine J_if_eqT hX 120 dX8_search_91 rfl (b2iF c_5) ?_
        refine J_sub [1, 2, 3, 4, 5, 6, 7, 8, 9, 0] [(0, .ref 15), (1, .ref k1), (2, .ref 4), (3, .int x3), (4, .int x4), (5, .int x5), (6, .ref k6), (7, .ref k7), (8, .int x8), (9, .int 0)] rfl ?_
        exact T_X8_search_120 hX hdx hD rec hrec k1 hk1 x3 x4 x5 k6 hk6 k7 hk7 x8 0 q_57 hq_57 r_3 hf
    · refine J_icmp_neT hX 155 dX8_search_71 rfl c_2 ?_
      refine J_iinc hX (x8 + 1) 8 [(8, .int (x8 + 1)), (0, .ref 15), (1, .ref k1), (2, .ref 4), (3, .int x3), (4, .int x4), (5, .int x5), (6, .ref k6), (7, .ref k7)] dX8_search_155 rfl rfl rfl rfl ?_
      refine J_goto hX 57 dX8_search_158 rfl ?_
      refine J_sub [1, 2, 3, 4, 5, 6, 7, 8, 0] [(0, .ref 15), (1, .ref k1), (2, .ref 4), (3, .int x3), (4, .int x4), (5, .int x5), (6, .ref k6), (7, .ref k7), (8, .int (x8 + 1))] rfl ?_
      exact hq_57 (x8 + 1) h hf
  · refine J_icmp_geT hX 161 dX8_search_61 rfl c_1 ?_
    exact E_Vi hX dX8_search_161 hf
set_option maxRecDepth 100000 in
set_option maxHeartbeats 200000 in
theorem T_X8_search_57 {X : CX} {D : Nat} (hX : Ok X cX8_search 10 RX8 none) (hdx : dX X = D + 3) (hD : 7 ≤ D) (rec : Nat → Int32 → Int32 → Int32 → Hp → Option Hp) (hrec : ∀ (k1 : Nat) (hk1 : isLaw k1) (x3 : Int32) (x4 : Int32) (x5 : Int32) (h : Hp) (r : Hp), rec k1 x3 x4 x5 h = some r → Ctr X.1 D yX8_search cX8_search 10 none [.ref 15, .ref k1, .ref 4, .int x3, .int x4, .int x5] h ((.inl none, r))) {r : Hp} (k1 : Nat) (hk1 : isLaw k1) (x3 : Int32) (x4 : Int32) (x5 : Int32) (k6 : Nat) (hk6 : isCity k6) (k7 : Nat) (hk7 : isCity k7) : ∀ (n : Nat) (x8 : Int32) (h : Hp), F_X8_search_57 rec k1 x3 x4 x5 k6 k7 n x8 h = some r → J X ((.inl none, r)) 57 [(0, .ref 15), (1, .ref k1), (2, .ref 4), (3, .int x3), (4, .int x4), (5, .int x5), (6, .ref k6), (7, .ref k7), (8, .int x8)] [] h := by
  intro n
  induction n with
  | zero => intro x8 h hf; exact nomatch hf
  | succ n ih => intro x8 h hf; exact T_X8_search_57_s hX hdx hD rec hrec k1 hk1 x3 x4 x5 k6 hk6 k7 hk7 _ (fun x8 h hf => ih x8 h hf) x8 h hf
set_option maxRecDepth 100000 in
set_option maxHeartbeats 200000 in
theorem T_X8_search_0 {X : CX} {D : Nat} (hX : Ok X cX8_search 10 RX8 none) (hdx : dX X = D + 3) (hD : 7 ≤ D) (rec : Nat → Int32 → Int32 → Int32 → Hp → Option Hp) (hrec : ∀ (k1 : Nat) (hk1 : isLaw k1) (x3 : Int32) (x4 : Int32) (x5 : Int32) (h : Hp) (r : Hp), rec k1 x3 x4 x5 h = some r → Ctr X.1 D yX8_search cX8_search 10 none [.ref 15, .ref k1, .ref 4, .int x3, .int x4, .int x5] h ((.inl none, r))) {r : Hp} (k1 : Nat) (hk1 : isLaw k1) (x3 : Int32) (x4 : Int32) (x5 : Int32) (h : Hp) (hf : b_X8_search rec k1 x3 x4 x5 h = some r) : J X ((.inl none, r)) 0 [(0, .ref 15), (1, .ref k1), (2, .ref 4), (3, .int x3), (4, .int x4), (5, .int x5)] [] h := by
  unfold b_X8_search at hf
  refine J_iload_n hX 3 dX8_search_0 rfl rfl ?_
  rcases ifE hf with ⟨c_1, hf⟩ | ⟨c_1, hf⟩
  · refine J_if_neF hX 11 dX8_search_1 rfl c_1 ?_
    refine J_aload_n hX 0 dX8_search_4 rfl rfl ?_
    refine J_iload hX 5 dX8_search_5 rfl ?_
    obtain ⟨r_2, e_3, hf⟩ := bdE hf
    refine V_0 hX [.int x5] dX8_search_7 cw_X8_37 ob_15 rfl (C_X8_keep (okG hX) e_3) (by rw [hdx]; omega) rfl rfl rfl rfl ?_
    exact E_Vi hX dX8_search_10 hf
  · refine J_if_neT hX 11 dX8_search_1 rfl c_1 ?_
    refine J_iload hX 4 dX8_search_11 rfl ?_
    rcases ifE hf with ⟨c_4, hf⟩ | ⟨c_4, hf⟩
    · refine J_if_ltT hX 22 dX8_search_13 rfl c_4 ?_
      exact E_Vi hX dX8_search_22 hf
    · refine J_if_ltF hX 22 dX8_search_13 rfl c_4 ?_
      refine J_iload hX 4 dX8_search_16 rfl ?_
      refine J_iconst hX 5 dX8_search_18 rfl ?_
      rcases ifE hf with ⟨c_5, hf⟩ | ⟨c_5, hf⟩
      · refine J_icmp_ltT hX 23 dX8_search_19 rfl c_5 ?_
        refine J_aload_n hX 0 dX8_search_23 rfl rfl ?_
        refine J_getR hX 17 dX8_search_24 fl_X8_17 ob_15 rfl rfl ?_
        refine J_iload hX 4 dX8_search_27 rfl ?_
        obtain ⟨g_6, hf⟩ := gdE hf
        refine J_aald hX (340 + 16 * x4.toNatClampNeg) dX8_search_29 ar_17 g_6 rfl ?_
        refine J_astore hX [(6, .ref (340 + 16 * x4.toNatClampNeg)), (0, .ref 15), (1, .ref k1), (2, .ref 4), (3, .int x3), (4, .int x4), (5, .int x5)] dX8_search_30 rfl rfl ?_
        refine J_aload_n hX 1 dX8_search_32 rfl rfl ?_
        refine J_getR hX 17 dX8_search_33 fl_X8_17 ob_15 rfl rfl ?_
        refine J_iload hX 5 dX8_search_36 rfl ?_
        refine J_iconst hX 1 dX8_search_38 rfl ?_
        refine J_iadd hX dX8_search_39 ?_
        obtain ⟨g_7, hf⟩ := gdE hf
        refine J_aald hX (340 + 16 * (x4 + 1).toNatClampNeg) dX8_search_40 ar_17 g_7 rfl ?_
        refine J_astore hX [(7, .ref (340 + 16 * (x4 + 1).toNatClampNeg)), (6, .ref (340 + 16 * x4.toNatClampNeg)), (0, .ref 15), (1, .ref k1), (2, .ref 4), (3, .int x3), (4, .int x4), (5, .int x5)] dX8_search_41 rfl rfl ?_
        refine J_aload hX 1 dX8_search_43 rfl ?_
        refine J_ifnullF hX dX8_search_45 ?_
        refine J_aload hX 0 dX8_search_48 rfl ?_
        refine J_ifnonnullT hX 54 dX8_search_50 rfl ?_
        refine J_iconst hX 0 dX8_search_54 rfl ?_
        refine J_istore hX [(8, .int 0), (7, .ref (340 + 16 * (x4 + 1).toNatClampNeg)), (6, .ref (340 + 16 * x4.toNatClampNeg)), (0, .ref 15), (1, .ref k1), (2, .ref 4), (3, .int x3), (4, .int x4), (5, .int x5)] dX8_search_55 rfl rfl ?_
        refine J_sub [3, 4, 5, 6, 7, 8, 2, 1, 0] [(0, .ref 15), (1, .ref k1), (2, .ref 4), (3, .int x3), (4, .int x4), (5, .int x5), (6, .ref (340 + 16 * x4.toNatClampNeg)), (7, .ref (340 + 16 * (x4 + 1).toNatClampNeg)), (8, .int 0)] rfl ?_
        exact T_X8_search_57 hX hdx hD rec hrec k1 hk1 x3 x4 x5 (340 + 16 * x4.toNatClampNeg) (cityRel17 g_6) (340 + 16 * (x4 + 1).toNatClampNeg) (cityRel17 g_7) FU 0 h hf
      · refine J_icmp_ltF hX 23 dX8_search_19 rfl c_5 ?_
        exact E_Vi hX dX8_search_22 hf
set_option maxRecDepth 100000 in
set_option maxHeartbeats 200000 in
theorem C_X8_search {G : GX} (hG : GOk G) : ∀ (n : Nat) (k1 : Nat) (hk1 : isLaw k1) (x3 : Int32) (x4 : Int32) (x5 : Int32) (h : Hp) (r : Hp), f_X8_search n k1 x3 x4 x5 h = some r → Ctr G (7 + 3 * n) yX8_search cX8_search 10 none [.ref 15, .ref k1, .ref 4, .int x3, .int x4, .int x5] h ((.inl none, r)) := by
  intro n
  induction n with
  | zero => intro k1 hk1 x3 x4 x5 h r hf; exact nomatch hf
  | succ n ih =>
    intro k1 hk1 x3 x4 x5 h r hf
    exact Ctr_of hG RX8 rfl (by decide) rfl (fun X hX1 hdx hX => T_X8_search_0 (D := 7 + 3 * n) hX hdx (by omega) (f_X8_search n) (by rw [hX1]; exact ih) k1 hk1 x3 x4 x5 h hf)
theorem dX8_solve_0 : decode cX8_solve 0 = .ok (.aload_n 0, 1) := by decide +kernel
theorem dX8_solve_1 : decode cX8_solve 1 = .ok (.iconst (-1), 1) := by decide +kernel
theorem dX8_solve_2 : decode cX8_solve 2 = .ok (.putfield 25, 3) := by decide +kernel
theorem dX8_solve_5 : decode cX8_solve 5 = .ok (.aload_n 0, 1) := by decide +kernel
theorem dX8_solve_6 : decode cX8_solve 6 = .ok (.getfield 17, 3) := by decide +kernel
theorem dX8_solve_9 : decode cX8_solve 9 = .ok (.iconst 0, 1) := by decide +kernel
theorem dX8_solve_10 : decode cX8_solve 10 = .ok (.aaload, 1) := by decide +kernel
theorem dX8_solve_11 : decode cX8_solve 11 = .ok (.astore 5, 2) := by decide +kernel
theorem dX8_solve_13 : decode cX8_solve 13 = .ok (.aload 5, 2) := by decide +kernel
theorem dX8_solve_15 : decode cX8_solve 15 = .ok (.ifnull 19, 3) := by decide +kernel
theorem dX8_solve_18 : decode cX8_solve 18 = .ok (.aload 5, 2) := by decide +kernel
theorem dX8_solve_20 : decode cX8_solve 20 = .ok (.aload_n 1, 1) := by decide +kernel
theorem dX8_solve_21 : decode cX8_solve 21 = .ok (.invokevirtual 29, 3) := by decide +kernel
theorem dX8_solve_24 : decode cX8_solve 24 = .ok (.aload_n 0, 1) := by decide +kernel
theorem dX8_solve_25 : decode cX8_solve 25 = .ok (.aload_n 2, 1) := by decide +kernel
theorem dX8_solve_26 : decode cX8_solve 26 = .ok (.aload_n 3, 1) := by decide +kernel
theorem dX8_solve_27 : decode cX8_solve 27 = .ok (.iload 4, 2) := by decide +kernel
theorem dX8_solve_29 : decode cX8_solve 29 = .ok (.iconst 0, 1) := by decide +kernel
theorem dX8_solve_30 : decode cX8_solve 30 = .ok (.iconst 0, 1) := by decide +kernel
theorem dX8_solve_31 : decode cX8_solve 31 = .ok (.invokevirtual 33, 3) := by decide +kernel
theorem dX8_solve_34 : decode cX8_solve 34 = .ok (.return_, 1) := by decide +kernel
set_option maxRecDepth 100000 in
set_option maxHeartbeats 200000 in
theorem T_X8_solve_0 {X : CX} (hX : Ok X cX8_solve 6 RX8 none) (hdx : dX X = 32) {r : Hp} (k1 : Nat) (hk1 : isCity k1) (k2 : Nat) (hk2 : isLaw k2) (x4 : Int32) (h : Hp) (hf : f_X8_solve k1 k2 x4 h = some r) : J X ((.inl none, r)) 0 [(0, .ref 15), (1, .ref k1), (2, .ref k2), (3, .ref 4), (4, .int x4)] [] h := by
  unfold f_X8_solve at hf
  refine J_aload_n hX 0 dX8_solve_0 rfl rfl ?_
  refine J_iconst hX (-1) dX8_solve_1 rfl ?_
  obtain ⟨h_1, e_2, hf⟩ := bndE hf
  refine J_putI hX dX8_solve_2 fl_X8_25 fw_6_1 ob_15 rfl rfl rfl ?_
  refine J_nmh e_2 ?_
  refine J_aload_n hX 0 dX8_solve_5 rfl rfl ?_
  refine J_getR hX 17 dX8_solve_6 fl_X8_17 ob_15 rfl rfl ?_
  refine J_iconst hX 0 dX8_solve_9 rfl ?_
  refine J_aald hX 340 dX8_solve_10 ar_17 (by decide) (by decide) ?_
  refine J_astore hX [(5, .ref 340), (0, .ref 15), (1, .ref k1), (2, .ref k2), (3, .ref 4), (4, .int x4)] dX8_solve_11 rfl rfl ?_
  refine J_aload hX 0 dX8_solve_13 rfl ?_
  refine J_ifnullF hX dX8_solve_15 ?_
  refine J_aload hX 0 dX8_solve_18 rfl ?_
  refine J_aload_n hX 2 dX8_solve_20 rfl rfl ?_
  obtain ⟨r_3, e_4, hf⟩ := bdE hf
  refine V_0 hX [.ref k1] dX8_solve_21 cw_X8_29 (city_ob (isCity_of (by decide))) rfl (C_X1_copyFrom (okG hX) (isCity_of (by decide)) hk1 e_4) (ltD hdx rfl) rfl rfl rfl rfl ?_
  refine J_aload_n hX 1 dX8_solve_24 rfl rfl ?_
  refine J_aload_n hX 3 dX8_solve_25 rfl rfl ?_
  refine J_aload_n hX 4 dX8_solve_26 rfl rfl ?_
  refine J_iload hX 5 dX8_solve_27 rfl ?_
  refine J_iconst hX 0 dX8_solve_29 rfl ?_
  refine J_iconst hX 0 dX8_solve_30 rfl ?_
  obtain ⟨r_5, e_6, hf⟩ := bdE hf
  refine V_0 hX [.ref k2, .ref 4, .int x4, .int 0, .int 0] dX8_solve_31 cw_X8_33 ob_15 rfl (C_X8_search (okG hX) 8 k2 hk2 x4 0 0 r_3 _ e_6) (ltD hdx rfl) rfl rfl rfl rfl ?_
  exact E_Vi hX dX8_solve_34 hf
set_option maxRecDepth 100000 in
set_option maxHeartbeats 200000 in
theorem C_X8_solve {G : GX} (hG : GOk G) {k1 : Nat} {k2 : Nat} {x4 : Int32} {h : Hp} {r : Hp} (hk1 : isCity k1) (hk2 : isLaw k2) (hf : f_X8_solve k1 k2 x4 h = some r) : Ctr G 32 yX8_solve cX8_solve 6 none [.ref 15, .ref k1, .ref k2, .ref 4, .int x4] h ((.inl none, r)) :=
  Ctr_of hG RX8 rfl (by decide) rfl (fun X _ hdx hX => T_X8_solve_0 hX hdx k1 hk1 k2 hk2 x4 h hf)
theorem dX9_allBear_0 : decode cX9_allBear 0 = .ok (.iconst 0, 1) := by decide +kernel
theorem dX9_allBear_1 : decode cX9_allBear 1 = .ok (.istore_n 1, 1) := by decide +kernel
theorem dX9_allBear_2 : decode cX9_allBear 2 = .ok (.iconst 0, 1) := by decide +kernel
theorem dX9_allBear_3 : decode cX9_allBear 3 = .ok (.istore_n 2, 1) := by decide +kernel
theorem dX9_allBear_4 : decode cX9_allBear 4 = .ok (.iload_n 2, 1) := by decide +kernel
theorem dX9_allBear_5 : decode cX9_allBear 5 = .ok (.bipush 8, 2) := by decide +kernel
theorem dX9_allBear_7 : decode cX9_allBear 7 = .ok (.if_icmp .ge 18, 3) := by decide +kernel
theorem dX9_allBear_10 : decode cX9_allBear 10 = .ok (.iload_n 1, 1) := by decide +kernel
theorem dX9_allBear_11 : decode cX9_allBear 11 = .ok (.aload_n 0, 1) := by decide +kernel
theorem dX9_allBear_12 : decode cX9_allBear 12 = .ok (.getfield 15, 3) := by decide +kernel
theorem dX9_allBear_15 : decode cX9_allBear 15 = .ok (.iload_n 2, 1) := by decide +kernel
theorem dX9_allBear_16 : decode cX9_allBear 16 = .ok (.iaload, 1) := by decide +kernel
theorem dX9_allBear_17 : decode cX9_allBear 17 = .ok (.iadd, 1) := by decide +kernel
theorem dX9_allBear_18 : decode cX9_allBear 18 = .ok (.istore_n 1, 1) := by decide +kernel
theorem dX9_allBear_19 : decode cX9_allBear 19 = .ok (.iinc 2 1, 3) := by decide +kernel
theorem dX9_allBear_22 : decode cX9_allBear 22 = .ok (.goto (-18), 3) := by decide +kernel
theorem dX9_allBear_25 : decode cX9_allBear 25 = .ok (.iload_n 1, 1) := by decide +kernel
theorem dX9_allBear_26 : decode cX9_allBear 26 = .ok (.ireturn, 1) := by decide +kernel
set_option maxRecDepth 100000 in
set_option maxHeartbeats 200000 in
theorem T_X9_allBear_4_s {X : CX} (hX : Ok X cX9_allBear 3 RX9 (some .int)) (hdx : dX X = 2) {r : Int32} (h : Hp) (q_4 : Int32 → Int32 → Option Int32) (hq_4 : ∀ (x1 : Int32) (x2 : Int32), q_4 x1 x2 = some r → J X ((.inl (some (.int r)), h)) 4 [(0, .ref 5), (1, .int x1), (2, .int x2)] [] h) (x1 : Int32) (x2 : Int32) (hf : S_X9_allBear_4 h q_4 x1 x2 = some r) : J X ((.inl (some (.int r)), h)) 4 [(0, .ref 5), (1, .int x1), (2, .int x2)] [] h := by
  unfold S_X9_allBear_4 at hf
  refine J_iload_n hX 2 dX9_allBear_4 rfl rfl ?_
  refine J_bipush hX 8 dX9_allBear_5 rfl ?_
  rcases ifE hf with ⟨c_1, hf⟩ | ⟨c_1, hf⟩
  · refine J_icmp_geF hX 25 dX9_allBear_7 rfl c_1 ?_
    refine J_iload_n hX 1 dX9_allBear_10 rfl rfl ?_
    refine J_aload_n hX 0 dX9_allBear_11 rfl rfl ?_
    refine J_getR hX 7 dX9_allBear_12 fl_X9_15 ob_5 rfl rfl ?_
    refine J_iload_n hX 2 dX9_allBear_15 rfl rfl ?_
    obtain ⟨g_2, hf⟩ := gdE hf
    refine J_ald hX x2.toNatClampNeg dX9_allBear_16 ar_7 (Or.inl ⟨rfl, rfl⟩) g_2 rfl ?_
    refine J_iadd hX dX9_allBear_17 ?_
    obtain ⟨x1_3, e_4, hf⟩ := bndE hf
    refine J_nm e_4 ?_
    refine J_istore_n hX [(1, .int x1_3), (0, .ref 5), (2, .int x2)] dX9_allBear_18 rfl rfl rfl ?_
    refine J_iinc hX (x2 + 1) 2 [(2, .int (x2 + 1)), (1, .int x1_3), (0, .ref 5)] dX9_allBear_19 rfl rfl rfl rfl ?_
    refine J_goto hX 4 dX9_allBear_22 rfl ?_
    refine J_sub [2, 1, 0] [(0, .ref 5), (1, .int x1_3), (2, .int (x2 + 1))] rfl ?_
    exact hq_4 x1_3 (x2 + 1) hf
  · refine J_icmp_geT hX 25 dX9_allBear_7 rfl c_1 ?_
    refine J_iload_n hX 1 dX9_allBear_25 rfl rfl ?_
    exact E_Ip hX dX9_allBear_26 hf
set_option maxRecDepth 100000 in
set_option maxHeartbeats 200000 in
theorem T_X9_allBear_4 {X : CX} (hX : Ok X cX9_allBear 3 RX9 (some .int)) (hdx : dX X = 2) {r : Int32} (h : Hp) : ∀ (n : Nat) (x1 : Int32) (x2 : Int32), F_X9_allBear_4 h n x1 x2 = some r → J X ((.inl (some (.int r)), h)) 4 [(0, .ref 5), (1, .int x1), (2, .int x2)] [] h := by
  intro n
  induction n with
  | zero => intro x1 x2 hf; exact nomatch hf
  | succ n ih => intro x1 x2 hf; exact T_X9_allBear_4_s hX hdx h _ (fun x1 x2 hf => ih x1 x2 hf) x1 x2 hf
set_option maxRecDepth 100000 in
set_option maxHeartbeats 200000 in
theorem T_X9_allBear_0 {X : CX} (hX : Ok X cX9_allBear 3 RX9 (some .int)) (hdx : dX X = 2) {r : Int32} (h : Hp) (hf : f_X9_allBear h = some r) : J X ((.inl (some (.int r)), h)) 0 [(0, .ref 5)] [] h := by
  unfold f_X9_allBear at hf
  refine J_iconst hX 0 dX9_allBear_0 rfl ?_
  refine J_istore_n hX [(1, .int 0), (0, .ref 5)] dX9_allBear_1 rfl rfl rfl ?_
  refine J_iconst hX 0 dX9_allBear_2 rfl ?_
  refine J_istore_n hX [(2, .int 0), (1, .int 0), (0, .ref 5)] dX9_allBear_3 rfl rfl rfl ?_
  refine J_sub [2, 1, 0] [(0, .ref 5), (1, .int 0), (2, .int 0)] rfl ?_
  exact T_X9_allBear_4 hX hdx h FU 0 0 hf
set_option maxRecDepth 100000 in
set_option maxHeartbeats 200000 in
theorem C_X9_allBear {G : GX} (hG : GOk G) {h : Hp} {r : Int32} (hf : f_X9_allBear h = some r) : Ctr G 2 yX9_allBear cX9_allBear 3 (some .int) [.ref 5] h ((.inl (some (.int r)), h)) :=
  Ctr_of hG RX9 rfl (by decide) rfl (fun X _ hdx hX => T_X9_allBear_0 hX hdx h hf)
theorem dX9_greatestSag_0 : decode cX9_greatestSag 0 = .ok (.iconst 0, 1) := by decide +kernel
theorem dX9_greatestSag_1 : decode cX9_greatestSag 1 = .ok (.istore_n 2, 1) := by decide +kernel
theorem dX9_greatestSag_2 : decode cX9_greatestSag 2 = .ok (.iconst 0, 1) := by decide +kernel
theorem dX9_greatestSag_3 : decode cX9_greatestSag 3 = .ok (.istore_n 3, 1) := by decide +kernel
theorem dX9_greatestSag_4 : decode cX9_greatestSag 4 = .ok (.iconst 0, 1) := by decide +kernel
theorem dX9_greatestSag_5 : decode cX9_greatestSag 5 = .ok (.istore 4, 2) := by decide +kernel
theorem dX9_greatestSag_7 : decode cX9_greatestSag 7 = .ok (.iload 4, 2) := by decide +kernel
theorem dX9_greatestSag_9 : decode cX9_greatestSag 9 = .ok (.bipush 8, 2) := by decide +kernel
theorem dX9_greatestSag_11 : decode cX9_greatestSag 11 = .ok (.if_icmp .ge 44, 3) := by decide +kernel
theorem dX9_greatestSag_14 : decode cX9_greatestSag 14 = .ok (.iload_n 1, 1) := by decide +kernel
theorem dX9_greatestSag_15 : decode cX9_greatestSag 15 = .ok (.iload 4, 2) := by decide +kernel
theorem dX9_greatestSag_17 : decode cX9_greatestSag 17 = .ok (.ishr, 1) := by decide +kernel
theorem dX9_greatestSag_18 : decode cX9_greatestSag 18 = .ok (.iconst 1, 1) := by decide +kernel
theorem dX9_greatestSag_19 : decode cX9_greatestSag 19 = .ok (.iand, 1) := by decide +kernel
theorem dX9_greatestSag_20 : decode cX9_greatestSag 20 = .ok (.iconst 1, 1) := by decide +kernel
theorem dX9_greatestSag_21 : decode cX9_greatestSag 21 = .ok (.if_icmp .ne 28, 3) := by decide +kernel
theorem dX9_greatestSag_24 : decode cX9_greatestSag 24 = .ok (.iload_n 2, 1) := by decide +kernel
theorem dX9_greatestSag_25 : decode cX9_greatestSag 25 = .ok (.ifCond .eq 14, 3) := by decide +kernel
theorem dX9_greatestSag_28 : decode cX9_greatestSag 28 = .ok (.aload_n 0, 1) := by decide +kernel
theorem dX9_greatestSag_29 : decode cX9_greatestSag 29 = .ok (.getfield 21, 3) := by decide +kernel
theorem dX9_greatestSag_32 : decode cX9_greatestSag 32 = .ok (.iload 4, 2) := by decide +kernel
theorem dX9_greatestSag_34 : decode cX9_greatestSag 34 = .ok (.iaload, 1) := by decide +kernel
theorem dX9_greatestSag_35 : decode cX9_greatestSag 35 = .ok (.iload_n 3, 1) := by decide +kernel
theorem dX9_greatestSag_36 : decode cX9_greatestSag 36 = .ok (.if_icmp .le 13, 3) := by decide +kernel
theorem dX9_greatestSag_39 : decode cX9_greatestSag 39 = .ok (.iconst 1, 1) := by decide +kernel
theorem dX9_greatestSag_40 : decode cX9_greatestSag 40 = .ok (.istore_n 2, 1) := by decide +kernel
theorem dX9_greatestSag_41 : decode cX9_greatestSag 41 = .ok (.aload_n 0, 1) := by decide +kernel
theorem dX9_greatestSag_42 : decode cX9_greatestSag 42 = .ok (.getfield 21, 3) := by decide +kernel
theorem dX9_greatestSag_45 : decode cX9_greatestSag 45 = .ok (.iload 4, 2) := by decide +kernel
theorem dX9_greatestSag_47 : decode cX9_greatestSag 47 = .ok (.iaload, 1) := by decide +kernel
theorem dX9_greatestSag_48 : decode cX9_greatestSag 48 = .ok (.istore_n 3, 1) := by decide +kernel
theorem dX9_greatestSag_49 : decode cX9_greatestSag 49 = .ok (.iinc 4 1, 3) := by decide +kernel
theorem dX9_greatestSag_52 : decode cX9_greatestSag 52 = .ok (.goto (-45), 3) := by decide +kernel
theorem dX9_greatestSag_55 : decode cX9_greatestSag 55 = .ok (.iload_n 3, 1) := by decide +kernel
theorem dX9_greatestSag_56 : decode cX9_greatestSag 56 = .ok (.ireturn, 1) := by decide +kernel
set_option maxRecDepth 100000 in
set_option maxHeartbeats 200000 in
theorem T_X9_greatestSag_39 {X : CX} (hX : Ok X cX9_greatestSag 5 RX9 (some .int)) (hdx : dX X = 2) {r : Int32} (h : Hp) (x1 : Int32) (x4 : Int32) (q_7 : Int32 → Int32 → Int32 → Option Int32) (hq_7 : ∀ (x2 : Int32) (x3 : Int32) (x4 : Int32), q_7 x2 x3 x4 = some r → J X ((.inl (some (.int r)), h)) 7 [(0, .ref 5), (1, .int x1), (2, .int x2), (3, .int x3), (4, .int x4)] [] h) (hf : F_X9_greatestSag_39 q_7 h x1 x4 = some r) : J X ((.inl (some (.int r)), h)) 39 [(0, .ref 5), (1, .int x1), (4, .int x4)] [] h := by
  unfold F_X9_greatestSag_39 at hf
  refine J_iconst hX 1 dX9_greatestSag_39 rfl ?_
  refine J_istore_n hX [(2, .int 1), (0, .ref 5), (1, .int x1), (4, .int x4)] dX9_greatestSag_40 rfl rfl rfl ?_
  refine J_aload_n hX 1 dX9_greatestSag_41 rfl rfl ?_
  refine J_getR hX 9 dX9_greatestSag_42 fl_X9_21 ob_5 rfl rfl ?_
  refine J_iload hX 3 dX9_greatestSag_45 rfl ?_
  obtain ⟨g_1, hf⟩ := gdE hf
  refine J_ald hX x4.toNatClampNeg dX9_greatestSag_47 ar_9 (Or.inl ⟨rfl, rfl⟩) g_1 rfl ?_
  obtain ⟨x3_2, e_3, hf⟩ := bndE hf
  refine J_nm e_3 ?_
  refine J_istore_n hX [(3, .int x3_2), (2, .int 1), (0, .ref 5), (1, .int x1), (4, .int x4)] dX9_greatestSag_48 rfl rfl rfl ?_
  refine J_iinc hX (x4 + 1) 4 [(4, .int (x4 + 1)), (3, .int x3_2), (2, .int 1), (0, .ref 5), (1, .int x1)] dX9_greatestSag_49 rfl rfl rfl rfl ?_
  refine J_goto hX 7 dX9_greatestSag_52 rfl ?_
  refine J_sub [3, 4, 2, 1, 0] [(0, .ref 5), (1, .int x1), (2, .int 1), (3, .int x3_2), (4, .int (x4 + 1))] rfl ?_
  exact hq_7 1 x3_2 (x4 + 1) hf
set_option maxRecDepth 100000 in
set_option maxHeartbeats 200000 in
theorem T_X9_greatestSag_7_s {X : CX} (hX : Ok X cX9_greatestSag 5 RX9 (some .int)) (hdx : dX X = 2) {r : Int32} (h : Hp) (x1 : Int32) (q_7 : Int32 → Int32 → Int32 → Option Int32) (hq_7 : ∀ (x2 : Int32) (x3 : Int32) (x4 : Int32), q_7 x2 x3 x4 = some r → J X ((.inl (some (.int r)), h)) 7 [(0, .ref 5), (1, .int x1), (2, .int x2), (3, .int x3), (4, .int x4)] [] h) (x2 : Int32) (x3 : Int32) (x4 : Int32) (hf : S_X9_greatestSag_7 h x1 q_7 x2 x3 x4 = some r) : J X ((.inl (some (.int r)), h)) 7 [(0, .ref 5), (1, .int x1), (2, .int x2), (3, .int x3), (4, .int x4)] [] h := by
  unfold S_X9_greatestSag_7 at hf
  refine J_iload hX 4 dX9_greatestSag_7 rfl ?_
  refine J_bipush hX 8 dX9_greatestSag_9 rfl ?_
  rcases ifE hf with ⟨c_1, hf⟩ | ⟨c_1, hf⟩
  · refine J_icmp_geF hX 55 dX9_greatestSag_11 rfl c_1 ?_
    refine J_iload_n hX 1 dX9_greatestSag_14 rfl rfl ?_
    refine J_iload hX 4 dX9_greatestSag_15 rfl ?_
    refine J_ishr hX dX9_greatestSag_17 ?_
    refine J_iconst hX 1 dX9_greatestSag_18 rfl ?_
    refine J_iand hX dX9_greatestSag_19 ?_
    refine J_iconst hX 1 dX9_greatestSag_20 rfl ?_
    rcases ifE hf with ⟨c_2, hf⟩ | ⟨c_2, hf⟩
    · refine J_icmp_neF hX 49 dX9_greatestSag_21 rfl c_2 ?_
      refine J_iload_n hX 2 dX9_greatestSag_24 rfl rfl ?_
      rcases ifE hf with ⟨c_3, hf⟩ | ⟨c_3, hf⟩
      · refine J_if_eqT hX 39 dX9_greatestSag_25 rfl c_3 ?_
        refine J_sub [0, 1, 4] [(0, .ref 5), (1, .int x1), (4, .int x4)] rfl ?_
        exact T_X9_greatestSag_39 hX hdx h x1 x4 q_7 hq_7 hf
      · refine J_if_eqF hX 39 dX9_greatestSag_25 rfl c_3 ?_
        refine J_aload_n hX 0 dX9_greatestSag_28 rfl rfl ?_
        refine J_getR hX 9 dX9_greatestSag_29 fl_X9_21 ob_5 rfl rfl ?_
        refine J_iload hX 4 dX9_greatestSag_32 rfl ?_
        obtain ⟨g_4, hf⟩ := gdE hf
        refine J_ald hX x4.toNatClampNeg dX9_greatestSag_34 ar_9 (Or.inl ⟨rfl, rfl⟩) g_4 rfl ?_
        refine J_iload_n hX 3 dX9_greatestSag_35 rfl rfl ?_
        rcases ifE hf with ⟨c_5, hf⟩ | ⟨c_5, hf⟩
        · refine J_icmp_leF hX 49 dX9_greatestSag_36 rfl c_5 ?_
          refine J_sub [0, 1, 4] [(0, .ref 5), (1, .int x1), (4, .int x4)] rfl ?_
          exact T_X9_greatestSag_39 hX hdx h x1 x4 q_7 hq_7 hf
        · refine J_icmp_leT hX 49 dX9_greatestSag_36 rfl c_5 ?_
          refine J_iinc hX (x4 + 1) 4 [(4, .int (x4 + 1)), (0, .ref 5), (1, .int x1), (2, .int x2), (3, .int x3)] dX9_greatestSag_49 rfl rfl rfl rfl ?_
          refine J_goto hX 7 dX9_greatestSag_52 rfl ?_
          refine J_sub [1, 2, 3, 4, 0] [(0, .ref 5), (1, .int x1), (2, .int x2), (3, .int x3), (4, .int (x4 + 1))] rfl ?_
          exact hq_7 x2 x3 (x4 + 1) hf
    · refine J_icmp_neT hX 49 dX9_greatestSag_21 rfl c_2 ?_
      refine J_iinc hX (x4 + 1) 4 [(4, .int (x4 + 1)), (0, .ref 5), (1, .int x1), (2, .int x2), (3, .int x3)] dX9_greatestSag_49 rfl rfl rfl rfl ?_
      refine J_goto hX 7 dX9_greatestSag_52 rfl ?_
      refine J_sub [1, 2, 3, 4, 0] [(0, .ref 5), (1, .int x1), (2, .int x2), (3, .int x3), (4, .int (x4 + 1))] rfl ?_
      exact hq_7 x2 x3 (x4 + 1) hf
  · refine J_icmp_geT hX 55 dX9_greatestSag_11 rfl c_1 ?_
    refine J_iload_n hX 3 dX9_greatestSag_55 rfl rfl ?_
    exact E_Ip hX dX9_greatestSag_56 hf
set_option maxRecDepth 100000 in
set_option maxHeartbeats 200000 in
theorem T_X9_greatestSag_7 {X : CX} (hX : Ok X cX9_greatestSag 5 RX9 (some .int)) (hdx : dX X = 2) {r : Int32} (h : Hp) (x1 : Int32) : ∀ (n : Nat) (x2 : Int32) (x3 : Int32) (x4 : Int32), F_X9_greatestSag_7 h x1 n x2 x3 x4 = some r → J X ((.inl (some (.int r)), h)) 7 [(0, .ref 5), (1, .int x1), (2, .int x2), (3, .int x3), (4, .int x4)] [] h := by
  intro n
  induction n with
  | zero => intro x2 x3 x4 hf; exact nomatch hf
  | succ n ih => intro x2 x3 x4 hf; exact T_X9_greatestSag_7_s hX hdx h x1 _ (fun x2 x3 x4 hf => ih x2 x3 x4 hf) x2 x3 x4 hf
set_option maxRecDepth 100000 in
set_option maxHeartbeats 200000 in
theorem T_X9_greatestSag_0 {X : CX} (hX : Ok X cX9_greatestSag 5 RX9 (some .int)) (hdx : dX X = 2) {r : Int32} (x1 : Int32) (h : Hp) (hf : f_X9_greatestSag x1 h = some r) : J X ((.inl (some (.int r)), h)) 0 [(0, .ref 5), (1, .int x1)] [] h := by
  unfold f_X9_greatestSag at hf
  refine J_iconst hX 0 dX9_greatestSag_0 rfl ?_
  refine J_istore_n hX [(2, .int 0), (0, .ref 5), (1, .int x1)] dX9_greatestSag_1 rfl rfl rfl ?_
  refine J_iconst hX 0 dX9_greatestSag_2 rfl ?_
  refine J_istore_n hX [(3, .int 0), (2, .int 0), (0, .ref 5), (1, .int x1)] dX9_greatestSag_3 rfl rfl rfl ?_
  refine J_iconst hX 0 dX9_greatestSag_4 rfl ?_
  refine J_istore hX [(4, .int 0), (3, .int 0), (2, .int 0), (0, .ref 5), (1, .int x1)] dX9_greatestSag_5 rfl rfl ?_
  refine J_sub [3, 4, 2, 1, 0] [(0, .ref 5), (1, .int x1), (2, .int 0), (3, .int 0), (4, .int 0)] rfl ?_
  exact T_X9_greatestSag_7 hX hdx h x1 FU 0 0 0 hf
set_option maxRecDepth 100000 in
set_option maxHeartbeats 200000 in
theorem C_X9_greatestSag {G : GX} (hG : GOk G) {x1 : Int32} {h : Hp} {r : Int32} (hf : f_X9_greatestSag x1 h = some r) : Ctr G 2 yX9_greatestSag cX9_greatestSag 5 (some .int) [.ref 5, .int x1] h ((.inl (some (.int r)), h)) :=
  Ctr_of hG RX9 rfl (by decide) rfl (fun X _ hdx hX => T_X9_greatestSag_0 hX hdx x1 h hf)
theorem dX10_append_0 : decode cX10_append 0 = .ok (.bipush 24, 2) := by decide +kernel
theorem dX10_append_2 : decode cX10_append 2 = .ok (.istore_n 2, 1) := by decide +kernel
theorem dX10_append_3 : decode cX10_append 3 = .ok (.iload_n 2, 1) := by decide +kernel
theorem dX10_append_4 : decode cX10_append 4 = .ok (.ifCond .lt 54, 3) := by decide +kernel
theorem dX10_append_7 : decode cX10_append 7 = .ok (.aload_n 0, 1) := by decide +kernel
theorem dX10_append_8 : decode cX10_append 8 = .ok (.getfield 22, 3) := by decide +kernel
theorem dX10_append_11 : decode cX10_append 11 = .ok (.ifCond .lt 41, 3) := by decide +kernel
theorem dX10_append_14 : decode cX10_append 14 = .ok (.aload_n 0, 1) := by decide +kernel
theorem dX10_append_15 : decode cX10_append 15 = .ok (.getfield 22, 3) := by decide +kernel
theorem dX10_append_18 : decode cX10_append 18 = .ok (.aload_n 0, 1) := by decide +kernel
theorem dX10_append_19 : decode cX10_append 19 = .ok (.getfield 9, 3) := by decide +kernel
theorem dX10_append_22 : decode cX10_append 22 = .ok (.arraylength, 1) := by decide +kernel
theorem dX10_append_23 : decode cX10_append 23 = .ok (.if_icmp .ge 29, 3) := by decide +kernel
theorem dX10_append_26 : decode cX10_append 26 = .ok (.aload_n 0, 1) := by decide +kernel
theorem dX10_append_27 : decode cX10_append 27 = .ok (.getfield 9, 3) := by decide +kernel
theorem dX10_append_30 : decode cX10_append 30 = .ok (.aload_n 0, 1) := by decide +kernel
theorem dX10_append_31 : decode cX10_append 31 = .ok (.getfield 22, 3) := by decide +kernel
theorem dX10_append_34 : decode cX10_append 34 = .ok (.iload_n 1, 1) := by decide +kernel
theorem dX10_append_35 : decode cX10_append 35 = .ok (.iload_n 2, 1) := by decide +kernel
theorem dX10_append_36 : decode cX10_append 36 = .ok (.iushr, 1) := by decide +kernel
theorem dX10_append_37 : decode cX10_append 37 = .ok (.sipush 255, 3) := by decide +kernel
theorem dX10_append_40 : decode cX10_append 40 = .ok (.iand, 1) := by decide +kernel
theorem dX10_append_41 : decode cX10_append 41 = .ok (.iastore, 1) := by decide +kernel
theorem dX10_append_42 : decode cX10_append 42 = .ok (.aload_n 0, 1) := by decide +kernel
theorem dX10_append_43 : decode cX10_append 43 = .ok (.dup, 1) := by decide +kernel
theorem dX10_append_44 : decode cX10_append 44 = .ok (.getfield 22, 3) := by decide +kernel
theorem dX10_append_47 : decode cX10_append 47 = .ok (.iconst 1, 1) := by decide +kernel
theorem dX10_append_48 : decode cX10_append 48 = .ok (.iadd, 1) := by decide +kernel
theorem dX10_append_49 : decode cX10_append 49 = .ok (.putfield 22, 3) := by decide +kernel
theorem dX10_append_52 : decode cX10_append 52 = .ok (.iinc 2 (-8), 3) := by decide +kernel
theorem dX10_append_55 : decode cX10_append 55 = .ok (.goto (-52), 3) := by decide +kernel
theorem dX10_append_58 : decode cX10_append 58 = .ok (.return_, 1) := by decide +kernel
set_option maxRecDepth 100000 in
set_option maxHeartbeats 200000 in
theorem T_X10_append_3_s {X : CX} (hX : Ok X cX10_append 3 RX10 none) (hdx : dX X = 2) {r : Hp} (x1 : Int32) (q_3 : Int32 → Hp → Option Hp) (hq_3 : ∀ (x2 : Int32) (h : Hp), q_3 x2 h = some r → J X ((.inl none, r)) 3 [(0, .ref 2), (1, .int x1), (2, .int x2)] [] h) (x2 : Int32) (h : Hp) (hf : S_X10_append_3 x1 q_3 x2 h = some r) : J X ((.inl none, r)) 3 [(0, .ref 2), (1, .int x1), (2, .int x2)] [] h := by
  unfold S_X10_append_3 at hf
  refine J_iload_n hX 2 dX10_append_3 rfl rfl ?_
  rcases ifE hf with ⟨c_1, hf⟩ | ⟨c_1, hf⟩
  · refine J_if_ltT hX 58 dX10_append_4 rfl c_1 ?_
    exact E_Vi hX dX10_append_58 hf
  · refine J_if_ltF hX 58 dX10_append_4 rfl c_1 ?_
    refine J_aload_n hX 0 dX10_append_7 rfl rfl ?_
    refine J_getI hX dX10_append_8 fl_X10_22 ob_2 rfl ?_
    rcases ifE hf with ⟨c_2, hf⟩ | ⟨c_2, hf⟩
    · refine J_if_ltT hX 52 dX10_append_11 rfl c_2 ?_
      refine J_iinc hX (x2 + (-8)) 2 [(2, .int (x2 + (-8))), (0, .ref 2), (1, .int x1)] dX10_append_52 rfl rfl rfl rfl ?_
      refine J_goto hX 3 dX10_append_55 rfl ?_
      refine J_sub [1, 2, 0] [(0, .ref 2), (1, .int x1), (2, .int (x2 + (-8)))] rfl ?_
      exact hq_3 (x2 + (-8)) h hf
    · refine J_if_ltF hX 52 dX10_append_11 rfl c_2 ?_
      refine J_aload_n hX 0 dX10_append_14 rfl rfl ?_
      refine J_getI hX dX10_append_15 fl_X10_22 ob_2 rfl ?_
      refine J_aload_n hX 0 dX10_append_18 rfl rfl ?_
      refine J_getR hX 3 dX10_append_19 fl_X10_9 ob_2 rfl rfl ?_
      refine J_alen hX 400 dX10_append_22 ar_3 (by decide) rfl ?_
      rcases ifE hf with ⟨c_3, hf⟩ | ⟨c_3, hf⟩
      · refine J_icmp_geF hX 52 dX10_append_23 rfl c_3 ?_
        refine J_aload_n hX 0 dX10_append_26 rfl rfl ?_
        refine J_getR hX 3 dX10_append_27 fl_X10_9 ob_2 rfl rfl ?_
        refine J_aload_n hX 0 dX10_append_30 rfl rfl ?_
        refine J_getI hX dX10_append_31 fl_X10_22 ob_2 rfl ?_
        refine J_iload_n hX 1 dX10_append_34 rfl rfl ?_
        refine J_iload_n hX 2 dX10_append_35 rfl rfl ?_
        refine J_iushr hX dX10_append_36 ?_
        refine J_sipush hX 255 dX10_append_37 rfl ?_
        refine J_iand hX dX10_append_40 ?_
        obtain ⟨g_4, hf⟩ := gdE hf
        obtain ⟨h_5, e_6, hf⟩ := bndE hf
        refine J_ast hX ((h 2 1).toNatClampNeg) ((ushr x1 x2) &&& 255) dX10_append_41 ar_3 (Or.inl ⟨rfl, rfl, rfl⟩) g_4 rfl ?_
        refine J_nmh e_6 ?_
        refine J_aload_n hX 0 dX10_append_42 rfl rfl ?_
        refine J_dup hX dX10_append_43 rfl ?_
        refine J_getI hX dX10_append_44 fl_X10_22 ob_2 rfl ?_
        refine J_iconst hX 1 dX10_append_47 rfl ?_
        refine J_iadd hX dX10_append_48 ?_
        obtain ⟨h_7, e_8, hf⟩ := bndE hf
        refine J_putI hX dX10_append_49 fl_X10_22 fw_8_1 ob_2 rfl rfl rfl ?_
        refine J_nmh e_8 ?_
        refine J_iinc hX (x2 + (-8)) 2 [(2, .int (x2 + (-8))), (0, .ref 2), (1, .int x1)] dX10_append_52 rfl rfl rfl rfl ?_
        refine J_goto hX 3 dX10_append_55 rfl ?_
        refine J_sub [1, 2, 0] [(0, .ref 2), (1, .int x1), (2, .int (x2 + (-8)))] rfl ?_
        exact hq_3 (x2 + (-8)) h_7 hf
      · refine J_icmp_geT hX 52 dX10_append_23 rfl c_3 ?_
        refine J_iinc hX (x2 + (-8)) 2 [(2, .int (x2 + (-8))), (0, .ref 2), (1, .int x1)] dX10_append_52 rfl rfl rfl rfl ?_
        refine J_goto hX 3 dX10_append_55 rfl ?_
        refine J_sub [1, 2, 0] [(0, .ref 2), (1, .int x1), (2, .int (x2 + (-8)))] rfl ?_
        exact hq_3 (x2 + (-8)) h hf
set_option maxRecDepth 100000 in
set_option maxHeartbeats 200000 in
theorem T_X10_append_3 {X : CX} (hX : Ok X cX10_append 3 RX10 none) (hdx : dX X = 2) {r : Hp} (x1 : Int32) : ∀ (n : Nat) (x2 : Int32) (h : Hp), F_X10_append_3 x1 n x2 h = some r → J X ((.inl none, r)) 3 [(0, .ref 2), (1, .int x1), (2, .int x2)] [] h := by
  intro n
  induction n with
  | zero => intro x2 h hf; exact nomatch hf
  | succ n ih => intro x2 h hf; exact T_X10_append_3_s hX hdx x1 _ (fun x2 h hf => ih x2 h hf) x2 h hf
set_option maxRecDepth 100000 in
set_option maxHeartbeats 200000 in
theorem T_X10_append_0 {X : CX} (hX : Ok X cX10_append 3 RX10 none) (hdx : dX X = 2) {r : Hp} (x1 : Int32) (h : Hp) (hf : f_X10_append x1 h = some r) : J X ((.inl none, r)) 0 [(0, .ref 2), (1, .int x1)] [] h := by
  unfold f_X10_append at hf
  refine J_bipush hX 24 dX10_append_0 rfl ?_
  refine J_istore_n hX [(2, .int 24), (0, .ref 2), (1, .int x1)] dX10_append_2 rfl rfl rfl ?_
  refine J_sub [1, 2, 0] [(0, .ref 2), (1, .int x1), (2, .int 24)] rfl ?_
  exact T_X10_append_3 hX hdx x1 FU 24 h hf
set_option maxRecDepth 100000 in
set_option maxHeartbeats 200000 in
theorem C_X10_append {G : GX} (hG : GOk G) {x1 : Int32} {h : Hp} {r : Hp} (hf : f_X10_append x1 h = some r) : Ctr G 2 yX10_append cX10_append 3 none [.ref 2, .int x1] h ((.inl none, r)) :=
  Ctr_of hG RX10 rfl (by decide) rfl (fun X _ hdx hX => T_X10_append_0 hX hdx x1 h hf)
theorem dX11_feed_0 : decode cX11_feed 0 = .ok (.aload_n 0, 1) := by decide +kernel
theorem dX11_feed_1 : decode cX11_feed 1 = .ok (.getfield 10, 3) := by decide +kernel
theorem dX11_feed_4 : decode cX11_feed 4 = .ok (.getfield 74, 3) := by decide +kernel
theorem dX11_feed_7 : decode cX11_feed 7 = .ok (.bipush 20, 2) := by decide +kernel
theorem dX11_feed_9 : decode cX11_feed 9 = .ok (.iadd, 1) := by decide +kernel
theorem dX11_feed_10 : decode cX11_feed 10 = .ok (.sipush 400, 3) := by decide +kernel
theorem dX11_feed_13 : decode cX11_feed 13 = .ok (.if_icmp .le 5, 3) := by decide +kernel
theorem dX11_feed_16 : decode cX11_feed 16 = .ok (.iconst (-1), 1) := by decide +kernel
theorem dX11_feed_17 : decode cX11_feed 17 = .ok (.ireturn, 1) := by decide +kernel
theorem dX11_feed_18 : decode cX11_feed 18 = .ok (.aload_n 0, 1) := by decide +kernel
theorem dX11_feed_19 : decode cX11_feed 19 = .ok (.getfield 10, 3) := by decide +kernel
theorem dX11_feed_22 : decode cX11_feed 22 = .ok (.iload_n 1, 1) := by decide +kernel
theorem dX11_feed_23 : decode cX11_feed 23 = .ok (.invokevirtual 78, 3) := by decide +kernel
theorem dX11_feed_26 : decode cX11_feed 26 = .ok (.aload_n 0, 1) := by decide +kernel
theorem dX11_feed_27 : decode cX11_feed 27 = .ok (.getfield 10, 3) := by decide +kernel
theorem dX11_feed_30 : decode cX11_feed 30 = .ok (.iload_n 2, 1) := by decide +kernel
theorem dX11_feed_31 : decode cX11_feed 31 = .ok (.invokevirtual 78, 3) := by decide +kernel
theorem dX11_feed_34 : decode cX11_feed 34 = .ok (.aload_n 0, 1) := by decide +kernel
theorem dX11_feed_35 : decode cX11_feed 35 = .ok (.getfield 10, 3) := by decide +kernel
theorem dX11_feed_38 : decode cX11_feed 38 = .ok (.iload_n 3, 1) := by decide +kernel
theorem dX11_feed_39 : decode cX11_feed 39 = .ok (.invokevirtual 78, 3) := by decide +kernel
theorem dX11_feed_42 : decode cX11_feed 42 = .ok (.aload_n 0, 1) := by decide +kernel
theorem dX11_feed_43 : decode cX11_feed 43 = .ok (.getfield 10, 3) := by decide +kernel
theorem dX11_feed_46 : decode cX11_feed 46 = .ok (.iload 4, 2) := by decide +kernel
theorem dX11_feed_48 : decode cX11_feed 48 = .ok (.invokevirtual 78, 3) := by decide +kernel
theorem dX11_feed_51 : decode cX11_feed 51 = .ok (.aload_n 0, 1) := by decide +kernel
theorem dX11_feed_52 : decode cX11_feed 52 = .ok (.getfield 10, 3) := by decide +kernel
theorem dX11_feed_55 : decode cX11_feed 55 = .ok (.iload 5, 2) := by decide +kernel
theorem dX11_feed_57 : decode cX11_feed 57 = .ok (.invokevirtual 78, 3) := by decide +kernel
theorem dX11_feed_60 : decode cX11_feed 60 = .ok (.aload_n 0, 1) := by decide +kernel
theorem dX11_feed_61 : decode cX11_feed 61 = .ok (.getfield 10, 3) := by decide +kernel
theorem dX11_feed_64 : decode cX11_feed 64 = .ok (.getfield 74, 3) := by decide +kernel
theorem dX11_feed_67 : decode cX11_feed 67 = .ok (.ireturn, 1) := by decide +kernel
set_option maxRecDepth 100000 in
set_option maxHeartbeats 200000 in
theorem T_X11_feed_0 {X : CX} (hX : Ok X cX11_feed 6 RX11 (some .int)) (hdx : dX X = 3) {r : Int32 × Hp} (x1 : Int32) (x2 : Int32) (x3 : Int32) (x4 : Int32) (x5 : Int32) (h : Hp) (hf : f_X11_feed x1 x2 x3 x4 x5 h = some r) : J X ((.inl (some (.int r.1)), r.2)) 0 [(0, .ref 1), (1, .int x1), (2, .int x2), (3, .int x3), (4, .int x4), (5, .int x5)] [] h := by
  unfold f_X11_feed at hf
  refine J_aload_n hX 0 dX11_feed_0 rfl rfl ?_
  refine J_getR hX 2 dX11_feed_1 fl_X11_10 ob_1 rfl rfl ?_
  refine J_getI hX dX11_feed_4 fl_X11_74 ob_2 rfl ?_
  refine J_bipush hX 20 dX11_feed_7 rfl ?_
  refine J_iadd hX dX11_feed_9 ?_
  refine J_sipush hX 400 dX11_feed_10 rfl ?_
  rcases ifE hf with ⟨c_1, hf⟩ | ⟨c_1, hf⟩
  · refine J_icmp_leF hX 18 dX11_feed_13 rfl c_1 ?_
    refine J_iconst hX (-1) dX11_feed_16 rfl ?_
    exact E_Ii hX dX11_feed_17 hf
  · refine J_icmp_leT hX 18 dX11_feed_13 rfl c_1 ?_
    refine J_aload_n hX 0 dX11_feed_18 rfl rfl ?_
    refine J_getR hX 2 dX11_feed_19 fl_X11_10 ob_1 rfl rfl ?_
    refine J_iload_n hX 1 dX11_feed_22 rfl rfl ?_
    obtain ⟨r_2, e_3, hf⟩ := bdE hf
    refine V_0 hX [.int x1] dX11_feed_23 cw_X11_78 ob_2 rfl (C_X10_append (okG hX) e_3) (ltD hdx rfl) rfl rfl rfl rfl ?_
    refine J_aload_n hX 0 dX11_feed_26 rfl rfl ?_
    refine J_getR hX 2 dX11_feed_27 fl_X11_10 ob_1 rfl rfl ?_
    refine J_iload_n hX 2 dX11_feed_30 rfl rfl ?_
    obtain ⟨r_4, e_5, hf⟩ := bdE hf
    refine V_0 hX [.int x2] dX11_feed_31 cw_X11_78 ob_2 rfl (C_X10_append (okG hX) e_5) (ltD hdx rfl) rfl rfl rfl rfl ?_
    refine J_aload_n hX 0 dX11_feed_34 rfl rfl ?_
    refine J_getR hX 2 dX11_feed_35 fl_X11_10 ob_1 rfl rfl ?_
    refine J_iload_n hX 3 dX11_feed_38 rfl rfl ?_
    obtain ⟨r_6, e_7, hf⟩ := bdE hf
    refine V_0 hX [.int x3] dX11_feed_39 cw_X11_78 ob_2 rfl (C_X10_append (okG hX) e_7) (ltD hdx rfl) rfl rfl rfl rfl ?_
    refine J_aload_n hX 0 dX11_feed_42 rfl rfl ?_
    refine J_getR hX 2 dX11_feed_43 fl_X11_10 ob_1 rfl rfl ?_
    refine J_iload hX 4 dX11_feed_46 rfl ?_
    obtain ⟨r_8, e_9, hf⟩ := bdE hf
    refine V_0 hX [.int x4] dX11_feed_48 cw_X11_78 ob_2 rfl (C_X10_append (okG hX) e_9) (ltD hdx rfl) rfl rfl rfl rfl ?_
    refine J_aload_n hX 0 dX11_feed_51 rfl rfl ?_
    refine J_getR hX 2 dX11_feed_52 fl_X11_10 ob_1 rfl rfl ?_
    refine J_iload hX 5 dX11_feed_55 rfl ?_
    obtain ⟨r_10, e_11, hf⟩ := bdE hf
    refine V_0 hX [.int x5] dX11_feed_57 cw_X11_78 ob_2 rfl (C_X10_append (okG hX) e_11) (ltD hdx rfl) rfl rfl rfl rfl ?_
    refine J_aload_n hX 0 dX11_feed_60 rfl rfl ?_
    refine J_getR hX 2 dX11_feed_61 fl_X11_10 ob_1 rfl rfl ?_
    refine J_getI hX dX11_feed_64 fl_X11_74 ob_2 rfl ?_
    exact E_Ii hX dX11_feed_67 hf
set_option maxRecDepth 100000 in
set_option maxHeartbeats 200000 in
theorem C_X11_feed {G : GX} (hG : GOk G) {x1 : Int32} {x2 : Int32} {x3 : Int32} {x4 : Int32} {x5 : Int32} {h : Hp} {r : Int32 × Hp} (hf : f_X11_feed x1 x2 x3 x4 x5 h = some r) : Ctr G 3 yX11_feed cX11_feed 6 (some .int) [.ref 1, .int x1, .int x2, .int x3, .int x4, .int x5] h ((.inl (some (.int r.1)), r.2)) :=
  Ctr_of hG RX11 rfl (by decide) rfl (fun X _ hdx hX => T_X11_feed_0 hX hdx x1 x2 x3 x4 x5 h hf)
theorem dX11_end_0 : decode cX11_end 0 = .ok (.iload_n 1, 1) := by decide +kernel
theorem dX11_end_1 : decode cX11_end 1 = .ok (.ifCond .lt 14, 3) := by decide +kernel
theorem dX11_end_4 : decode cX11_end 4 = .ok (.iload_n 1, 1) := by decide +kernel
theorem dX11_end_5 : decode cX11_end 5 = .ok (.aload_n 0, 1) := by decide +kernel
theorem dX11_end_6 : decode cX11_end 6 = .ok (.getfield 10, 3) := by decide +kernel
theorem dX11_end_9 : decode cX11_end 9 = .ok (.getfield 74, 3) := by decide +kernel
theorem dX11_end_12 : decode cX11_end 12 = .ok (.if_icmp .le 5, 3) := by decide +kernel
theorem dX11_end_15 : decode cX11_end 15 = .ok (.iconst 0, 1) := by decide +kernel
theorem dX11_end_16 : decode cX11_end 16 = .ok (.ireturn, 1) := by decide +kernel
theorem dX11_end_17 : decode cX11_end 17 = .ok (.aload_n 0, 1) := by decide +kernel
theorem dX11_end_18 : decode cX11_end 18 = .ok (.getfield 10, 3) := by decide +kernel
theorem dX11_end_21 : decode cX11_end 21 = .ok (.iload_n 1, 1) := by decide +kernel
theorem dX11_end_22 : decode cX11_end 22 = .ok (.putfield 74, 3) := by decide +kernel
theorem dX11_end_25 : decode cX11_end 25 = .ok (.iconst 1, 1) := by decide +kernel
theorem dX11_end_26 : decode cX11_end 26 = .ok (.ireturn, 1) := by decide +kernel
set_option maxRecDepth 100000 in
set_option maxHeartbeats 200000 in
theorem T_X11_end_0 {X : CX} (hX : Ok X cX11_end 2 RX11 (some .boolean)) (hdx : dX X = 2) {r : Bool × Hp} (x1 : Int32) (h : Hp) (hf : f_X11_end x1 h = some r) : J X ((.inl (some (.int (b2i r.1))), r.2)) 0 [(0, .ref 1), (1, .int x1)] [] h := by
  unfold f_X11_end at hf
  refine J_iload_n hX 1 dX11_end_0 rfl rfl ?_
  rcases ifE hf with ⟨c_1, hf⟩ | ⟨c_1, hf⟩
  · refine J_if_ltT hX 15 dX11_end_1 rfl c_1 ?_
    refine J_iconst hX 0 dX11_end_15 rfl ?_
    exact E_Zi hX dX11_end_16 rfl hf
  · refine J_if_ltF hX 15 dX11_end_1 rfl c_1 ?_
    refine J_iload_n hX 1 dX11_end_4 rfl rfl ?_
    refine J_aload_n hX 0 dX11_end_5 rfl rfl ?_
    refine J_getR hX 2 dX11_end_6 fl_X11_10 ob_1 rfl rfl ?_
    refine J_getI hX dX11_end_9 fl_X11_74 ob_2 rfl ?_
    rcases ifE hf with ⟨c_2, hf⟩ | ⟨c_2, hf⟩
    · refine J_icmp_leF hX 17 dX11_end_12 rfl c_2 ?_
      refine J_iconst hX 0 dX11_end_15 rfl ?_
      exact E_Zi hX dX11_end_16 rfl hf
    · refine J_icmp_leT hX 17 dX11_end_12 rfl c_2 ?_
      refine J_aload_n hX 0 dX11_end_17 rfl rfl ?_
      refine J_getR hX 2 dX11_end_18 fl_X11_10 ob_1 rfl rfl ?_
      refine J_iload_n hX 1 dX11_end_21 rfl rfl ?_
      obtain ⟨h_3, e_4, hf⟩ := bndE hf
      refine J_putI hX dX11_end_22 fl_X11_74 fw_8_1 ob_2 rfl rfl rfl ?_
      refine J_nmh e_4 ?_
      refine J_iconst hX 1 dX11_end_25 rfl ?_
      exact E_Zi hX dX11_end_26 rfl hf
set_option maxRecDepth 100000 in
set_option maxHeartbeats 200000 in
theorem C_X11_end {G : GX} (hG : GOk G) {x1 : Int32} {h : Hp} {r : Bool × Hp} (hf : f_X11_end x1 h = some r) : Ctr G 2 yX11_end cX11_end 2 (some .boolean) [.ref 1, .int x1] h ((.inl (some (.int (b2i r.1))), r.2)) :=
  Ctr_of hG RX11 rfl (by decide) rfl (fun X _ hdx hX => T_X11_end_0 hX hdx x1 h hf)
theorem dX11_city_0 : decode cX11_city 0 = .ok (.aload_n 0, 1) := by decide +kernel
theorem dX11_city_1 : decode cX11_city 1 = .ok (.getfield 23, 3) := by decide +kernel
theorem dX11_city_4 : decode cX11_city 4 = .ok (.aload_n 0, 1) := by decide +kernel
theorem dX11_city_5 : decode cX11_city 5 = .ok (.getfield 19, 3) := by decide +kernel
theorem dX11_city_8 : decode cX11_city 8 = .ok (.invokevirtual 82, 3) := by decide +kernel
theorem dX11_city_11 : decode cX11_city 11 = .ok (.aload_n 0, 1) := by decide +kernel
theorem dX11_city_12 : decode cX11_city 12 = .ok (.getfield 10, 3) := by decide +kernel
theorem dX11_city_15 : decode cX11_city 15 = .ok (.aload_n 0, 1) := by decide +kernel
theorem dX11_city_16 : decode cX11_city 16 = .ok (.getfield 23, 3) := by decide +kernel
theorem dX11_city_19 : decode cX11_city 19 = .ok (.invokestatic 86, 3) := by decide +kernel
theorem dX11_city_22 : decode cX11_city 22 = .ok (.istore_n 1, 1) := by decide +kernel
theorem dX11_city_23 : decode cX11_city 23 = .ok (.aload_n 0, 1) := by decide +kernel
theorem dX11_city_24 : decode cX11_city 24 = .ok (.getfield 10, 3) := by decide +kernel
theorem dX11_city_27 : decode cX11_city 27 = .ok (.iconst 0, 1) := by decide +kernel
theorem dX11_city_28 : decode cX11_city 28 = .ok (.putfield 74, 3) := by decide +kernel
theorem dX11_city_31 : decode cX11_city 31 = .ok (.iload_n 1, 1) := by decide +kernel
theorem dX11_city_32 : decode cX11_city 32 = .ok (.ifCond .ne 11, 3) := by decide +kernel
theorem dX11_city_35 : decode cX11_city 35 = .ok (.new 92, 3) := by decide +kernel
theorem dX11_city_38 : decode cX11_city 38 = .ok (.dup, 1) := by decide +kernel
theorem dX11_city_39 : decode cX11_city 39 = .ok (.invokespecial 94, 3) := by decide +kernel
theorem dX11_city_42 : decode cX11_city 42 = .ok (.athrow, 1) := by decide +kernel
theorem dX11_city_43 : decode cX11_city 43 = .ok (.aload_n 0, 1) := by decide +kernel
theorem dX11_city_44 : decode cX11_city 44 = .ok (.getfield 19, 3) := by decide +kernel
theorem dX11_city_47 : decode cX11_city 47 = .ok (.getfield 95, 3) := by decide +kernel
theorem dX11_city_50 : decode cX11_city 50 = .ok (.bipush 12, 2) := by decide +kernel
theorem dX11_city_52 : decode cX11_city 52 = .ok (.if_icmp .lt 11, 3) := by decide +kernel
theorem dX11_city_55 : decode cX11_city 55 = .ok (.new 98, 3) := by decide +kernel
theorem dX11_city_58 : decode cX11_city 58 = .ok (.dup, 1) := by decide +kernel
theorem dX11_city_59 : decode cX11_city 59 = .ok (.invokespecial 100, 3) := by decide +kernel
theorem dX11_city_62 : decode cX11_city 62 = .ok (.athrow, 1) := by decide +kernel
theorem dX11_city_63 : decode cX11_city 63 = .ok (.aload_n 0, 1) := by decide +kernel
theorem dX11_city_64 : decode cX11_city 64 = .ok (.getfield 19, 3) := by decide +kernel
theorem dX11_city_67 : decode cX11_city 67 = .ok (.aload_n 0, 1) := by decide +kernel
theorem dX11_city_68 : decode cX11_city 68 = .ok (.getfield 23, 3) := by decide +kernel
theorem dX11_city_71 : decode cX11_city 71 = .ok (.invokevirtual 82, 3) := by decide +kernel
theorem dX11_city_74 : decode cX11_city 74 = .ok (.aload_n 0, 1) := by decide +kernel
theorem dX11_city_75 : decode cX11_city 75 = .ok (.getfield 19, 3) := by decide +kernel
theorem dX11_city_78 : decode cX11_city 78 = .ok (.dup, 1) := by decide +kernel
theorem dX11_city_79 : decode cX11_city 79 = .ok (.getfield 95, 3) := by decide +kernel
theorem dX11_city_82 : decode cX11_city 82 = .ok (.iconst 1, 1) := by decide +kernel
theorem dX11_city_83 : decode cX11_city 83 = .ok (.iadd, 1) := by decide +kernel
theorem dX11_city_84 : decode cX11_city 84 = .ok (.putfield 95, 3) := by decide +kernel
theorem dX11_city_87 : decode cX11_city 87 = .ok (.aload_n 0, 1) := by decide +kernel
theorem dX11_city_88 : decode cX11_city 88 = .ok (.iconst 0, 1) := by decide +kernel
theorem dX11_city_89 : decode cX11_city 89 = .ok (.putfield 101, 3) := by decide +kernel
theorem dX11_city_92 : decode cX11_city 92 = .ok (.aload_n 0, 1) := by decide +kernel
theorem dX11_city_93 : decode cX11_city 93 = .ok (.getfield 19, 3) := by decide +kernel
theorem dX11_city_96 : decode cX11_city 96 = .ok (.getfield 95, 3) := by decide +kernel
theorem dX11_city_99 : decode cX11_city 99 = .ok (.ireturn, 1) := by decide +kernel
set_option maxRecDepth 100000 in
set_option maxHeartbeats 200000 in
theorem T_X11_city_0 {X : CX} (hX : Ok X cX11_city 2 RX11 (some .int)) (hdx : dX X = 14) {r : Except String Int32 × Hp} (h : Hp) (hf : f_X11_city h = some r) : J X (oX tvI r) 0 [(0, .ref 1)] [] h := by
  unfold f_X11_city at hf
  refine J_aload_n hX 0 dX11_city_0 rfl rfl ?_
  refine J_getR hX 116 dX11_city_1 fl_X11_23 ob_1 rfl rfl ?_
  refine J_aload_n hX 0 dX11_city_4 rfl rfl ?_
  refine J_getR hX 100 dX11_city_5 fl_X11_19 ob_1 rfl rfl ?_
  obtain ⟨r_1, e_2, hf⟩ := bdE hf
  refine V_0 hX [.ref 100] dX11_city_8 cw_X11_82 (city_ob isc_116) rfl (C_X1_copyFrom (okG hX) isc_116 isc_100 e_2) (ltD hdx rfl) rfl rfl rfl rfl ?_
  refine J_aload_n hX 0 dX11_city_11 rfl rfl ?_
  refine J_getR hX 2 dX11_city_12 fl_X11_10 ob_1 rfl rfl ?_
  refine J_aload_n hX 0 dX11_city_15 rfl rfl ?_
  refine J_getR hX 116 dX11_city_16 fl_X11_23 ob_1 rfl rfl ?_
  obtain ⟨r_3, e_4, hf⟩ := bdE hf
  refine S_1 hX [.ref 2, .ref 116] dX11_city_19 cw_X11_86 (C_X2_read (okG hX) isc_116 e_4) (ltD hdx rfl) rfl rfl rfl rfl ?_
  obtain ⟨x1_5, e_6, hf⟩ := bndE hf
  refine J_nm e_6 ?_
  refine J_istore_n hX [(1, .int x1_5), (0, .ref 1)] dX11_city_22 rfl rfl rfl ?_
  refine J_aload_n hX 1 dX11_city_23 rfl rfl ?_
  refine J_getR hX 2 dX11_city_24 fl_X11_10 ob_1 rfl rfl ?_
  refine J_iconst hX 0 dX11_city_27 rfl ?_
  obtain ⟨h_7, e_8, hf⟩ := bndE hf
  refine J_putI hX dX11_city_28 fl_X11_74 fw_8_1 ob_2 rfl rfl rfl ?_
  refine J_nmh e_8 ?_
  refine J_iload_n hX 0 dX11_city_31 rfl rfl ?_
  rcases ifE hf with ⟨c_9, hf⟩ | ⟨c_9, hf⟩
  · refine J_if_neF hX 43 dX11_city_32 rfl c_9 ?_
    exact E_thr hX exN dX11_city_35 dX11_city_38 dX11_city_39 dX11_city_42 tw_X11_92_94 (ltD hdx rfl) rfl hf
  · refine J_if_neT hX 43 dX11_city_32 rfl c_9 ?_
    refine J_aload_n hX 1 dX11_city_43 rfl rfl ?_
    refine J_getR hX 100 dX11_city_44 fl_X11_19 ob_1 rfl rfl ?_
    refine J_getI hX dX11_city_47 fl_X11_95 (city_ob isc_100) rfl ?_
    refine J_bipush hX 12 dX11_city_50 rfl ?_
    rcases ifE hf with ⟨c_10, hf⟩ | ⟨c_10, hf⟩
    · refine J_icmp_ltT hX 63 dX11_city_52 rfl c_10 ?_
      refine J_aload_n hX 1 dX11_city_63 rfl rfl ?_
      refine J_getR hX 100 dX11_city_64 fl_X11_19 ob_1 rfl rfl ?_
      refine J_aload_n hX 1 dX11_city_67 rfl rfl ?_
      refine J_getR hX 116 dX11_city_68 fl_X11_23 ob_1 rfl rfl ?_
      obtain ⟨r_11, e_12, hf⟩ := bdE hf
      refine V_0 hX [.ref 116] dX11_city_71 cw_X11_82 (city_ob isc_100) rfl (C_X1_copyFrom (okG hX) isc_100 isc_116 e_12) (ltD hdx rfl) rfl rfl rfl rfl ?_
      refine J_aload_n hX 1 dX11_city_74 rfl rfl ?_
      refine J_getR hX 100 dX11_city_75 fl_X11_19 ob_1 rfl rfl ?_
      refine J_dup hX dX11_city_78 rfl ?_
      refine J_getI hX dX11_city_79 fl_X11_95 (city_ob isc_100) rfl ?_
      refine J_iconst hX 1 dX11_city_82 rfl ?_
      refine J_iadd hX dX11_city_83 ?_
      obtain ⟨h_13, e_14, hf⟩ := bndE hf
      refine J_putI hX dX11_city_84 fl_X11_95 fw_1_16 (city_ob isc_100) rfl rfl rfl ?_
      refine J_nmh e_14 ?_
      refine J_aload_n hX 1 dX11_city_87 rfl rfl ?_
      refine J_iconst hX 0 dX11_city_88 rfl ?_
      obtain ⟨h_15, e_16, hf⟩ := bndE hf
      refine J_putI hX dX11_city_89 fl_X11_101 fw_9_14 ob_1 rfl rfl rfl ?_
      refine J_nmh e_16 ?_
      refine J_aload_n hX 1 dX11_city_92 rfl rfl ?_
      refine J_getR hX 100 dX11_city_93 fl_X11_19 ob_1 rfl rfl ?_
      refine J_getI hX dX11_city_96 fl_X11_95 (city_ob isc_100) rfl ?_
      exact E_Ix hX dX11_city_99 hf
    · refine J_icmp_ltF hX 63 dX11_city_52 rfl c_10 ?_
      exact E_thr hX exN dX11_city_55 dX11_city_58 dX11_city_59 dX11_city_62 tw_X11_98_100 (ltD hdx rfl) rfl hf
set_option maxRecDepth 100000 in
set_option maxHeartbeats 200000 in
theorem C_X11_city {G : GX} (hG : GOk G) {h : Hp} {r : Except String Int32 × Hp} (hf : f_X11_city h = some r) : Ctr G 14 yX11_city cX11_city 2 (some .int) [.ref 1] h (oX tvI r) :=
  Ctr_of hG RX11 rfl (by decide) rfl (fun X _ hdx hX => T_X11_city_0 hX hdx h hf)
theorem dX11_law_0 : decode cX11_law 0 = .ok (.aload_n 0, 1) := by decide +kernel
theorem dX11_law_1 : decode cX11_law 1 = .ok (.getfield 10, 3) := by decide +kernel
theorem dX11_law_4 : decode cX11_law 4 = .ok (.aload_n 0, 1) := by decide +kernel
theorem dX11_law_5 : decode cX11_law 5 = .ok (.getfield 33, 3) := by decide +kernel
theorem dX11_law_8 : decode cX11_law 8 = .ok (.invokestatic 104, 3) := by decide +kernel
theorem dX11_law_11 : decode cX11_law 11 = .ok (.istore_n 1, 1) := by decide +kernel
theorem dX11_law_12 : decode cX11_law 12 = .ok (.aload_n 0, 1) := by decide +kernel
theorem dX11_law_13 : decode cX11_law 13 = .ok (.getfield 10, 3) := by decide +kernel
theorem dX11_law_16 : decode cX11_law 16 = .ok (.iconst 0, 1) := by decide +kernel
theorem dX11_law_17 : decode cX11_law 17 = .ok (.putfield 74, 3) := by decide +kernel
theorem dX11_law_20 : decode cX11_law 20 = .ok (.iload_n 1, 1) := by decide +kernel
theorem dX11_law_21 : decode cX11_law 21 = .ok (.ifCond .ne 11, 3) := by decide +kernel
theorem dX11_law_24 : decode cX11_law 24 = .ok (.new 92, 3) := by decide +kernel
theorem dX11_law_27 : decode cX11_law 27 = .ok (.dup, 1) := by decide +kernel
theorem dX11_law_28 : decode cX11_law 28 = .ok (.invokespecial 94, 3) := by decide +kernel
theorem dX11_law_31 : decode cX11_law 31 = .ok (.athrow, 1) := by decide +kernel
theorem dX11_law_32 : decode cX11_law 32 = .ok (.aload_n 0, 1) := by decide +kernel
theorem dX11_law_33 : decode cX11_law 33 = .ok (.getfield 29, 3) := by decide +kernel
theorem dX11_law_36 : decode cX11_law 36 = .ok (.aload_n 0, 1) := by decide +kernel
theorem dX11_law_37 : decode cX11_law 37 = .ok (.getfield 33, 3) := by decide +kernel
theorem dX11_law_40 : decode cX11_law 40 = .ok (.invokevirtual 109, 3) := by decide +kernel
theorem dX11_law_43 : decode cX11_law 43 = .ok (.aload_n 0, 1) := by decide +kernel
theorem dX11_law_44 : decode cX11_law 44 = .ok (.iconst 0, 1) := by decide +kernel
theorem dX11_law_45 : decode cX11_law 45 = .ok (.putfield 101, 3) := by decide +kernel
theorem dX11_law_48 : decode cX11_law 48 = .ok (.aload_n 0, 1) := by decide +kernel
theorem dX11_law_49 : decode cX11_law 49 = .ok (.getfield 29, 3) := by decide +kernel
theorem dX11_law_52 : decode cX11_law 52 = .ok (.getfield 112, 3) := by decide +kernel
theorem dX11_law_55 : decode cX11_law 55 = .ok (.ireturn, 1) := by decide +kernel
set_option maxRecDepth 100000 in
set_option maxHeartbeats 200000 in
theorem T_X11_law_0 {X : CX} (hX : Ok X cX11_law 2 RX11 (some .int)) (hdx : dX X = 46) {r : Except String Int32 × Hp} (h : Hp) (hf : f_X11_law h = some r) : J X (oX tvI r) 0 [(0, .ref 1)] [] h := by
  unfold f_X11_law at hf
  refine J_aload_n hX 0 dX11_law_0 rfl rfl ?_
  refine J_getR hX 2 dX11_law_1 fl_X11_10 ob_1 rfl rfl ?_
  refine J_aload_n hX 0 dX11_law_4 rfl rfl ?_
  refine J_getR hX 516 dX11_law_5 fl_X11_33 ob_1 rfl rfl ?_
  obtain ⟨r_1, e_2, hf⟩ := bdE hf
  refine S_1 hX [.ref 2, .ref 516] dX11_law_8 cw_X11_104 (C_X5_read (okG hX) isl_516 e_2) (ltD hdx rfl) rfl rfl rfl rfl ?_
  obtain ⟨x1_3, e_4, hf⟩ := bndE hf
  refine J_nm e_4 ?_
  refine J_istore_n hX [(1, .int x1_3), (0, .ref 1)] dX11_law_11 rfl rfl rfl ?_
  refine J_aload_n hX 1 dX11_law_12 rfl rfl ?_
  refine J_getR hX 2 dX11_law_13 fl_X11_10 ob_1 rfl rfl ?_
  refine J_iconst hX 0 dX11_law_16 rfl ?_
  obtain ⟨h_5, e_6, hf⟩ := bndE hf
  refine J_putI hX dX11_law_17 fl_X11_74 fw_8_1 ob_2 rfl rfl rfl ?_
  refine J_nmh e_6 ?_
  refine J_iload_n hX 0 dX11_law_20 rfl rfl ?_
  rcases ifE hf with ⟨c_7, hf⟩ | ⟨c_7, hf⟩
  · refine J_if_neF hX 32 dX11_law_21 rfl c_7 ?_
    exact E_thr hX exN dX11_law_24 dX11_law_27 dX11_law_28 dX11_law_31 tw_X11_92_94 (ltD hdx rfl) rfl hf
  · refine J_if_neT hX 32 dX11_law_21 rfl c_7 ?_
    refine J_aload_n hX 1 dX11_law_32 rfl rfl ?_
    refine J_getR hX 500 dX11_law_33 fl_X11_29 ob_1 rfl rfl ?_
    refine J_aload_n hX 1 dX11_law_36 rfl rfl ?_
    refine J_getR hX 516 dX11_law_37 fl_X11_33 ob_1 rfl rfl ?_
    obtain ⟨r_8, e_9, hf⟩ := bdE hf
    refine V_0 hX [.ref 516] dX11_law_40 cw_X11_109 (law_ob isl_500) rfl (C_X4_copyFrom (okG hX) isl_500 isl_516 e_9) (ltD hdx rfl) rfl rfl rfl rfl ?_
    refine J_aload_n hX 1 dX11_law_43 rfl rfl ?_
    refine J_iconst hX 0 dX11_law_44 rfl ?_
    obtain ⟨h_10, e_11, hf⟩ := bndE hf
    refine J_putI hX dX11_law_45 fl_X11_101 fw_9_14 ob_1 rfl rfl rfl ?_
    refine J_nmh e_11 ?_
    refine J_aload_n hX 1 dX11_law_48 rfl rfl ?_
    refine J_getR hX 500 dX11_law_49 fl_X11_29 ob_1 rfl rfl ?_
    refine J_getI hX dX11_law_52 fl_X11_112 (law_ob isl_500) rfl ?_
    exact E_Ix hX dX11_law_55 hf
set_option maxRecDepth 100000 in
set_option maxHeartbeats 200000 in
theorem C_X11_law {G : GX} (hG : GOk G) {h : Hp} {r : Except String Int32 × Hp} (hf : f_X11_law h = some r) : Ctr G 46 yX11_law cX11_law 2 (some .int) [.ref 1] h (oX tvI r) :=
  Ctr_of hG RX11 rfl (by decide) rfl (fun X _ hdx hX => T_X11_law_0 hX hdx h hf)
theorem dX11_fault_0 : decode cX11_fault 0 = .ok (.aload_n 0, 1) := by decide +kernel
theorem dX11_fault_1 : decode cX11_fault 1 = .ok (.getfield 10, 3) := by decide +kernel
theorem dX11_fault_4 : decode cX11_fault 4 = .ok (.getfield 115, 3) := by decide +kernel
theorem dX11_fault_7 : decode cX11_fault 7 = .ok (.ireturn, 1) := by decide +kernel
set_option maxRecDepth 100000 in
set_option maxHeartbeats 200000 in
theorem T_X11_fault_0 {X : CX} (hX : Ok X cX11_fault 1 RX11 (some .int)) (hdx : dX X = 2) {r : Int32} (h : Hp) (hf : f_X11_fault h = r) : J X ((.inl (some (.int r)), h)) 0 [(0, .ref 1)] [] h := by
  unfold f_X11_fault at hf
  refine J_aload_n hX 0 dX11_fault_0 rfl rfl ?_
  refine J_getR hX 2 dX11_fault_1 fl_X11_10 ob_1 rfl rfl ?_
  refine J_getI hX dX11_fault_4 fl_X11_115 ob_2 rfl ?_
  exact E_It hX dX11_fault_7 hf
set_option maxRecDepth 100000 in
set_option maxHeartbeats 200000 in
theorem C_X11_fault {G : GX} (hG : GOk G) {h : Hp} {r : Int32} (hf : f_X11_fault h = r) : Ctr G 2 yX11_fault cX11_fault 1 (some .int) [.ref 1] h ((.inl (some (.int r)), h)) :=
  Ctr_of hG RX11 rfl (by decide) rfl (fun X _ hdx hX => T_X11_fault_0 hX hdx h hf)
theorem dX11_checkHouse_0 : decode cX11_checkHouse 0 = .ok (.aload_n 0, 1) := by decide +kernel
theorem dX11_checkHouse_1 : decode cX11_checkHouse 1 = .ok (.getfield 19, 3) := by decide +kernel
theorem dX11_checkHouse_4 : decode cX11_checkHouse 4 = .ok (.iload_n 1, 1) := by decide +kernel
theorem dX11_checkHouse_5 : decode cX11_checkHouse 5 = .ok (.invokevirtual 131, 3) := by decide +kernel
theorem dX11_checkHouse_8 : decode cX11_checkHouse 8 = .ok (.ifCond .ne 11, 3) := by decide +kernel
theorem dX11_checkHouse_11 : decode cX11_checkHouse 11 = .ok (.new 404, 3) := by decide +kernel
theorem dX11_checkHouse_14 : decode cX11_checkHouse 14 = .ok (.dup, 1) := by decide +kernel
theorem dX11_checkHouse_15 : decode cX11_checkHouse 15 = .ok (.invokespecial 406, 3) := by decide +kernel
theorem dX11_checkHouse_18 : decode cX11_checkHouse 18 = .ok (.athrow, 1) := by decide +kernel
theorem dX11_checkHouse_19 : decode cX11_checkHouse 19 = .ok (.return_, 1) := by decide +kernel
set_option maxRecDepth 100000 in
set_option maxHeartbeats 200000 in
theorem T_X11_checkHouse_0 {X : CX} (hX : Ok X cX11_checkHouse 2 RX11 none) (hdx : dX X = 10) {r : Except String Unit × Hp} (x1 : Int32) (h : Hp) (hf : f_X11_checkHouse x1 h = some r) : J X (oX tvV r) 0 [(0, .ref 1), (1, .int x1)] [] h := by
  unfold f_X11_checkHouse at hf
  refine J_aload_n hX 0 dX11_checkHouse_0 rfl rfl ?_
  refine J_getR hX 100 dX11_checkHouse_1 fl_X11_19 ob_1 rfl rfl ?_
  refine J_iload_n hX 1 dX11_checkHouse_4 rfl rfl ?_
  refine V_1 hX [.int x1] dX11_checkHouse_5 cw_X11_131 (city_ob isc_100) rfl (C_X1_isHouse (okG hX) isc_100 rfl) (ltD hdx rfl) rfl rfl rfl rfl ?_
  rcases ifE hf with ⟨c_1, hf⟩ | ⟨c_1, hf⟩
  · refine J_if_neT hX 19 dX11_checkHouse_8 rfl (b2iT c_1) ?_
    exact E_Vx hX dX11_checkHouse_19 hf
  · refine J_if_neF hX 19 dX11_checkHouse_8 rfl (b2iF c_1) ?_
    exact E_thr hX exN dX11_checkHouse_11 dX11_checkHouse_14 dX11_checkHouse_15 dX11_checkHouse_18 tw_X11_404_406 (ltD hdx rfl) rfl hf
set_option maxRecDepth 100000 in
set_option maxHeartbeats 200000 in
theorem C_X11_checkHouse {G : GX} (hG : GOk G) {x1 : Int32} {h : Hp} {r : Except String Unit × Hp} (hf : f_X11_checkHouse x1 h = some r) : Ctr G 10 yX11_checkHouse cX11_checkHouse 2 none [.ref 1, .int x1] h (oX tvV r) :=
  Ctr_of hG RX11 rfl (by decide) rfl (fun X _ hdx hX => T_X11_checkHouse_0 hX hdx x1 h hf)
theorem dX11_ownOf_0 : decode cX11_ownOf 0 = .ok (.aload_n 0, 1) := by decide +kernel
theorem dX11_ownOf_1 : decode cX11_ownOf 1 = .ok (.getfield 19, 3) := by decide +kernel
theorem dX11_ownOf_4 : decode cX11_ownOf 4 = .ok (.iload_n 1, 1) := by decide +kernel
theorem dX11_ownOf_5 : decode cX11_ownOf 5 = .ok (.invokevirtual 131, 3) := by decide +kernel
theorem dX11_ownOf_8 : decode cX11_ownOf 8 = .ok (.ifCond .ne 5, 3) := by decide +kernel
theorem dX11_ownOf_11 : decode cX11_ownOf 11 = .ok (.iconst 0, 1) := by decide +kernel
theorem dX11_ownOf_12 : decode cX11_ownOf 12 = .ok (.ireturn, 1) := by decide +kernel
theorem dX11_ownOf_13 : decode cX11_ownOf 13 = .ok (.iload_n 2, 1) := by decide +kernel
theorem dX11_ownOf_14 : decode cX11_ownOf 14 = .ok (.tableswitch 70 0 3 #[30, 40, 50, 60], 30) := by decide +kernel
theorem dX11_ownOf_44 : decode cX11_ownOf 44 = .ok (.aload_n 0, 1) := by decide +kernel
theorem dX11_ownOf_45 : decode cX11_ownOf 45 = .ok (.getfield 19, 3) := by decide +kernel
theorem dX11_ownOf_48 : decode cX11_ownOf 48 = .ok (.getfield 135, 3) := by decide +kernel
theorem dX11_ownOf_51 : decode cX11_ownOf 51 = .ok (.iload_n 1, 1) := by decide +kernel
theorem dX11_ownOf_52 : decode cX11_ownOf 52 = .ok (.iaload, 1) := by decide +kernel
theorem dX11_ownOf_53 : decode cX11_ownOf 53 = .ok (.ireturn, 1) := by decide +kernel
theorem dX11_ownOf_54 : decode cX11_ownOf 54 = .ok (.aload_n 0, 1) := by decide +kernel
theorem dX11_ownOf_55 : decode cX11_ownOf 55 = .ok (.getfield 19, 3) := by decide +kernel
theorem dX11_ownOf_58 : decode cX11_ownOf 58 = .ok (.getfield 139, 3) := by decide +kernel
theorem dX11_ownOf_61 : decode cX11_ownOf 61 = .ok (.iload_n 1, 1) := by decide +kernel
theorem dX11_ownOf_62 : decode cX11_ownOf 62 = .ok (.iaload, 1) := by decide +kernel
theorem dX11_ownOf_63 : decode cX11_ownOf 63 = .ok (.ireturn, 1) := by decide +kernel
theorem dX11_ownOf_64 : decode cX11_ownOf 64 = .ok (.aload_n 0, 1) := by decide +kernel
theorem dX11_ownOf_65 : decode cX11_ownOf 65 = .ok (.getfield 19, 3) := by decide +kernel
theorem dX11_ownOf_68 : decode cX11_ownOf 68 = .ok (.getfield 142, 3) := by decide +kernel
theorem dX11_ownOf_71 : decode cX11_ownOf 71 = .ok (.iload_n 1, 1) := by decide +kernel
theorem dX11_ownOf_72 : decode cX11_ownOf 72 = .ok (.iaload, 1) := by decide +kernel
theorem dX11_ownOf_73 : decode cX11_ownOf 73 = .ok (.ireturn, 1) := by decide +kernel
theorem dX11_ownOf_74 : decode cX11_ownOf 74 = .ok (.aload_n 0, 1) := by decide +kernel
theorem dX11_ownOf_75 : decode cX11_ownOf 75 = .ok (.getfield 19, 3) := by decide +kernel
theorem dX11_ownOf_78 : decode cX11_ownOf 78 = .ok (.getfield 145, 3) := by decide +kernel
theorem dX11_ownOf_81 : decode cX11_ownOf 81 = .ok (.iload_n 1, 1) := by decide +kernel
theorem dX11_ownOf_82 : decode cX11_ownOf 82 = .ok (.iaload, 1) := by decide +kernel
theorem dX11_ownOf_83 : decode cX11_ownOf 83 = .ok (.ireturn, 1) := by decide +kernel
theorem dX11_ownOf_84 : decode cX11_ownOf 84 = .ok (.aload_n 0, 1) := by decide +kernel
theorem dX11_ownOf_85 : decode cX11_ownOf 85 = .ok (.getfield 19, 3) := by decide +kernel
theorem dX11_ownOf_88 : decode cX11_ownOf 88 = .ok (.iload_n 1, 1) := by decide +kernel
theorem dX11_ownOf_89 : decode cX11_ownOf 89 = .ok (.invokevirtual 148, 3) := by decide +kernel
theorem dX11_ownOf_92 : decode cX11_ownOf 92 = .ok (.ifCond .eq 7, 3) := by decide +kernel
theorem dX11_ownOf_95 : decode cX11_ownOf 95 = .ok (.iconst 0, 1) := by decide +kernel
theorem dX11_ownOf_96 : decode cX11_ownOf 96 = .ok (.goto 4, 3) := by decide +kernel
theorem dX11_ownOf_99 : decode cX11_ownOf 99 = .ok (.iconst 1, 1) := by decide +kernel
theorem dX11_ownOf_100 : decode cX11_ownOf 100 = .ok (.ireturn, 1) := by decide +kernel
set_option maxRecDepth 100000 in
set_option maxHeartbeats 200000 in
theorem T_X11_ownOf_0 {X : CX} (hX : Ok X cX11_ownOf 3 RX11 (some .int)) (hdx : dX X = 4) {r : Int32} (x1 : Int32) (x2 : Int32) (h : Hp) (hf : f_X11_ownOf x1 x2 h = some r) : J X ((.inl (some (.int r)), h)) 0 [(0, .ref 1), (1, .int x1), (2, .int x2)] [] h := by
  unfold f_X11_ownOf at hf
  refine J_aload_n hX 0 dX11_ownOf_0 rfl rfl ?_
  refine J_getR hX 100 dX11_ownOf_1 fl_X11_19 ob_1 rfl rfl ?_
  refine J_iload_n hX 1 dX11_ownOf_4 rfl rfl ?_
  refine V_1 hX [.int x1] dX11_ownOf_5 cw_X11_131 (city_ob isc_100) rfl (C_X1_isHouse (okG hX) isc_100 rfl) (ltD hdx rfl) rfl rfl rfl rfl ?_
  rcases ifE hf with ⟨c_1, hf⟩ | ⟨c_1, hf⟩
  · refine J_if_neT hX 13 dX11_ownOf_8 rfl (b2iT c_1) ?_
    refine J_iload_n hX 2 dX11_ownOf_13 rfl rfl ?_
    rcases ifE hf with ⟨c_2, hf⟩ | ⟨c_2, hf⟩
    · refine J_nm c_2 ?_
      refine J_switchIn hX (off := 30) 44 dX11_ownOf_14 (by decide) (by decide) (by decide) rfl ?_
      refine J_aload_n hX 0 dX11_ownOf_44 rfl rfl ?_
      refine J_getR hX 100 dX11_ownOf_45 fl_X11_19 ob_1 rfl rfl ?_
      refine J_getR hX 101 dX11_ownOf_48 fl_X11_135 (city_ob isc_100) rfl rfl ?_
      refine J_iload_n hX 1 dX11_ownOf_51 rfl rfl ?_
      obtain ⟨g_3, hf⟩ := gdE hf
      refine J_ald hX x1.toNatClampNeg dX11_ownOf_52 (city_ar 1 8 (by decide) isc_100) (Or.inl ⟨rfl, rfl⟩) g_3 rfl ?_
      exact E_Ip hX dX11_ownOf_53 hf
    rcases ifE hf with ⟨c_4, hf⟩ | ⟨c_4, hf⟩
    · refine J_nm c_4 ?_
      refine J_switchIn hX (off := 40) 54 dX11_ownOf_14 (by decide) (by decide) (by decide) rfl ?_
      refine J_aload_n hX 0 dX11_ownOf_54 rfl rfl ?_
      refine J_getR hX 100 dX11_ownOf_55 fl_X11_19 ob_1 rfl rfl ?_
      refine J_getR hX 102 dX11_ownOf_58 fl_X11_139 (city_ob isc_100) rfl rfl ?_
      refine J_iload_n hX 1 dX11_ownOf_61 rfl rfl ?_
      obtain ⟨g_5, hf⟩ := gdE hf
      refine J_ald hX x1.toNatClampNeg dX11_ownOf_62 (city_ar 2 8 (by decide) isc_100) (Or.inl ⟨rfl, rfl⟩) g_5 rfl ?_
      exact E_Ip hX dX11_ownOf_63 hf
    rcases ifE hf with ⟨c_6, hf⟩ | ⟨c_6, hf⟩
    · refine J_nm c_6 ?_
      refine J_switchIn hX (off := 50) 64 dX11_ownOf_14 (by decide) (by decide) (by decide) rfl ?_
      refine J_aload_n hX 0 dX11_ownOf_64 rfl rfl ?_
      refine J_getR hX 100 dX11_ownOf_65 fl_X11_19 ob_1 rfl rfl ?_
      refine J_getR hX 103 dX11_ownOf_68 fl_X11_142 (city_ob isc_100) rfl rfl ?_
      refine J_iload_n hX 1 dX11_ownOf_71 rfl rfl ?_
      obtain ⟨g_7, hf⟩ := gdE hf
      refine J_ald hX x1.toNatClampNeg dX11_ownOf_72 (city_ar 3 8 (by decide) isc_100) (Or.inl ⟨rfl, rfl⟩) g_7 rfl ?_
      exact E_Ip hX dX11_ownOf_73 hf
    rcases ifE hf with ⟨c_8, hf⟩ | ⟨c_8, hf⟩
    · refine J_nm c_8 ?_
      refine J_switchIn hX (off := 60) 74 dX11_ownOf_14 (by decide) (by decide) (by decide) rfl ?_
      refine J_aload_n hX 0 dX11_ownOf_74 rfl rfl ?_
      refine J_getR hX 100 dX11_ownOf_75 fl_X11_19 ob_1 rfl rfl ?_
      refine J_getR hX 104 dX11_ownOf_78 fl_X11_145 (city_ob isc_100) rfl rfl ?_
      refine J_iload_n hX 1 dX11_ownOf_81 rfl rfl ?_
      obtain ⟨g_9, hf⟩ := gdE hf
      refine J_ald hX x1.toNatClampNeg dX11_ownOf_82 (city_ar 4 8 (by decide) isc_100) (Or.inl ⟨rfl, rfl⟩) g_9 rfl ?_
      exact E_Ip hX dX11_ownOf_83 hf
    refine J_switchOut hX 84 dX11_ownOf_14 (sw_def 0 3 x2 (fun v_ a_ b_ => ?_)) rfl ?_
    · rcases (show v_ = 0 ∨ v_ = 1 ∨ v_ = 2 ∨ v_ = 3 by omega) with rfl | rfl | rfl | rfl
      · exact c_2
      · exact c_4
      · exact c_6
      · exact c_8
    refine J_aload_n hX 0 dX11_ownOf_84 rfl rfl ?_
    refine J_getR hX 100 dX11_ownOf_85 fl_X11_19 ob_1 rfl rfl ?_
    refine J_iload_n hX 1 dX11_ownOf_88 rfl rfl ?_
    refine V_1 hX [.int x1] dX11_ownOf_89 cw_X11_148 (city_ob isc_100) rfl (C_X1_isUp (okG hX) isc_100 rfl) (ltD hdx rfl) rfl rfl rfl rfl ?_
    rcases ifE hf with ⟨c_10, hf⟩ | ⟨c_10, hf⟩
    · refine J_if_eqF hX 99 dX11_ownOf_92 rfl (b2iT c_10) ?_
      refine J_iconst hX 0 dX11_ownOf_95 rfl ?_
      refine J_goto hX 100 dX11_ownOf_96 rfl ?_
      exact E_Ip hX dX11_ownOf_100 hf
    · refine J_if_eqT hX 99 dX11_ownOf_92 rfl (b2iF c_10) ?_
      refine J_iconst hX 1 dX11_ownOf_99 rfl ?_
      exact E_Ip hX dX11_ownOf_100 hf
  · refine J_if_neF hX 13 dX11_ownOf_8 rfl (b2iF c_1) ?_
    refine J_iconst hX 0 dX11_ownOf_11 rfl ?_
    exact E_Ip hX dX11_ownOf_12 hf
set_option maxRecDepth 100000 in
set_option maxHeartbeats 200000 in
theorem C_X11_ownOf {G : GX} (hG : GOk G) {x1 : Int32} {x2 : Int32} {h : Hp} {r : Int32} (hf : f_X11_ownOf x1 x2 h = some r) : Ctr G 4 yX11_ownOf cX11_ownOf 3 (some .int) [.ref 1, .int x1, .int x2] h ((.inl (some (.int r)), h)) :=
  Ctr_of hG RX11 rfl (by decide) rfl (fun X _ hdx hX => T_X11_ownOf_0 hX hdx x1 x2 h hf)
theorem dX11_measured_0 : decode cX11_measured 0 = .ok (.aload_n 0, 1) := by decide +kernel
theorem dX11_measured_1 : decode cX11_measured 1 = .ok (.getfield 39, 3) := by decide +kernel
theorem dX11_measured_4 : decode cX11_measured 4 = .ok (.getfield 182, 3) := by decide +kernel
theorem dX11_measured_7 : decode cX11_measured 7 = .ok (.aload_n 0, 1) := by decide +kernel
theorem dX11_measured_8 : decode cX11_measured 8 = .ok (.getfield 19, 3) := by decide +kernel
theorem dX11_measured_11 : decode cX11_measured 11 = .ok (.aload_n 0, 1) := by decide +kernel
theorem dX11_measured_12 : decode cX11_measured 12 = .ok (.getfield 29, 3) := by decide +kernel
theorem dX11_measured_15 : decode cX11_measured 15 = .ok (.aload_n 0, 1) := by decide +kernel
theorem dX11_measured_16 : decode cX11_measured 16 = .ok (.getfield 19, 3) := by decide +kernel
theorem dX11_measured_19 : decode cX11_measured 19 = .ok (.getfield 205, 3) := by decide +kernel
theorem dX11_measured_22 : decode cX11_measured 22 = .ok (.invokevirtual 303, 3) := by decide +kernel
theorem dX11_measured_25 : decode cX11_measured 25 = .ok (.aload_n 0, 1) := by decide +kernel
theorem dX11_measured_26 : decode cX11_measured 26 = .ok (.getfield 39, 3) := by decide +kernel
theorem dX11_measured_29 : decode cX11_measured 29 = .ok (.getfield 182, 3) := by decide +kernel
theorem dX11_measured_32 : decode cX11_measured 32 = .ok (.areturn, 1) := by decide +kernel
set_option maxRecDepth 100000 in
set_option maxHeartbeats 200000 in
theorem T_X11_measured_0 {X : CX} (hX : Ok X cX11_measured 1 RX11 (some (.object "LeanCity$Strain"))) (hdx : dX X = 6) {r : Hp} (h : Hp) (hf : f_X11_measured h = some r) : J X ((.inl (some (.ref 5)), r)) 0 [(0, .ref 1)] [] h := by
  unfold f_X11_measured at hf
  refine J_aload_n hX 0 dX11_measured_0 rfl rfl ?_
  refine J_getR hX 4 dX11_measured_1 fl_X11_39 ob_1 rfl rfl ?_
  refine J_getR hX 5 dX11_measured_4 fl_X11_182 ob_4 rfl rfl ?_
  refine J_aload_n hX 0 dX11_measured_7 rfl rfl ?_
  refine J_getR hX 100 dX11_measured_8 fl_X11_19 ob_1 rfl rfl ?_
  refine J_aload_n hX 0 dX11_measured_11 rfl rfl ?_
  refine J_getR hX 500 dX11_measured_12 fl_X11_29 ob_1 rfl rfl ?_
  refine J_aload_n hX 0 dX11_measured_15 rfl rfl ?_
  refine J_getR hX 100 dX11_measured_16 fl_X11_19 ob_1 rfl rfl ?_
  refine J_getI hX dX11_measured_19 fl_X11_205 (city_ob isc_100) rfl ?_
  obtain ⟨r_1, e_2, hf⟩ := bdE hf
  refine V_0 hX [.ref 100, .ref 500, .int (h 100 12)] dX11_measured_22 cw_X11_303 ob_5 rfl (C_X9_measure (okG hX) isc_100 isl_500 e_2) (ltD hdx rfl) rfl rfl rfl rfl ?_
  refine J_aload_n hX 0 dX11_measured_25 rfl rfl ?_
  refine J_getR hX 4 dX11_measured_26 fl_X11_39 ob_1 rfl rfl ?_
  refine J_getR hX 5 dX11_measured_29 fl_X11_182 ob_4 rfl rfl ?_
  exact E_R5 hX dX11_measured_32 hf
set_option maxRecDepth 100000 in
set_option maxHeartbeats 200000 in
theorem C_X11_measured {G : GX} (hG : GOk G) {h : Hp} {r : Hp} (hf : f_X11_measured h = some r) : Ctr G 6 yX11_measured cX11_measured 1 (some (.object "LeanCity$Strain")) [.ref 1] h ((.inl (some (.ref 5)), r)) :=
  Ctr_of hG RX11 rfl (by decide) rfl (fun X _ hdx hX => T_X11_measured_0 hX hdx h hf)
theorem dX11_shareOf_0 : decode cX11_shareOf 0 = .ok (.aload_n 0, 1) := by decide +kernel
theorem dX11_shareOf_1 : decode cX11_shareOf 1 = .ok (.getfield 39, 3) := by decide +kernel
theorem dX11_shareOf_4 : decode cX11_shareOf 4 = .ok (.getfield 182, 3) := by decide +kernel
theorem dX11_shareOf_7 : decode cX11_shareOf 7 = .ok (.invokevirtual 186, 3) := by decide +kernel
theorem dX11_shareOf_10 : decode cX11_shareOf 10 = .ok (.istore_n 2, 1) := by decide +kernel
theorem dX11_shareOf_11 : decode cX11_shareOf 11 = .ok (.iload_n 2, 1) := by decide +kernel
theorem dX11_shareOf_12 : decode cX11_shareOf 12 = .ok (.ifCond .le 34, 3) := by decide +kernel
theorem dX11_shareOf_15 : decode cX11_shareOf 15 = .ok (.aload_n 0, 1) := by decide +kernel
theorem dX11_shareOf_16 : decode cX11_shareOf 16 = .ok (.getfield 19, 3) := by decide +kernel
theorem dX11_shareOf_19 : decode cX11_shareOf 19 = .ok (.iload_n 1, 1) := by decide +kernel
theorem dX11_shareOf_20 : decode cX11_shareOf 20 = .ok (.invokevirtual 148, 3) := by decide +kernel
theorem dX11_shareOf_23 : decode cX11_shareOf 23 = .ok (.ifCond .eq 23, 3) := by decide +kernel
theorem dX11_shareOf_26 : decode cX11_shareOf 26 = .ok (.aload_n 0, 1) := by decide +kernel
theorem dX11_shareOf_27 : decode cX11_shareOf 27 = .ok (.getfield 39, 3) := by decide +kernel
theorem dX11_shareOf_30 : decode cX11_shareOf 30 = .ok (.getfield 182, 3) := by decide +kernel
theorem dX11_shareOf_33 : decode cX11_shareOf 33 = .ok (.getfield 160, 3) := by decide +kernel
theorem dX11_shareOf_36 : decode cX11_shareOf 36 = .ok (.iload_n 1, 1) := by decide +kernel
theorem dX11_shareOf_37 : decode cX11_shareOf 37 = .ok (.iaload, 1) := by decide +kernel
theorem dX11_shareOf_38 : decode cX11_shareOf 38 = .ok (.bipush 100, 2) := by decide +kernel
theorem dX11_shareOf_40 : decode cX11_shareOf 40 = .ok (.imul, 1) := by decide +kernel
theorem dX11_shareOf_41 : decode cX11_shareOf 41 = .ok (.iload_n 2, 1) := by decide +kernel
theorem dX11_shareOf_42 : decode cX11_shareOf 42 = .ok (.idiv, 1) := by decide +kernel
theorem dX11_shareOf_43 : decode cX11_shareOf 43 = .ok (.goto 4, 3) := by decide +kernel
theorem dX11_shareOf_46 : decode cX11_shareOf 46 = .ok (.iconst 0, 1) := by decide +kernel
theorem dX11_shareOf_47 : decode cX11_shareOf 47 = .ok (.ireturn, 1) := by decide +kernel
set_option maxRecDepth 100000 in
set_option maxHeartbeats 200000 in
theorem T_X11_shareOf_0 {X : CX} (hX : Ok X cX11_shareOf 3 RX11 (some .int)) (hdx : dX X = 4) {r : Int32} (x1 : Int32) (h : Hp) (hf : f_X11_shareOf x1 h = some r) : J X ((.inl (some (.int r)), h)) 0 [(0, .ref 1), (1, .int x1)] [] h := by
  unfold f_X11_shareOf at hf
  refine J_aload_n hX 0 dX11_shareOf_0 rfl rfl ?_
  refine J_getR hX 4 dX11_shareOf_1 fl_X11_39 ob_1 rfl rfl ?_
  refine J_getR hX 5 dX11_shareOf_4 fl_X11_182 ob_4 rfl rfl ?_
  obtain ⟨r_1, e_2, hf⟩ := bdE hf
  refine V_1 hX [] dX11_shareOf_7 cw_X11_186 ob_5 rfl (C_X9_allBear (okG hX) e_2) (ltD hdx rfl) rfl rfl rfl rfl ?_
  refine J_istore_n hX [(2, .int r_1), (0, .ref 1), (1, .int x1)] dX11_shareOf_10 rfl rfl rfl ?_
  refine J_iload_n hX 0 dX11_shareOf_11 rfl rfl ?_
  rcases ifE hf with ⟨c_3, hf⟩ | ⟨c_3, hf⟩
  · refine J_if_leF hX 46 dX11_shareOf_12 rfl c_3 ?_
    refine J_aload_n hX 1 dX11_shareOf_15 rfl rfl ?_
    refine J_getR hX 100 dX11_shareOf_16 fl_X11_19 ob_1 rfl rfl ?_
    refine J_iload_n hX 2 dX11_shareOf_19 rfl rfl ?_
    refine V_1 hX [.int x1] dX11_shareOf_20 cw_X11_148 (city_ob isc_100) rfl (C_X1_isUp (okG hX) isc_100 rfl) (ltD hdx rfl) rfl rfl rfl rfl ?_
    rcases ifE hf with ⟨c_4, hf⟩ | ⟨c_4, hf⟩
    · refine J_if_eqF hX 46 dX11_shareOf_23 rfl (b2iT c_4) ?_
      refine J_aload_n hX 1 dX11_shareOf_26 rfl rfl ?_
      refine J_getR hX 4 dX11_shareOf_27 fl_X11_39 ob_1 rfl rfl ?_
      refine J_getR hX 5 dX11_shareOf_30 fl_X11_182 ob_4 rfl rfl ?_
      refine J_getR hX 7 dX11_shareOf_33 fl_X11_160 ob_5 rfl rfl ?_
      refine J_iload_n hX 2 dX11_shareOf_36 rfl rfl ?_
      obtain ⟨g_5, hf⟩ := gdE hf
      refine J_ald hX x1.toNatClampNeg dX11_shareOf_37 ar_7 (Or.inl ⟨rfl, rfl⟩) g_5 rfl ?_
      refine J_bipush hX 100 dX11_shareOf_38 rfl ?_
      refine J_imul hX dX11_shareOf_40 ?_
      refine J_iload_n hX 0 dX11_shareOf_41 rfl rfl ?_
      obtain ⟨g_6, hf⟩ := gdE hf
      refine J_idiv hX g_6 dX11_shareOf_42 ?_
      refine J_goto hX 47 dX11_shareOf_43 rfl ?_
      exact E_Ip hX dX11_shareOf_47 hf
    · refine J_if_eqT hX 46 dX11_shareOf_23 rfl (b2iF c_4) ?_
      refine J_iconst hX 0 dX11_shareOf_46 rfl ?_
      exact E_Ip hX dX11_shareOf_47 hf
  · refine J_if_leT hX 46 dX11_shareOf_12 rfl c_3 ?_
    refine J_iconst hX 0 dX11_shareOf_46 rfl ?_
    exact E_Ip hX dX11_shareOf_47 hf
set_option maxRecDepth 100000 in
set_option maxHeartbeats 200000 in
theorem C_X11_shareOf {G : GX} (hG : GOk G) {x1 : Int32} {h : Hp} {r : Int32} (hf : f_X11_shareOf x1 h = some r) : Ctr G 4 yX11_shareOf cX11_shareOf 3 (some .int) [.ref 1, .int x1] h ((.inl (some (.int r)), h)) :=
  Ctr_of hG RX11 rfl (by decide) rfl (fun X _ hdx hX => T_X11_shareOf_0 hX hdx x1 h hf)
theorem dX11_loadOf_0 : decode cX11_loadOf 0 = .ok (.aload_n 0, 1) := by decide +kernel
theorem dX11_loadOf_1 : decode cX11_loadOf 1 = .ok (.getfield 19, 3) := by decide +kernel
theorem dX11_loadOf_4 : decode cX11_loadOf 4 = .ok (.iload_n 1, 1) := by decide +kernel
theorem dX11_loadOf_5 : decode cX11_loadOf 5 = .ok (.invokevirtual 148, 3) := by decide +kernel
theorem dX11_loadOf_8 : decode cX11_loadOf 8 = .ok (.ifCond .ne 5, 3) := by decide +kernel
theorem dX11_loadOf_11 : decode cX11_loadOf 11 = .ok (.iconst 0, 1) := by decide +kernel
theorem dX11_loadOf_12 : decode cX11_loadOf 12 = .ok (.ireturn, 1) := by decide +kernel
theorem dX11_loadOf_13 : decode cX11_loadOf 13 = .ok (.aload_n 0, 1) := by decide +kernel
theorem dX11_loadOf_14 : decode cX11_loadOf 14 = .ok (.invokevirtual 151, 3) := by decide +kernel
theorem dX11_loadOf_17 : decode cX11_loadOf 17 = .ok (.astore_n 3, 1) := by decide +kernel
theorem dX11_loadOf_18 : decode cX11_loadOf 18 = .ok (.iload_n 2, 1) := by decide +kernel
theorem dX11_loadOf_19 : decode cX11_loadOf 19 = .ok (.tableswitch 91 5 11 #[41, 48, 55, 62, 69, 76, 82], 41) := by decide +kernel
theorem dX11_loadOf_60 : decode cX11_loadOf 60 = .ok (.aload_n 3, 1) := by decide +kernel
theorem dX11_loadOf_61 : decode cX11_loadOf 61 = .ok (.getfield 155, 3) := by decide +kernel
theorem dX11_loadOf_64 : decode cX11_loadOf 64 = .ok (.iload_n 1, 1) := by decide +kernel
theorem dX11_loadOf_65 : decode cX11_loadOf 65 = .ok (.iaload, 1) := by decide +kernel
theorem dX11_loadOf_66 : decode cX11_loadOf 66 = .ok (.ireturn, 1) := by decide +kernel
theorem dX11_loadOf_67 : decode cX11_loadOf 67 = .ok (.aload_n 3, 1) := by decide +kernel
theorem dX11_loadOf_68 : decode cX11_loadOf 68 = .ok (.getfield 160, 3) := by decide +kernel
theorem dX11_loadOf_71 : decode cX11_loadOf 71 = .ok (.iload_n 1, 1) := by decide +kernel
theorem dX11_loadOf_72 : decode cX11_loadOf 72 = .ok (.iaload, 1) := by decide +kernel
theorem dX11_loadOf_73 : decode cX11_loadOf 73 = .ok (.ireturn, 1) := by decide +kernel
theorem dX11_loadOf_74 : decode cX11_loadOf 74 = .ok (.aload_n 3, 1) := by decide +kernel
theorem dX11_loadOf_75 : decode cX11_loadOf 75 = .ok (.getfield 163, 3) := by decide +kernel
theorem dX11_loadOf_78 : decode cX11_loadOf 78 = .ok (.iload_n 1, 1) := by decide +kernel
theorem dX11_loadOf_79 : decode cX11_loadOf 79 = .ok (.iaload, 1) := by decide +kernel
theorem dX11_loadOf_80 : decode cX11_loadOf 80 = .ok (.ireturn, 1) := by decide +kernel
theorem dX11_loadOf_81 : decode cX11_loadOf 81 = .ok (.aload_n 3, 1) := by decide +kernel
theorem dX11_loadOf_82 : decode cX11_loadOf 82 = .ok (.getfield 166, 3) := by decide +kernel
theorem dX11_loadOf_85 : decode cX11_loadOf 85 = .ok (.iload_n 1, 1) := by decide +kernel
theorem dX11_loadOf_86 : decode cX11_loadOf 86 = .ok (.iaload, 1) := by decide +kernel
theorem dX11_loadOf_87 : decode cX11_loadOf 87 = .ok (.ireturn, 1) := by decide +kernel
theorem dX11_loadOf_88 : decode cX11_loadOf 88 = .ok (.aload_n 3, 1) := by decide +kernel
theorem dX11_loadOf_89 : decode cX11_loadOf 89 = .ok (.getfield 169, 3) := by decide +kernel
theorem dX11_loadOf_92 : decode cX11_loadOf 92 = .ok (.iload_n 1, 1) := by decide +kernel
theorem dX11_loadOf_93 : decode cX11_loadOf 93 = .ok (.iaload, 1) := by decide +kernel
theorem dX11_loadOf_94 : decode cX11_loadOf 94 = .ok (.ireturn, 1) := by decide +kernel
theorem dX11_loadOf_95 : decode cX11_loadOf 95 = .ok (.aload_n 0, 1) := by decide +kernel
theorem dX11_loadOf_96 : decode cX11_loadOf 96 = .ok (.iload_n 1, 1) := by decide +kernel
theorem dX11_loadOf_97 : decode cX11_loadOf 97 = .ok (.invokevirtual 172, 3) := by decide +kernel
theorem dX11_loadOf_100 : decode cX11_loadOf 100 = .ok (.ireturn, 1) := by decide +kernel
theorem dX11_loadOf_101 : decode cX11_loadOf 101 = .ok (.aload_n 0, 1) := by decide +kernel
theorem dX11_loadOf_102 : decode cX11_loadOf 102 = .ok (.getfield 19, 3) := by decide +kernel
theorem dX11_loadOf_105 : decode cX11_loadOf 105 = .ok (.iload_n 1, 1) := by decide +kernel
theorem dX11_loadOf_106 : decode cX11_loadOf 106 = .ok (.invokevirtual 176, 3) := by decide +kernel
theorem dX11_loadOf_109 : decode cX11_loadOf 109 = .ok (.ireturn, 1) := by decide +kernel
theorem dX11_loadOf_110 : decode cX11_loadOf 110 = .ok (.aload_n 0, 1) := by decide +kernel
theorem dX11_loadOf_111 : decode cX11_loadOf 111 = .ok (.getfield 19, 3) := by decide +kernel
theorem dX11_loadOf_114 : decode cX11_loadOf 114 = .ok (.iload_n 1, 1) := by decide +kernel
theorem dX11_loadOf_115 : decode cX11_loadOf 115 = .ok (.invokevirtual 179, 3) := by decide +kernel
theorem dX11_loadOf_118 : decode cX11_loadOf 118 = .ok (.ireturn, 1) := by decide +kernel
set_option maxRecDepth 100000 in
set_option maxHeartbeats 200000 in
theorem T_X11_loadOf_0 {X : CX} (hX : Ok X cX11_loadOf 4 RX11 (some .int)) (hdx : dX X = 7) {r : Int32 × Hp} (x1 : Int32) (x2 : Int32) (h : Hp) (hf : f_X11_loadOf x1 x2 h = some r) : J X ((.inl (some (.int r.1)), r.2)) 0 [(0, .ref 1), (1, .int x1), (2, .int x2)] [] h := by
  unfold f_X11_loadOf at hf
  refine J_aload_n hX 0 dX11_loadOf_0 rfl rfl ?_
  refine J_getR hX 100 dX11_loadOf_1 fl_X11_19 ob_1 rfl rfl ?_
  refine J_iload_n hX 1 dX11_loadOf_4 rfl rfl ?_
  refine V_1 hX [.int x1] dX11_loadOf_5 cw_X11_148 (city_ob isc_100) rfl (C_X1_isUp (okG hX) isc_100 rfl) (ltD hdx rfl) rfl rfl rfl rfl ?_
  rcases ifE hf with ⟨c_1, hf⟩ | ⟨c_1, hf⟩
  · refine J_if_neT hX 13 dX11_loadOf_8 rfl (b2iT c_1) ?_
    refine J_aload_n hX 0 dX11_loadOf_13 rfl rfl ?_
    obtain ⟨r_2, e_3, hf⟩ := bdE hf
    refine V_1 hX [] dX11_loadOf_14 cw_X11_151 ob_1 rfl (C_X11_measured (okG hX) e_3) (ltD hdx rfl) rfl rfl rfl rfl ?_
    refine J_astore_n hX [(3, .ref 5), (0, .ref 1), (1, .int x1), (2, .int x2)] dX11_loadOf_17 rfl rfl rfl ?_
    refine J_iload_n hX 3 dX11_loadOf_18 rfl rfl ?_
    rcases ifE hf with ⟨c_4, hf⟩ | ⟨c_4, hf⟩
    · refine J_nm c_4 ?_
      refine J_switchIn hX (off := 41) 60 dX11_loadOf_19 (by decide) (by decide) (by decide) rfl ?_
      refine J_aload_n hX 0 dX11_loadOf_60 rfl rfl ?_
      refine J_getR hX 6 dX11_loadOf_61 fl_X11_155 ob_5 rfl rfl ?_
      refine J_iload_n hX 2 dX11_loadOf_64 rfl rfl ?_
      obtain ⟨g_5, hf⟩ := gdE hf
      refine J_ald hX x1.toNatClampNeg dX11_loadOf_65 ar_6 (Or.inl ⟨rfl, rfl⟩) g_5 rfl ?_
      exact E_Ii hX dX11_loadOf_66 hf
    rcases ifE hf with ⟨c_6, hf⟩ | ⟨c_6, hf⟩
    · refine J_nm c_6 ?_
      refine J_switchIn hX (off := 48) 67 dX11_loadOf_19 (by decide) (by decide) (by decide) rfl ?_
      refine J_aload_n hX 0 dX11_loadOf_67 rfl rfl ?_
      refine J_getR hX 7 dX11_loadOf_68 fl_X11_160 ob_5 rfl rfl ?_
      refine J_iload_n hX 2 dX11_loadOf_71 rfl rfl ?_
      obtain ⟨g_7, hf⟩ := gdE hf
      refine J_ald hX x1.toNatClampNeg dX11_loadOf_72 ar_7 (Or.inl ⟨rfl, rfl⟩) g_7 rfl ?_
      exact E_Ii hX dX11_loadOf_73 hf
    rcases ifE hf with ⟨c_8, hf⟩ | ⟨c_8, hf⟩
    · refine J_nm c_8 ?_
      refine J_switchIn hX (off := 55) 74 dX11_loadOf_19 (by decide) (by decide) (by decide) rfl ?_
      refine J_aload_n hX 0 dX11_loadOf_74 rfl rfl ?_
      refine J_getR hX 8 dX11_loadOf_75 fl_X11_163 ob_5 rfl rfl ?_
      refine J_iload_n hX 2 dX11_loadOf_78 rfl rfl ?_
      obtain ⟨g_9, hf⟩ := gdE hf
      refine J_ald hX x1.toNatClampNeg dX11_loadOf_79 ar_8 (Or.inl ⟨rfl, rfl⟩) g_9 rfl ?_
      exact E_Ii hX dX11_loadOf_80 hf
    rcases ifE hf with ⟨c_10, hf⟩ | ⟨c_10, hf⟩
    · refine J_nm c_10 ?_
      refine J_switchIn hX (off := 62) 81 dX11_loadOf_19 (by decide) (by decide) (by decide) rfl ?_
      refine J_aload_n hX 0 dX11_loadOf_81 rfl rfl ?_
      refine J_getR hX 9 dX11_loadOf_82 fl_X11_166 ob_5 rfl rfl ?_
      refine J_iload_n hX 2 dX11_loadOf_85 rfl rfl ?_
      obtain ⟨g_11, hf⟩ := gdE hf
      refine J_ald hX x1.toNatClampNeg dX11_loadOf_86 ar_9 (Or.inl ⟨rfl, rfl⟩) g_11 rfl ?_
      exact E_Ii hX dX11_loadOf_87 hf
    rcases ifE hf with ⟨c_12, hf⟩ | ⟨c_12, hf⟩
    · refine J_nm c_12 ?_
      refine J_switchIn hX (off := 69) 88 dX11_loadOf_19 (by decide) (by decide) (by decide) rfl ?_
      refine J_aload_n hX 0 dX11_loadOf_88 rfl rfl ?_
      refine J_getR hX 10 dX11_loadOf_89 fl_X11_169 ob_5 rfl rfl ?_
      refine J_iload_n hX 2 dX11_loadOf_92 rfl rfl ?_
      obtain ⟨g_13, hf⟩ := gdE hf
      refine J_ald hX x1.toNatClampNeg dX11_loadOf_93 ar_10 (Or.inl ⟨rfl, rfl⟩) g_13 rfl ?_
      exact E_Ii hX dX11_loadOf_94 hf
    rcases ifE hf with ⟨c_14, hf⟩ | ⟨c_14, hf⟩
    · refine J_nm c_14 ?_
      refine J_switchIn hX (off := 76) 95 dX11_loadOf_19 (by decide) (by decide) (by decide) rfl ?_
      refine J_aload_n hX 1 dX11_loadOf_95 rfl rfl ?_
      refine J_iload_n hX 2 dX11_loadOf_96 rfl rfl ?_
      obtain ⟨r_15, e_16, hf⟩ := bdE hf
      refine V_1 hX [.int x1] dX11_loadOf_97 cw_X11_172 ob_1 rfl (C_X11_shareOf (okG hX) e_16) (ltD hdx rfl) rfl rfl rfl rfl ?_
      exact E_Ii hX dX11_loadOf_100 hf
    rcases ifE hf with ⟨c_17, hf⟩ | ⟨c_17, hf⟩
    · refine J_nm c_17 ?_
      refine J_switchIn hX (off := 82) 101 dX11_loadOf_19 (by decide) (by decide) (by decide) rfl ?_
      refine J_aload_n hX 1 dX11_loadOf_101 rfl rfl ?_
      refine J_getR hX 100 dX11_loadOf_102 fl_X11_19 ob_1 rfl rfl ?_
      refine J_iload_n hX 2 dX11_loadOf_105 rfl rfl ?_
      obtain ⟨r_18, e_19, hf⟩ := bdE hf
      refine V_1 hX [.int x1] dX11_loadOf_106 cw_X11_176 (city_ob isc_100) rfl (C_X1_priceOf (okG hX) isc_100 e_19) (ltD hdx rfl) rfl rfl rfl rfl ?_
      exact E_Ii hX dX11_loadOf_109 hf
    refine J_switchOut hX 110 dX11_loadOf_19 (sw_def 5 11 x2 (fun v_ a_ b_ => ?_)) rfl ?_
    · rcases (show v_ = 5 ∨ v_ = 6 ∨ v_ = 7 ∨ v_ = 8 ∨ v_ = 9 ∨ v_ = 10 ∨ v_ = 11 by omega) with rfl | rfl | rfl | rfl | rfl | rfl | rfl
      · exact c_4
      · exact c_6
      · exact c_8
      · exact c_10
      · exact c_12
      · exact c_14
      · exact c_17
    refine J_aload_n hX 1 dX11_loadOf_110 rfl rfl ?_
    refine J_getR hX 100 dX11_loadOf_111 fl_X11_19 ob_1 rfl rfl ?_
    refine J_iload_n hX 2 dX11_loadOf_114 rfl rfl ?_
    obtain ⟨r_20, e_21, hf⟩ := bdE hf
    refine V_1 hX [.int x1] dX11_loadOf_115 cw_X11_179 (city_ob isc_100) rfl (C_X1_gateOf (okG hX) isc_100 e_21) (ltD hdx rfl) rfl rfl rfl rfl ?_
    exact E_Ii hX dX11_loadOf_118 hf
  · refine J_if_neF hX 13 dX11_loadOf_8 rfl (b2iF c_1) ?_
    refine J_iconst hX 0 dX11_loadOf_11 rfl ?_
    exact E_Ii hX dX11_loadOf_12 hf
set_option maxRecDepth 100000 in
set_option maxHeartbeats 200000 in
theorem C_X11_loadOf {G : GX} (hG : GOk G) {x1 : Int32} {x2 : Int32} {h : Hp} {r : Int32 × Hp} (hf : f_X11_loadOf x1 x2 h = some r) : Ctr G 7 yX11_loadOf cX11_loadOf 4 (some .int) [.ref 1, .int x1, .int x2] h ((.inl (some (.int r.1)), r.2)) :=
  Ctr_of hG RX11 rfl (by decide) rfl (fun X _ hdx hX => T_X11_loadOf_0 hX hdx x1 x2 h hf)
theorem dX11_house_0 : decode cX11_house 0 = .ok (.aload_n 0, 1) := by decide +kernel
theorem dX11_house_1 : decode cX11_house 1 = .ok (.iload_n 1, 1) := by decide +kernel
theorem dX11_house_2 : decode cX11_house 2 = .ok (.invokevirtual 118, 3) := by decide +kernel
theorem dX11_house_5 : decode cX11_house 5 = .ok (.iload_n 2, 1) := by decide +kernel
theorem dX11_house_6 : decode cX11_house 6 = .ok (.ifCond .lt 9, 3) := by decide +kernel
theorem dX11_house_9 : decode cX11_house 9 = .ok (.iload_n 2, 1) := by decide +kernel
theorem dX11_house_10 : decode cX11_house 10 = .ok (.bipush 12, 2) := by decide +kernel
theorem dX11_house_12 : decode cX11_house 12 = .ok (.if_icmp .le 11, 3) := by decide +kernel
theorem dX11_house_15 : decode cX11_house 15 = .ok (.new 121, 3) := by decide +kernel
theorem dX11_house_18 : decode cX11_house 18 = .ok (.dup, 1) := by decide +kernel
theorem dX11_house_19 : decode cX11_house 19 = .ok (.invokespecial 123, 3) := by decide +kernel
theorem dX11_house_22 : decode cX11_house 22 = .ok (.athrow, 1) := by decide +kernel
theorem dX11_house_23 : decode cX11_house 23 = .ok (.iload_n 2, 1) := by decide +kernel
theorem dX11_house_24 : decode cX11_house 24 = .ok (.iconst 4, 1) := by decide +kernel
theorem dX11_house_25 : decode cX11_house 25 = .ok (.if_icmp .gt 12, 3) := by decide +kernel
theorem dX11_house_28 : decode cX11_house 28 = .ok (.aload_n 0, 1) := by decide +kernel
theorem dX11_house_29 : decode cX11_house 29 = .ok (.iload_n 1, 1) := by decide +kernel
theorem dX11_house_30 : decode cX11_house 30 = .ok (.iload_n 2, 1) := by decide +kernel
theorem dX11_house_31 : decode cX11_house 31 = .ok (.invokevirtual 124, 3) := by decide +kernel
theorem dX11_house_34 : decode cX11_house 34 = .ok (.goto 9, 3) := by decide +kernel
theorem dX11_house_37 : decode cX11_house 37 = .ok (.aload_n 0, 1) := by decide +kernel
theorem dX11_house_38 : decode cX11_house 38 = .ok (.iload_n 1, 1) := by decide +kernel
theorem dX11_house_39 : decode cX11_house 39 = .ok (.iload_n 2, 1) := by decide +kernel
theorem dX11_house_40 : decode cX11_house 40 = .ok (.invokevirtual 128, 3) := by decide +kernel
theorem dX11_house_43 : decode cX11_house 43 = .ok (.ireturn, 1) := by decide +kernel
set_option maxRecDepth 100000 in
set_option maxHeartbeats 200000 in
theorem T_X11_house_15 {X : CX} (hX : Ok X cX11_house 3 RX11 (some .int)) (hdx : dX X = 11) {r : Except String Int32 × Hp} (h : Hp) (hf : F_X11_house_15 h = some r) : J X (oX tvI r) 15 [] [] h := by
  unfold F_X11_house_15 at hf
  exact E_thr hX exN dX11_house_15 dX11_house_18 dX11_house_19 dX11_house_22 tw_X11_121_123 (ltD hdx rfl) rfl hf
set_option maxRecDepth 100000 in
set_option maxHeartbeats 200000 in
theorem T_X11_house_0 {X : CX} (hX : Ok X cX11_house 3 RX11 (some .int)) (hdx : dX X = 11) {r : Except String Int32 × Hp} (x1 : Int32) (x2 : Int32) (h : Hp) (hf : f_X11_house x1 x2 h = some r) : J X (oX tvI r) 0 [(0, .ref 1), (1, .int x1), (2, .int x2)] [] h := by
  unfold f_X11_house at hf
  refine J_aload_n hX 0 dX11_house_0 rfl rfl ?_
  refine J_iload_n hX 1 dX11_house_1 rfl rfl ?_
  obtain ⟨r_1, e_2, hf⟩ := bdE hf
  rcases exE hf with ⟨v_3, h_4, z_6, hg⟩ | ⟨E_5, h_4, z_6, z_6r⟩
  all_goals clear hf
  rotate_left
  · subst z_6
    exact V_kx hX [.int x1] dX11_house_2 cw_X11_118 ob_1 rfl (C_X11_checkHouse (okG hX) e_2) (ltD hdx rfl) rfl rfl rfl rfl z_6r
  subst z_6
  have hf := hg
  clear hg
  refine V_k0 hX [.int x1] dX11_house_2 cw_X11_118 ob_1 rfl (C_X11_checkHouse (okG hX) e_2) (ltD hdx rfl) rfl rfl rfl rfl rfl ?_
  refine J_iload_n hX 2 dX11_house_5 rfl rfl ?_
  rcases ifE hf with ⟨c_7, hf⟩ | ⟨c_7, hf⟩
  · refine J_if_ltT hX 15 dX11_house_6 rfl c_7 ?_
    refine J_sub [] [] rfl ?_
    exact T_X11_house_15 hX hdx h_4 hf
  · refine J_if_ltF hX 15 dX11_house_6 rfl c_7 ?_
    refine J_iload_n hX 2 dX11_house_9 rfl rfl ?_
    refine J_bipush hX 12 dX11_house_10 rfl ?_
    rcases ifE hf with ⟨c_8, hf⟩ | ⟨c_8, hf⟩
    · refine J_icmp_leF hX 23 dX11_house_12 rfl c_8 ?_
      refine J_sub [] [] rfl ?_
      exact T_X11_house_15 hX hdx h_4 hf
    · refine J_icmp_leT hX 23 dX11_house_12 rfl c_8 ?_
      refine J_iload_n hX 2 dX11_house_23 rfl rfl ?_
      refine J_iconst hX 4 dX11_house_24 rfl ?_
      rcases ifE hf with ⟨c_9, hf⟩ | ⟨c_9, hf⟩
      · refine J_icmp_gtT hX 37 dX11_house_25 rfl c_9 ?_
        refine J_aload_n hX 0 dX11_house_37 rfl rfl ?_
        refine J_iload_n hX 1 dX11_house_38 rfl rfl ?_
        refine J_iload_n hX 2 dX11_house_39 rfl rfl ?_
        obtain ⟨r_10, e_11, hf⟩ := bdE hf
        refine V_1 hX [.int x1, .int x2] dX11_house_40 cw_X11_128 ob_1 rfl (C_X11_loadOf (okG hX) e_11) (ltD hdx rfl) rfl rfl rfl rfl ?_
        exact E_Ix hX dX11_house_43 hf
      · refine J_icmp_gtF hX 37 dX11_house_25 rfl c_9 ?_
        refine J_aload_n hX 0 dX11_house_28 rfl rfl ?_
        refine J_iload_n hX 1 dX11_house_29 rfl rfl ?_
        refine J_iload_n hX 2 dX11_house_30 rfl rfl ?_
        obtain ⟨r_12, e_13, hf⟩ := bdE hf
        refine V_1 hX [.int x1, .int x2] dX11_house_31 cw_X11_124 ob_1 rfl (C_X11_ownOf (okG hX) e_13) (ltD hdx rfl) rfl rfl rfl rfl ?_
        refine J_goto hX 43 dX11_house_34 rfl ?_
        exact E_Ix hX dX11_house_43 hf
set_option maxRecDepth 100000 in
set_option maxHeartbeats 200000 in
theorem C_X11_house {G : GX} (hG : GOk G) {x1 : Int32} {x2 : Int32} {h : Hp} {r : Except String Int32 × Hp} (hf : f_X11_house x1 x2 h = some r) : Ctr G 11 yX11_house cX11_house 3 (some .int) [.ref 1, .int x1, .int x2] h (oX tvI r) :=
  Ctr_of hG RX11 rfl (by decide) rfl (fun X _ hdx hX => T_X11_house_0 hX hdx x1 x2 h hf)
theorem dX11_part_0 : decode cX11_part 0 = .ok (.aload_n 0, 1) := by decide +kernel
theorem dX11_part_1 : decode cX11_part 1 = .ok (.iload_n 1, 1) := by decide +kernel
theorem dX11_part_2 : decode cX11_part 2 = .ok (.invokevirtual 118, 3) := by decide +kernel
theorem dX11_part_5 : decode cX11_part 5 = .ok (.aload_n 0, 1) := by decide +kernel
theorem dX11_part_6 : decode cX11_part 6 = .ok (.iload_n 2, 1) := by decide +kernel
theorem dX11_part_7 : decode cX11_part 7 = .ok (.invokevirtual 118, 3) := by decide +kernel
theorem dX11_part_10 : decode cX11_part 10 = .ok (.aload_n 0, 1) := by decide +kernel
theorem dX11_part_11 : decode cX11_part 11 = .ok (.getfield 19, 3) := by decide +kernel
theorem dX11_part_14 : decode cX11_part 14 = .ok (.iload_n 1, 1) := by decide +kernel
theorem dX11_part_15 : decode cX11_part 15 = .ok (.iload_n 2, 1) := by decide +kernel
theorem dX11_part_16 : decode cX11_part 16 = .ok (.invokevirtual 190, 3) := by decide +kernel
theorem dX11_part_19 : decode cX11_part 19 = .ok (.ireturn, 1) := by decide +kernel
set_option maxRecDepth 100000 in
set_option maxHeartbeats 200000 in
theorem T_X11_part_0 {X : CX} (hX : Ok X cX11_part 3 RX11 (some .int)) (hdx : dX X = 11) {r : Except String Int32 × Hp} (x1 : Int32) (x2 : Int32) (h : Hp) (hf : f_X11_part x1 x2 h = some r) : J X (oX tvI r) 0 [(0, .ref 1), (1, .int x1), (2, .int x2)] [] h := by
  unfold f_X11_part at hf
  refine J_aload_n hX 0 dX11_part_0 rfl rfl ?_
  refine J_iload_n hX 1 dX11_part_1 rfl rfl ?_
  obtain ⟨r_1, e_2, hf⟩ := bdE hf
  rcases exE hf with ⟨v_3, h_4, z_6, hg⟩ | ⟨E_5, h_4, z_6, z_6r⟩
  all_goals clear hf
  rotate_left
  · subst z_6
    exact V_kx hX [.int x1] dX11_part_2 cw_X11_118 ob_1 rfl (C_X11_checkHouse (okG hX) e_2) (ltD hdx rfl) rfl rfl rfl rfl z_6r
  subst z_6
  have hf := hg
  clear hg
  refine V_k0 hX [.int x1] dX11_part_2 cw_X11_118 ob_1 rfl (C_X11_checkHouse (okG hX) e_2) (ltD hdx rfl) rfl rfl rfl rfl rfl ?_
  refine J_aload_n hX 0 dX11_part_5 rfl rfl ?_
  refine J_iload_n hX 2 dX11_part_6 rfl rfl ?_
  obtain ⟨r_7, e_8, hf⟩ := bdE hf
  rcases exE hf with ⟨v_9, h_10, z_12, hg⟩ | ⟨E_11, h_10, z_12, z_12r⟩
  all_goals clear hf
  rotate_left
  · subst z_12
    exact V_kx hX [.int x2] dX11_part_7 cw_X11_118 ob_1 rfl (C_X11_checkHouse (okG hX) e_8) (ltD hdx rfl) rfl rfl rfl rfl z_12r
  subst z_12
  have hf := hg
  clear hg
  refine V_k0 hX [.int x2] dX11_part_7 cw_X11_118 ob_1 rfl (C_X11_checkHouse (okG hX) e_8) (ltD hdx rfl) rfl rfl rfl rfl rfl ?_
  refine J_aload_n hX 0 dX11_part_10 rfl rfl ?_
  refine J_getR hX 100 dX11_part_11 fl_X11_19 ob_1 rfl rfl ?_
  refine J_iload_n hX 1 dX11_part_14 rfl rfl ?_
  refine J_iload_n hX 2 dX11_part_15 rfl rfl ?_
  obtain ⟨r_13, e_14, hf⟩ := bdE hf
  refine V_1 hX [.int x1, .int x2] dX11_part_16 cw_X11_190 (city_ob isc_100) rfl (C_X1_partOf (okG hX) isc_100 e_14) (ltD hdx rfl) rfl rfl rfl rfl ?_
  exact E_Ix hX dX11_part_19 hf
set_option maxRecDepth 100000 in
set_option maxHeartbeats 200000 in
theorem C_X11_part {G : GX} (hG : GOk G) {x1 : Int32} {x2 : Int32} {h : Hp} {r : Except String Int32 × Hp} (hf : f_X11_part x1 x2 h = some r) : Ctr G 11 yX11_part cX11_part 3 (some .int) [.ref 1, .int x1, .int x2] h (oX tvI r) :=
  Ctr_of hG RX11 rfl (by decide) rfl (fun X _ hdx hX => T_X11_part_0 hX hdx x1 x2 h hf)
theorem dX11_checkPerson_0 : decode cX11_checkPerson 0 = .ok (.aload_n 0, 1) := by decide +kernel
theorem dX11_checkPerson_1 : decode cX11_checkPerson 1 = .ok (.getfield 19, 3) := by decide +kernel
theorem dX11_checkPerson_4 : decode cX11_checkPerson 4 = .ok (.iload_n 1, 1) := by decide +kernel
theorem dX11_checkPerson_5 : decode cX11_checkPerson 5 = .ok (.invokevirtual 407, 3) := by decide +kernel
theorem dX11_checkPerson_8 : decode cX11_checkPerson 8 = .ok (.ifCond .ne 11, 3) := by decide +kernel
theorem dX11_checkPerson_11 : decode cX11_checkPerson 11 = .ok (.new 404, 3) := by decide +kernel
theorem dX11_checkPerson_14 : decode cX11_checkPerson 14 = .ok (.dup, 1) := by decide +kernel
theorem dX11_checkPerson_15 : decode cX11_checkPerson 15 = .ok (.invokespecial 406, 3) := by decide +kernel
theorem dX11_checkPerson_18 : decode cX11_checkPerson 18 = .ok (.athrow, 1) := by decide +kernel
theorem dX11_checkPerson_19 : decode cX11_checkPerson 19 = .ok (.return_, 1) := by decide +kernel
set_option maxRecDepth 100000 in
set_option maxHeartbeats 200000 in
theorem T_X11_checkPerson_0 {X : CX} (hX : Ok X cX11_checkPerson 2 RX11 none) (hdx : dX X = 10) {r : Except String Unit × Hp} (x1 : Int32) (h : Hp) (hf : f_X11_checkPerson x1 h = some r) : J X (oX tvV r) 0 [(0, .ref 1), (1, .int x1)] [] h := by
  unfold f_X11_checkPerson at hf
  refine J_aload_n hX 0 dX11_checkPerson_0 rfl rfl ?_
  refine J_getR hX 100 dX11_checkPerson_1 fl_X11_19 ob_1 rfl rfl ?_
  refine J_iload_n hX 1 dX11_checkPerson_4 rfl rfl ?_
  refine V_1 hX [.int x1] dX11_checkPerson_5 cw_X11_407 (city_ob isc_100) rfl (C_X1_isPerson (okG hX) isc_100 rfl) (ltD hdx rfl) rfl rfl rfl rfl ?_
  rcases ifE hf with ⟨c_1, hf⟩ | ⟨c_1, hf⟩
  · refine J_if_neT hX 19 dX11_checkPerson_8 rfl (b2iT c_1) ?_
    exact E_Vx hX dX11_checkPerson_19 hf
  · refine J_if_neF hX 19 dX11_checkPerson_8 rfl (b2iF c_1) ?_
    exact E_thr hX exN dX11_checkPerson_11 dX11_checkPerson_14 dX11_checkPerson_15 dX11_checkPerson_18 tw_X11_404_406 (ltD hdx rfl) rfl hf
set_option maxRecDepth 100000 in
set_option maxHeartbeats 200000 in
theorem C_X11_checkPerson {G : GX} (hG : GOk G) {x1 : Int32} {h : Hp} {r : Except String Unit × Hp} (hf : f_X11_checkPerson x1 h = some r) : Ctr G 10 yX11_checkPerson cX11_checkPerson 2 none [.ref 1, .int x1] h (oX tvV r) :=
  Ctr_of hG RX11 rfl (by decide) rfl (fun X _ hdx hX => T_X11_checkPerson_0 hX hdx x1 h hf)
theorem dX11_fallsWithout_0 : decode cX11_fallsWithout 0 = .ok (.aload_n 0, 1) := by decide +kernel
theorem dX11_fallsWithout_1 : decode cX11_fallsWithout 1 = .ok (.getfield 23, 3) := by decide +kernel
theorem dX11_fallsWithout_4 : decode cX11_fallsWithout 4 = .ok (.aload_n 0, 1) := by decide +kernel
theorem dX11_fallsWithout_5 : decode cX11_fallsWithout 5 = .ok (.getfield 19, 3) := by decide +kernel
theorem dX11_fallsWithout_8 : decode cX11_fallsWithout 8 = .ok (.invokevirtual 82, 3) := by decide +kernel
theorem dX11_fallsWithout_11 : decode cX11_fallsWithout 11 = .ok (.aload_n 0, 1) := by decide +kernel
theorem dX11_fallsWithout_12 : decode cX11_fallsWithout 12 = .ok (.getfield 23, 3) := by decide +kernel
theorem dX11_fallsWithout_15 : decode cX11_fallsWithout 15 = .ok (.iload_n 1, 1) := by decide +kernel
theorem dX11_fallsWithout_16 : decode cX11_fallsWithout 16 = .ok (.iconst (-1), 1) := by decide +kernel
theorem dX11_fallsWithout_17 : decode cX11_fallsWithout 17 = .ok (.invokevirtual 280, 3) := by decide +kernel
theorem dX11_fallsWithout_20 : decode cX11_fallsWithout 20 = .ok (.aload_n 0, 1) := by decide +kernel
theorem dX11_fallsWithout_21 : decode cX11_fallsWithout 21 = .ok (.getfield 39, 3) := by decide +kernel
theorem dX11_fallsWithout_24 : decode cX11_fallsWithout 24 = .ok (.aload_n 0, 1) := by decide +kernel
theorem dX11_fallsWithout_25 : decode cX11_fallsWithout 25 = .ok (.getfield 23, 3) := by decide +kernel
theorem dX11_fallsWithout_28 : decode cX11_fallsWithout 28 = .ok (.aload_n 0, 1) := by decide +kernel
theorem dX11_fallsWithout_29 : decode cX11_fallsWithout 29 = .ok (.getfield 29, 3) := by decide +kernel
theorem dX11_fallsWithout_32 : decode cX11_fallsWithout 32 = .ok (.iload_n 2, 1) := by decide +kernel
theorem dX11_fallsWithout_33 : decode cX11_fallsWithout 33 = .ok (.invokevirtual 363, 3) := by decide +kernel
theorem dX11_fallsWithout_36 : decode cX11_fallsWithout 36 = .ok (.ireturn, 1) := by decide +kernel
set_option maxRecDepth 100000 in
set_option maxHeartbeats 200000 in
theorem T_X11_fallsWithout_0 {X : CX} (hX : Ok X cX11_fallsWithout 3 RX11 (some .int)) (hdx : dX X = 7) {r : Int32 × Hp} (x1 : Int32) (x2 : Int32) (h : Hp) (hf : f_X11_fallsWithout x1 x2 h = some r) : J X ((.inl (some (.int r.1)), r.2)) 0 [(0, .ref 1), (1, .int x1), (2, .int x2)] [] h := by
  unfold f_X11_fallsWithout at hf
  refine J_aload_n hX 0 dX11_fallsWithout_0 rfl rfl ?_
  refine J_getR hX 116 dX11_fallsWithout_1 fl_X11_23 ob_1 rfl rfl ?_
  refine J_aload_n hX 0 dX11_fallsWithout_4 rfl rfl ?_
  refine J_getR hX 100 dX11_fallsWithout_5 fl_X11_19 ob_1 rfl rfl ?_
  obtain ⟨r_1, e_2, hf⟩ := bdE hf
  refine V_0 hX [.ref 100] dX11_fallsWithout_8 cw_X11_82 (city_ob isc_116) rfl (C_X1_copyFrom (okG hX) isc_116 isc_100 e_2) (ltD hdx rfl) rfl rfl rfl rfl ?_
  refine J_aload_n hX 0 dX11_fallsWithout_11 rfl rfl ?_
  refine J_getR hX 116 dX11_fallsWithout_12 fl_X11_23 ob_1 rfl rfl ?_
  refine J_iload_n hX 1 dX11_fallsWithout_15 rfl rfl ?_
  refine J_iconst hX (-1) dX11_fallsWithout_16 rfl ?_
  obtain ⟨r_3, e_4, hf⟩ := bdE hf
  refine V_0 hX [.int x1, .int (-1)] dX11_fallsWithout_17 cw_X11_280 (city_ob isc_116) rfl (C_X1_put (okG hX) isc_116 e_4) (ltD hdx rfl) rfl rfl rfl rfl ?_
  refine J_aload_n hX 0 dX11_fallsWithout_20 rfl rfl ?_
  refine J_getR hX 4 dX11_fallsWithout_21 fl_X11_39 ob_1 rfl rfl ?_
  refine J_aload_n hX 0 dX11_fallsWithout_24 rfl rfl ?_
  refine J_getR hX 116 dX11_fallsWithout_25 fl_X11_23 ob_1 rfl rfl ?_
  refine J_aload_n hX 0 dX11_fallsWithout_28 rfl rfl ?_
  refine J_getR hX 500 dX11_fallsWithout_29 fl_X11_29 ob_1 rfl rfl ?_
  refine J_iload_n hX 2 dX11_fallsWithout_32 rfl rfl ?_
  obtain ⟨r_5, e_6, hf⟩ := bdE hf
  refine V_1 hX [.ref 116, .ref 500, .int x2] dX11_fallsWithout_33 cw_X11_363 ob_4 rfl (C_X3_fall (okG hX) isc_116 isl_500 e_6) (ltD hdx rfl) rfl rfl rfl rfl ?_
  exact E_Ii hX dX11_fallsWithout_36 hf
set_option maxRecDepth 100000 in
set_option maxHeartbeats 200000 in
theorem C_X11_fallsWithout {G : GX} (hG : GOk G) {x1 : Int32} {x2 : Int32} {h : Hp} {r : Int32 × Hp} (hf : f_X11_fallsWithout x1 x2 h = some r) : Ctr G 7 yX11_fallsWithout cX11_fallsWithout 3 (some .int) [.ref 1, .int x1, .int x2] h ((.inl (some (.int r.1)), r.2)) :=
  Ctr_of hG RX11 rfl (by decide) rfl (fun X _ hdx hX => T_X11_fallsWithout_0 hX hdx x1 x2 h hf)
theorem dX11_fallsNow_0 : decode cX11_fallsNow 0 = .ok (.aload_n 0, 1) := by decide +kernel
theorem dX11_fallsNow_1 : decode cX11_fallsNow 1 = .ok (.getfield 23, 3) := by decide +kernel
theorem dX11_fallsNow_4 : decode cX11_fallsNow 4 = .ok (.aload_n 0, 1) := by decide +kernel
theorem dX11_fallsNow_5 : decode cX11_fallsNow 5 = .ok (.getfield 19, 3) := by decide +kernel
theorem dX11_fallsNow_8 : decode cX11_fallsNow 8 = .ok (.invokevirtual 82, 3) := by decide +kernel
theorem dX11_fallsNow_11 : decode cX11_fallsNow 11 = .ok (.aload_n 0, 1) := by decide +kernel
theorem dX11_fallsNow_12 : decode cX11_fallsNow 12 = .ok (.getfield 39, 3) := by decide +kernel
theorem dX11_fallsNow_15 : decode cX11_fallsNow 15 = .ok (.aload_n 0, 1) := by decide +kernel
theorem dX11_fallsNow_16 : decode cX11_fallsNow 16 = .ok (.getfield 23, 3) := by decide +kernel
theorem dX11_fallsNow_19 : decode cX11_fallsNow 19 = .ok (.aload_n 0, 1) := by decide +kernel
theorem dX11_fallsNow_20 : decode cX11_fallsNow 20 = .ok (.getfield 29, 3) := by decide +kernel
theorem dX11_fallsNow_23 : decode cX11_fallsNow 23 = .ok (.iload_n 1, 1) := by decide +kernel
theorem dX11_fallsNow_24 : decode cX11_fallsNow 24 = .ok (.invokevirtual 363, 3) := by decide +kernel
theorem dX11_fallsNow_27 : decode cX11_fallsNow 27 = .ok (.ireturn, 1) := by decide +kernel
set_option maxRecDepth 100000 in
set_option maxHeartbeats 200000 in
theorem T_X11_fallsNow_0 {X : CX} (hX : Ok X cX11_fallsNow 2 RX11 (some .int)) (hdx : dX X = 7) {r : Int32 × Hp} (x1 : Int32) (h : Hp) (hf : f_X11_fallsNow x1 h = some r) : J X ((.inl (some (.int r.1)), r.2)) 0 [(0, .ref 1), (1, .int x1)] [] h := by
  unfold f_X11_fallsNow at hf
  refine J_aload_n hX 0 dX11_fallsNow_0 rfl rfl ?_
  refine J_getR hX 116 dX11_fallsNow_1 fl_X11_23 ob_1 rfl rfl ?_
  refine J_aload_n hX 0 dX11_fallsNow_4 rfl rfl ?_
  refine J_getR hX 100 dX11_fallsNow_5 fl_X11_19 ob_1 rfl rfl ?_
  obtain ⟨r_1, e_2, hf⟩ := bdE hf
  refine V_0 hX [.ref 100] dX11_fallsNow_8 cw_X11_82 (city_ob isc_116) rfl (C_X1_copyFrom (okG hX) isc_116 isc_100 e_2) (ltD hdx rfl) rfl rfl rfl rfl ?_
  refine J_aload_n hX 0 dX11_fallsNow_11 rfl rfl ?_
  refine J_getR hX 4 dX11_fallsNow_12 fl_X11_39 ob_1 rfl rfl ?_
  refine J_aload_n hX 0 dX11_fallsNow_15 rfl rfl ?_
  refine J_getR hX 116 dX11_fallsNow_16 fl_X11_23 ob_1 rfl rfl ?_
  refine J_aload_n hX 0 dX11_fallsNow_19 rfl rfl ?_
  refine J_getR hX 500 dX11_fallsNow_20 fl_X11_29 ob_1 rfl rfl ?_
  refine J_iload_n hX 1 dX11_fallsNow_23 rfl rfl ?_
  obtain ⟨r_3, e_4, hf⟩ := bdE hf
  refine V_1 hX [.ref 116, .ref 500, .int x1] dX11_fallsNow_24 cw_X11_363 ob_4 rfl (C_X3_fall (okG hX) isc_116 isl_500 e_4) (ltD hdx rfl) rfl rfl rfl rfl ?_
  exact E_Ii hX dX11_fallsNow_27 hf
set_option maxRecDepth 100000 in
set_option maxHeartbeats 200000 in
theorem C_X11_fallsNow {G : GX} (hG : GOk G) {x1 : Int32} {h : Hp} {r : Int32 × Hp} (hf : f_X11_fallsNow x1 h = some r) : Ctr G 7 yX11_fallsNow cX11_fallsNow 2 (some .int) [.ref 1, .int x1] h ((.inl (some (.int r.1)), r.2)) :=
  Ctr_of hG RX11 rfl (by decide) rfl (fun X _ hdx hX => T_X11_fallsNow_0 hX hdx x1 h hf)
theorem dX11_person_0 : decode cX11_person 0 = .ok (.aload_n 0, 1) := by decide +kernel
theorem dX11_person_1 : decode cX11_person 1 = .ok (.iload_n 1, 1) := by decide +kernel
theorem dX11_person_2 : decode cX11_person 2 = .ok (.invokevirtual 193, 3) := by decide +kernel
theorem dX11_person_5 : decode cX11_person 5 = .ok (.iload_n 2, 1) := by decide +kernel
theorem dX11_person_6 : decode cX11_person 6 = .ok (.tableswitch 84 0 3 #[30, 39, 48, 57], 30) := by decide +kernel
theorem dX11_person_36 : decode cX11_person 36 = .ok (.aload_n 0, 1) := by decide +kernel
theorem dX11_person_37 : decode cX11_person 37 = .ok (.getfield 19, 3) := by decide +kernel
theorem dX11_person_40 : decode cX11_person 40 = .ok (.iload_n 1, 1) := by decide +kernel
theorem dX11_person_41 : decode cX11_person 41 = .ok (.invokevirtual 196, 3) := by decide +kernel
theorem dX11_person_44 : decode cX11_person 44 = .ok (.ireturn, 1) := by decide +kernel
theorem dX11_person_45 : decode cX11_person 45 = .ok (.aload_n 0, 1) := by decide +kernel
theorem dX11_person_46 : decode cX11_person 46 = .ok (.getfield 19, 3) := by decide +kernel
theorem dX11_person_49 : decode cX11_person 49 = .ok (.iload_n 1, 1) := by decide +kernel
theorem dX11_person_50 : decode cX11_person 50 = .ok (.invokevirtual 199, 3) := by decide +kernel
theorem dX11_person_53 : decode cX11_person 53 = .ok (.ireturn, 1) := by decide +kernel
theorem dX11_person_54 : decode cX11_person 54 = .ok (.aload_n 0, 1) := by decide +kernel
theorem dX11_person_55 : decode cX11_person 55 = .ok (.getfield 19, 3) := by decide +kernel
theorem dX11_person_58 : decode cX11_person 58 = .ok (.iload_n 1, 1) := by decide +kernel
theorem dX11_person_59 : decode cX11_person 59 = .ok (.invokevirtual 202, 3) := by decide +kernel
theorem dX11_person_62 : decode cX11_person 62 = .ok (.ireturn, 1) := by decide +kernel
theorem dX11_person_63 : decode cX11_person 63 = .ok (.aload_n 0, 1) := by decide +kernel
theorem dX11_person_64 : decode cX11_person 64 = .ok (.iload_n 1, 1) := by decide +kernel
theorem dX11_person_65 : decode cX11_person 65 = .ok (.aload_n 0, 1) := by decide +kernel
theorem dX11_person_66 : decode cX11_person 66 = .ok (.getfield 19, 3) := by decide +kernel
theorem dX11_person_69 : decode cX11_person 69 = .ok (.getfield 205, 3) := by decide +kernel
theorem dX11_person_72 : decode cX11_person 72 = .ok (.invokevirtual 208, 3) := by decide +kernel
theorem dX11_person_75 : decode cX11_person 75 = .ok (.aload_n 0, 1) := by decide +kernel
theorem dX11_person_76 : decode cX11_person 76 = .ok (.aload_n 0, 1) := by decide +kernel
theorem dX11_person_77 : decode cX11_person 77 = .ok (.getfield 19, 3) := by decide +kernel
theorem dX11_person_80 : decode cX11_person 80 = .ok (.getfield 205, 3) := by decide +kernel
theorem dX11_person_83 : decode cX11_person 83 = .ok (.invokevirtual 211, 3) := by decide +kernel
theorem dX11_person_86 : decode cX11_person 86 = .ok (.iconst (-1), 1) := by decide +kernel
theorem dX11_person_87 : decode cX11_person 87 = .ok (.ixor, 1) := by decide +kernel
theorem dX11_person_88 : decode cX11_person 88 = .ok (.iand, 1) := by decide +kernel
theorem dX11_person_89 : decode cX11_person 89 = .ok (.ireturn, 1) := by decide +kernel
theorem dX11_person_90 : decode cX11_person 90 = .ok (.new 121, 3) := by decide +kernel
theorem dX11_person_93 : decode cX11_person 93 = .ok (.dup, 1) := by decide +kernel
theorem dX11_person_94 : decode cX11_person 94 = .ok (.invokespecial 123, 3) := by decide +kernel
theorem dX11_person_97 : decode cX11_person 97 = .ok (.athrow, 1) := by decide +kernel
set_option maxRecDepth 100000 in
set_option maxHeartbeats 200000 in
theorem T_X11_person_0 {X : CX} (hX : Ok X cX11_person 3 RX11 (some .int)) (hdx : dX X = 11) {r : Except String Int32 × Hp} (x1 : Int32) (x2 : Int32) (h : Hp) (hf : f_X11_person x1 x2 h = some r) : J X (oX tvI r) 0 [(0, .ref 1), (1, .int x1), (2, .int x2)] [] h := by
  unfold f_X11_person at hf
  refine J_aload_n hX 0 dX11_person_0 rfl rfl ?_
  refine J_iload_n hX 1 dX11_person_1 rfl rfl ?_
  obtain ⟨r_1, e_2, hf⟩ := bdE hf
  rcases exE hf with ⟨v_3, h_4, z_6, hg⟩ | ⟨E_5, h_4, z_6, z_6r⟩
  all_goals clear hf
  rotate_left
  · subst z_6
    exact V_kx hX [.int x1] dX11_person_2 cw_X11_193 ob_1 rfl (C_X11_checkPerson (okG hX) e_2) (ltD hdx rfl) rfl rfl rfl rfl z_6r
  subst z_6
  have hf := hg
  clear hg
  refine V_k0 hX [.int x1] dX11_person_2 cw_X11_193 ob_1 rfl (C_X11_checkPerson (okG hX) e_2) (ltD hdx rfl) rfl rfl rfl rfl rfl ?_
  refine J_iload_n hX 2 dX11_person_5 rfl rfl ?_
  rcases ifE hf with ⟨c_7, hf⟩ | ⟨c_7, hf⟩
  · refine J_nm c_7 ?_
    refine J_switchIn hX (off := 30) 36 dX11_person_6 (by decide) (by decide) (by decide) rfl ?_
    refine J_aload_n hX 0 dX11_person_36 rfl rfl ?_
    refine J_getR hX 100 dX11_person_37 fl_X11_19 ob_1 rfl rfl ?_
    refine J_iload_n hX 1 dX11_person_40 rfl rfl ?_
    obtain ⟨r_8, e_9, hf⟩ := bdE hf
    refine V_1 hX [.int x1] dX11_person_41 cw_X11_196 (city_ob isc_100) rfl (C_X1_placeOf (okG hX) isc_100 e_9) (ltD hdx rfl) rfl rfl rfl rfl ?_
    exact E_Ix hX dX11_person_44 hf
  rcases ifE hf with ⟨c_10, hf⟩ | ⟨c_10, hf⟩
  · refine J_nm c_10 ?_
    refine J_switchIn hX (off := 39) 45 dX11_person_6 (by decide) (by decide) (by decide) rfl ?_
    refine J_aload_n hX 0 dX11_person_45 rfl rfl ?_
    refine J_getR hX 100 dX11_person_46 fl_X11_19 ob_1 rfl rfl ?_
    refine J_iload_n hX 1 dX11_person_49 rfl rfl ?_
    obtain ⟨r_11, e_12, hf⟩ := bdE hf
    refine V_1 hX [.int x1] dX11_person_50 cw_X11_199 (city_ob isc_100) rfl (C_X1_holdOf (okG hX) isc_100 e_12) (ltD hdx rfl) rfl rfl rfl rfl ?_
    exact E_Ix hX dX11_person_53 hf
  rcases ifE hf with ⟨c_13, hf⟩ | ⟨c_13, hf⟩
  · refine J_nm c_13 ?_
    refine J_switchIn hX (off := 48) 54 dX11_person_6 (by decide) (by decide) (by decide) rfl ?_
    refine J_aload_n hX 0 dX11_person_54 rfl rfl ?_
    refine J_getR hX 100 dX11_person_55 fl_X11_19 ob_1 rfl rfl ?_
    refine J_iload_n hX 1 dX11_person_58 rfl rfl ?_
    obtain ⟨r_14, e_15, hf⟩ := bdE hf
    refine V_1 hX [.int x1] dX11_person_59 cw_X11_202 (city_ob isc_100) rfl (C_X1_daysOf (okG hX) isc_100 e_15) (ltD hdx rfl) rfl rfl rfl rfl ?_
    exact E_Ix hX dX11_person_62 hf
  rcases ifE hf with ⟨c_16, hf⟩ | ⟨c_16, hf⟩
  · refine J_nm c_16 ?_
    refine J_switchIn hX (off := 57) 63 dX11_person_6 (by decide) (by decide) (by decide) rfl ?_
    refine J_aload_n hX 0 dX11_person_63 rfl rfl ?_
    refine J_iload_n hX 1 dX11_person_64 rfl rfl ?_
    refine J_aload_n hX 0 dX11_person_65 rfl rfl ?_
    refine J_getR hX 100 dX11_person_66 fl_X11_19 ob_1 rfl rfl ?_
    refine J_getI hX dX11_person_69 fl_X11_205 (city_ob isc_100) rfl ?_
    obtain ⟨r_17, e_18, hf⟩ := bdE hf
    refine V_1 hX [.int x1, .int (h_4 100 12)] dX11_person_72 cw_X11_208 ob_1 rfl (C_X11_fallsWithout (okG hX) e_18) (ltD hdx rfl) rfl rfl rfl rfl ?_
    refine J_aload_n hX 0 dX11_person_75 rfl rfl ?_
    refine J_aload_n hX 0 dX11_person_76 rfl rfl ?_
    refine J_getR hX 100 dX11_person_77 fl_X11_19 ob_1 rfl rfl ?_
    refine J_getI hX dX11_person_80 fl_X11_205 (city_ob isc_100) rfl ?_
    obtain ⟨r_19, e_20, hf⟩ := bdE hf
    refine V_1 hX [.int (r_17.2 100 12)] dX11_person_83 cw_X11_211 ob_1 rfl (C_X11_fallsNow (okG hX) e_20) (ltD hdx rfl) rfl rfl rfl rfl ?_
    refine J_iconst hX (-1) dX11_person_86 rfl ?_
    refine J_ixor hX dX11_person_87 ?_
    refine J_iand hX dX11_person_88 ?_
    exact E_Ix hX dX11_person_89 hf
  refine J_switchOut hX 90 dX11_person_6 (sw_def 0 3 x2 (fun v_ a_ b_ => ?_)) rfl ?_
  · rcases (show v_ = 0 ∨ v_ = 1 ∨ v_ = 2 ∨ v_ = 3 by omega) with rfl | rfl | rfl | rfl
    · exact c_7
    · exact c_10
    · exact c_13
    · exact c_16
  exact E_thr hX exN dX11_person_90 dX11_person_93 dX11_person_94 dX11_person_97 tw_X11_121_123 (ltD hdx rfl) rfl hf
set_option maxRecDepth 100000 in
set_option maxHeartbeats 200000 in
theorem C_X11_person {G : GX} (hG : GOk G) {x1 : Int32} {x2 : Int32} {h : Hp} {r : Except String Int32 × Hp} (hf : f_X11_person x1 x2 h = some r) : Ctr G 11 yX11_person cX11_person 3 (some .int) [.ref 1, .int x1, .int x2] h (oX tvI r) :=
  Ctr_of hG RX11 rfl (by decide) rfl (fun X _ hdx hX => T_X11_person_0 hX hdx x1 x2 h hf)
theorem dX11_count_0 : decode cX11_count 0 = .ok (.iload_n 1, 1) := by decide +kernel
theorem dX11_count_1 : decode cX11_count 1 = .ok (.tableswitch 159 0 11 #[63, 71, 79, 87, 95, 103, 111, 119, 127, 135, 143, 154], 63) := by decide +kernel
theorem dX11_count_64 : decode cX11_count 64 = .ok (.aload_n 0, 1) := by decide +kernel
theorem dX11_count_65 : decode cX11_count 65 = .ok (.getfield 19, 3) := by decide +kernel
theorem dX11_count_68 : decode cX11_count 68 = .ok (.getfield 214, 3) := by decide +kernel
theorem dX11_count_71 : decode cX11_count 71 = .ok (.ireturn, 1) := by decide +kernel
theorem dX11_count_72 : decode cX11_count 72 = .ok (.aload_n 0, 1) := by decide +kernel
theorem dX11_count_73 : decode cX11_count 73 = .ok (.getfield 19, 3) := by decide +kernel
theorem dX11_count_76 : decode cX11_count 76 = .ok (.getfield 217, 3) := by decide +kernel
theorem dX11_count_79 : decode cX11_count 79 = .ok (.ireturn, 1) := by decide +kernel
theorem dX11_count_80 : decode cX11_count 80 = .ok (.aload_n 0, 1) := by decide +kernel
theorem dX11_count_81 : decode cX11_count 81 = .ok (.getfield 19, 3) := by decide +kernel
theorem dX11_count_84 : decode cX11_count 84 = .ok (.getfield 95, 3) := by decide +kernel
theorem dX11_count_87 : decode cX11_count 87 = .ok (.ireturn, 1) := by decide +kernel
theorem dX11_count_88 : decode cX11_count 88 = .ok (.aload_n 0, 1) := by decide +kernel
theorem dX11_count_89 : decode cX11_count 89 = .ok (.getfield 29, 3) := by decide +kernel
theorem dX11_count_92 : decode cX11_count 92 = .ok (.getfield 112, 3) := by decide +kernel
theorem dX11_count_95 : decode cX11_count 95 = .ok (.ireturn, 1) := by decide +kernel
theorem dX11_count_96 : decode cX11_count 96 = .ok (.aload_n 0, 1) := by decide +kernel
theorem dX11_count_97 : decode cX11_count 97 = .ok (.getfield 19, 3) := by decide +kernel
theorem dX11_count_100 : decode cX11_count 100 = .ok (.getfield 205, 3) := by decide +kernel
theorem dX11_count_103 : decode cX11_count 103 = .ok (.ireturn, 1) := by decide +kernel
theorem dX11_count_104 : decode cX11_count 104 = .ok (.aload_n 0, 1) := by decide +kernel
theorem dX11_count_105 : decode cX11_count 105 = .ok (.getfield 19, 3) := by decide +kernel
theorem dX11_count_108 : decode cX11_count 108 = .ok (.getfield 220, 3) := by decide +kernel
theorem dX11_count_111 : decode cX11_count 111 = .ok (.ireturn, 1) := by decide +kernel
theorem dX11_count_112 : decode cX11_count 112 = .ok (.aload_n 0, 1) := by decide +kernel
theorem dX11_count_113 : decode cX11_count 113 = .ok (.getfield 19, 3) := by decide +kernel
theorem dX11_count_116 : decode cX11_count 116 = .ok (.getfield 223, 3) := by decide +kernel
theorem dX11_count_119 : decode cX11_count 119 = .ok (.ireturn, 1) := by decide +kernel
theorem dX11_count_120 : decode cX11_count 120 = .ok (.aload_n 0, 1) := by decide +kernel
theorem dX11_count_121 : decode cX11_count 121 = .ok (.getfield 19, 3) := by decide +kernel
theorem dX11_count_124 : decode cX11_count 124 = .ok (.getfield 226, 3) := by decide +kernel
theorem dX11_count_127 : decode cX11_count 127 = .ok (.ireturn, 1) := by decide +kernel
theorem dX11_count_128 : decode cX11_count 128 = .ok (.aload_n 0, 1) := by decide +kernel
theorem dX11_count_129 : decode cX11_count 129 = .ok (.getfield 19, 3) := by decide +kernel
theorem dX11_count_132 : decode cX11_count 132 = .ok (.getfield 229, 3) := by decide +kernel
theorem dX11_count_135 : decode cX11_count 135 = .ok (.ireturn, 1) := by decide +kernel
theorem dX11_count_136 : decode cX11_count 136 = .ok (.aload_n 0, 1) := by decide +kernel
theorem dX11_count_137 : decode cX11_count 137 = .ok (.invokevirtual 151, 3) := by decide +kernel
theorem dX11_count_140 : decode cX11_count 140 = .ok (.invokevirtual 186, 3) := by decide +kernel
theorem dX11_count_143 : decode cX11_count 143 = .ok (.ireturn, 1) := by decide +kernel
theorem dX11_count_144 : decode cX11_count 144 = .ok (.aload_n 0, 1) := by decide +kernel
theorem dX11_count_145 : decode cX11_count 145 = .ok (.getfield 19, 3) := by decide +kernel
theorem dX11_count_148 : decode cX11_count 148 = .ok (.getfield 232, 3) := by decide +kernel
theorem dX11_count_151 : decode cX11_count 151 = .ok (.getfield 236, 3) := by decide +kernel
theorem dX11_count_154 : decode cX11_count 154 = .ok (.ireturn, 1) := by decide +kernel
theorem dX11_count_155 : decode cX11_count 155 = .ok (.aload_n 0, 1) := by decide +kernel
theorem dX11_count_156 : decode cX11_count 156 = .ok (.getfield 101, 3) := by decide +kernel
theorem dX11_count_159 : decode cX11_count 159 = .ok (.ireturn, 1) := by decide +kernel
theorem dX11_count_160 : decode cX11_count 160 = .ok (.iconst (-1), 1) := by decide +kernel
theorem dX11_count_161 : decode cX11_count 161 = .ok (.ireturn, 1) := by decide +kernel
set_option maxRecDepth 100000 in
set_option maxHeartbeats 200000 in
theorem T_X11_count_0 {X : CX} (hX : Ok X cX11_count 2 RX11 (some .int)) (hdx : dX X = 7) {r : Int32 × Hp} (x1 : Int32) (h : Hp) (hf : f_X11_count x1 h = some r) : J X ((.inl (some (.int r.1)), r.2)) 0 [(0, .ref 1), (1, .int x1)] [] h := by
  unfold f_X11_count at hf
  refine J_iload_n hX 1 dX11_count_0 rfl rfl ?_
  rcases ifE hf with ⟨c_1, hf⟩ | ⟨c_1, hf⟩
  · refine J_nm c_1 ?_
    refine J_switchIn hX (off := 63) 64 dX11_count_1 (by decide) (by decide) (by decide) rfl ?_
    refine J_aload_n hX 0 dX11_count_64 rfl rfl ?_
    refine J_getR hX 100 dX11_count_65 fl_X11_19 ob_1 rfl rfl ?_
    refine J_getI hX dX11_count_68 fl_X11_214 (city_ob isc_100) rfl ?_
    exact E_Ii hX dX11_count_71 hf
  rcases ifE hf with ⟨c_2, hf⟩ | ⟨c_2, hf⟩
  · refine J_nm c_2 ?_
    refine J_switchIn hX (off := 71) 72 dX11_count_1 (by decide) (by decide) (by decide) rfl ?_
    refine J_aload_n hX 0 dX11_count_72 rfl rfl ?_
    refine J_getR hX 100 dX11_count_73 fl_X11_19 ob_1 rfl rfl ?_
    refine J_getI hX dX11_count_76 fl_X11_217 (city_ob isc_100) rfl ?_
    exact E_Ii hX dX11_count_79 hf
  rcases ifE hf with ⟨c_3, hf⟩ | ⟨c_3, hf⟩
  · refine J_nm c_3 ?_
    refine J_switchIn hX (off := 79) 80 dX11_count_1 (by decide) (by decide) (by decide) rfl ?_
    refine J_aload_n hX 0 dX11_count_80 rfl rfl ?_
    refine J_getR hX 100 dX11_count_81 fl_X11_19 ob_1 rfl rfl ?_
    refine J_getI hX dX11_count_84 fl_X11_95 (city_ob isc_100) rfl ?_
    exact E_Ii hX dX11_count_87 hf
  rcases ifE hf with ⟨c_4, hf⟩ | ⟨c_4, hf⟩
  · refine J_nm c_4 ?_
    refine J_switchIn hX (off := 87) 88 dX11_count_1 (by decide) (by decide) (by decide) rfl ?_
    refine J_aload_n hX 0 dX11_count_88 rfl rfl ?_
    refine J_getR hX 500 dX11_count_89 fl_X11_29 ob_1 rfl rfl ?_
    refine J_getI hX dX11_count_92 fl_X11_112 (law_ob isl_500) rfl ?_
    exact E_Ii hX dX11_count_95 hf
  rcases ifE hf with ⟨c_5, hf⟩ | ⟨c_5, hf⟩
  · refine J_nm c_5 ?_
    refine J_switchIn hX (off := 95) 96 dX11_count_1 (by decide) (by decide) (by decide) rfl ?_
    refine J_aload_n hX 0 dX11_count_96 rfl rfl ?_
    refine J_getR hX 100 dX11_count_97 fl_X11_19 ob_1 rfl rfl ?_
    refine J_getI hX dX11_count_100 fl_X11_205 (city_ob isc_100) rfl ?_
    exact E_Ii hX dX11_count_103 hf
  rcases ifE hf with ⟨c_6, hf⟩ | ⟨c_6, hf⟩
  · refine J_nm c_6 ?_
    refine J_switchIn hX (off := 103) 104 dX11_count_1 (by decide) (by decide) (by decide) rfl ?_
    refine J_aload_n hX 0 dX11_count_104 rfl rfl ?_
    refine J_getR hX 100 dX11_count_105 fl_X11_19 ob_1 rfl rfl ?_
    refine J_getI hX dX11_count_108 fl_X11_220 (city_ob isc_100) rfl ?_
    exact E_Ii hX dX11_count_111 hf
  rcases ifE hf with ⟨c_7, hf⟩ | ⟨c_7, hf⟩
  · refine J_nm c_7 ?_
    refine J_switchIn hX (off := 111) 112 dX11_count_1 (by decide) (by decide) (by decide) rfl ?_
    refine J_aload_n hX 0 dX11_count_112 rfl rfl ?_
    refine J_getR hX 100 dX11_count_113 fl_X11_19 ob_1 rfl rfl ?_
    refine J_getI hX dX11_count_116 fl_X11_223 (city_ob isc_100) rfl ?_
    exact E_Ii hX dX11_count_119 hf
  rcases ifE hf with ⟨c_8, hf⟩ | ⟨c_8, hf⟩
  · refine J_nm c_8 ?_
    refine J_switchIn hX (off := 119) 120 dX11_count_1 (by decide) (by decide) (by decide) rfl ?_
    refine J_aload_n hX 0 dX11_count_120 rfl rfl ?_
    refine J_getR hX 100 dX11_count_121 fl_X11_19 ob_1 rfl rfl ?_
    refine J_getI hX dX11_count_124 fl_X11_226 (city_ob isc_100) rfl ?_
    exact E_Ii hX dX11_count_127 hf
  rcases ifE hf with ⟨c_9, hf⟩ | ⟨c_9, hf⟩
  · refine J_nm c_9 ?_
    refine J_switchIn hX (off := 127) 128 dX11_count_1 (by decide) (by decide) (by decide) rfl ?_
    refine J_aload_n hX 0 dX11_count_128 rfl rfl ?_
    refine J_getR hX 100 dX11_count_129 fl_X11_19 ob_1 rfl rfl ?_
    refine J_getI hX dX11_count_132 fl_X11_229 (city_ob isc_100) rfl ?_
    exact E_Ii hX dX11_count_135 hf
  rcases ifE hf with ⟨c_10, hf⟩ | ⟨c_10, hf⟩
  · refine J_nm c_10 ?_
    refine J_switchIn hX (off := 135) 136 dX11_count_1 (by decide) (by decide) (by decide) rfl ?_
    refine J_aload_n hX 0 dX11_count_136 rfl rfl ?_
    obtain ⟨r_11, e_12, hf⟩ := bdE hf
    refine V_1 hX [] dX11_count_137 cw_X11_151 ob_1 rfl (C_X11_measured (okG hX) e_12) (ltD hdx rfl) rfl rfl rfl rfl ?_
    obtain ⟨r_13, e_14, hf⟩ := bdE hf
    refine V_1 hX [] dX11_count_140 cw_X11_186 ob_5 rfl (C_X9_allBear (okG hX) e_14) (ltD hdx rfl) rfl rfl rfl rfl ?_
    exact E_Ii hX dX11_count_143 hf
  rcases ifE hf with ⟨c_15, hf⟩ | ⟨c_15, hf⟩
  · refine J_nm c_15 ?_
    refine J_switchIn hX (off := 143) 144 dX11_count_1 (by decide) (by decide) (by decide) rfl ?_
    refine J_aload_n hX 0 dX11_count_144 rfl rfl ?_
    refine J_getR hX 100 dX11_count_145 fl_X11_19 ob_1 rfl rfl ?_
    refine J_getR hX 109 dX11_count_148 fl_X11_232 (city_ob isc_100) rfl rfl ?_
    refine J_getI hX dX11_count_151 fl_X11_236 (log_ob (city_log isc_100)) rfl ?_
    exact E_Ii hX dX11_count_154 hf
  rcases ifE hf with ⟨c_16, hf⟩ | ⟨c_16, hf⟩
  · refine J_nm c_16 ?_
    refine J_switchIn hX (off := 154) 155 dX11_count_1 (by decide) (by decide) (by decide) rfl ?_
    refine J_aload_n hX 0 dX11_count_155 rfl rfl ?_
    refine J_getI hX dX11_count_156 fl_X11_101 ob_1 rfl ?_
    exact E_Ii hX dX11_count_159 hf
  refine J_switchOut hX 160 dX11_count_1 (sw_def 0 11 x1 (fun v_ a_ b_ => ?_)) rfl ?_
  · rcases (show v_ = 0 ∨ v_ = 1 ∨ v_ = 2 ∨ v_ = 3 ∨ v_ = 4 ∨ v_ = 5 ∨ v_ = 6 ∨ v_ = 7 ∨ v_ = 8 ∨ v_ = 9 ∨ v_ = 10 ∨ v_ = 11 by omega) with rfl | rfl | rfl | rfl | rfl | rfl | rfl | rfl | rfl | rfl | rfl | rfl
    · exact c_1
    · exact c_2
    · exact c_3
    · exact c_4
    · exact c_5
    · exact c_6
    · exact c_7
    · exact c_8
    · exact c_9
    · exact c_10
    · exact c_15
    · exact c_16
  refine J_iconst hX (-1) dX11_count_160 rfl ?_
  exact E_Ii hX dX11_count_161 hf
set_option maxRecDepth 100000 in
set_option maxHeartbeats 200000 in
theorem C_X11_count {G : GX} (hG : GOk G) {x1 : Int32} {h : Hp} {r : Int32 × Hp} (hf : f_X11_count x1 h = some r) : Ctr G 7 yX11_count cX11_count 2 (some .int) [.ref 1, .int x1] h ((.inl (some (.int r.1)), r.2)) :=
  Ctr_of hG RX11 rfl (by decide) rfl (fun X _ hdx hX => T_X11_count_0 hX hdx x1 h hf)
theorem dX11_checkAmount_0 : decode cX11_checkAmount 0 = .ok (.iload_n 0, 1) := by decide +kernel
theorem dX11_checkAmount_1 : decode cX11_checkAmount 1 = .ok (.iload_n 1, 1) := by decide +kernel
theorem dX11_checkAmount_2 : decode cX11_checkAmount 2 = .ok (.if_icmp .lt 8, 3) := by decide +kernel
theorem dX11_checkAmount_5 : decode cX11_checkAmount 5 = .ok (.iload_n 0, 1) := by decide +kernel
theorem dX11_checkAmount_6 : decode cX11_checkAmount 6 = .ok (.iload_n 2, 1) := by decide +kernel
theorem dX11_checkAmount_7 : decode cX11_checkAmount 7 = .ok (.if_icmp .le 11, 3) := by decide +kernel
theorem dX11_checkAmount_10 : decode cX11_checkAmount 10 = .ok (.new 92, 3) := by decide +kernel
theorem dX11_checkAmount_13 : decode cX11_checkAmount 13 = .ok (.dup, 1) := by decide +kernel
theorem dX11_checkAmount_14 : decode cX11_checkAmount 14 = .ok (.invokespecial 94, 3) := by decide +kernel
theorem dX11_checkAmount_17 : decode cX11_checkAmount 17 = .ok (.athrow, 1) := by decide +kernel
theorem dX11_checkAmount_18 : decode cX11_checkAmount 18 = .ok (.return_, 1) := by decide +kernel
set_option maxRecDepth 100000 in
set_option maxHeartbeats 200000 in
theorem T_X11_checkAmount_10 {X : CX} (hX : Ok X cX11_checkAmount 3 RX11 none) (hdx : dX X = 10) {r : Except String Unit × Hp} (h : Hp) (hf : F_X11_checkAmount_10 h = some r) : J X (oX tvV r) 10 [] [] h := by
  unfold F_X11_checkAmount_10 at hf
  exact E_thr hX exN dX11_checkAmount_10 dX11_checkAmount_13 dX11_checkAmount_14 dX11_checkAmount_17 tw_X11_92_94 (ltD hdx rfl) rfl hf
set_option maxRecDepth 100000 in
set_option maxHeartbeats 200000 in
theorem T_X11_checkAmount_0 {X : CX} (hX : Ok X cX11_checkAmount 3 RX11 none) (hdx : dX X = 10) {r : Except String Unit × Hp} (x0 : Int32) (x1 : Int32) (x2 : Int32) (h : Hp) (hf : f_X11_checkAmount x0 x1 x2 h = some r) : J X (oX tvV r) 0 [(0, .int x0), (1, .int x1), (2, .int x2)] [] h := by
  unfold f_X11_checkAmount at hf
  refine J_iload_n hX 0 dX11_checkAmount_0 rfl rfl ?_
  refine J_iload_n hX 1 dX11_checkAmount_1 rfl rfl ?_
  rcases ifE hf with ⟨c_1, hf⟩ | ⟨c_1, hf⟩
  · refine J_icmp_ltT hX 10 dX11_checkAmount_2 rfl c_1 ?_
    refine J_sub [] [] rfl ?_
    exact T_X11_checkAmount_10 hX hdx h hf
  · refine J_icmp_ltF hX 10 dX11_checkAmount_2 rfl c_1 ?_
    refine J_iload_n hX 0 dX11_checkAmount_5 rfl rfl ?_
    refine J_iload_n hX 2 dX11_checkAmount_6 rfl rfl ?_
    rcases ifE hf with ⟨c_2, hf⟩ | ⟨c_2, hf⟩
    · refine J_icmp_leF hX 18 dX11_checkAmount_7 rfl c_2 ?_
      refine J_sub [] [] rfl ?_
      exact T_X11_checkAmount_10 hX hdx h hf
    · refine J_icmp_leT hX 18 dX11_checkAmount_7 rfl c_2 ?_
      exact E_Vx hX dX11_checkAmount_18 hf
set_option maxRecDepth 100000 in
set_option maxHeartbeats 200000 in
theorem C_X11_checkAmount {G : GX} (hG : GOk G) {x0 : Int32} {x1 : Int32} {x2 : Int32} {h : Hp} {r : Except String Unit × Hp} (hf : f_X11_checkAmount x0 x1 x2 h = some r) : Ctr G 10 yX11_checkAmount cX11_checkAmount 3 none [.int x0, .int x1, .int x2] h (oX tvV r) :=
  Ctr_of hG RX11 rfl (by decide) rfl (fun X _ hdx hX => T_X11_checkAmount_0 hX hdx x0 x1 x2 h hf)
theorem dX11_pastAt_0 : decode cX11_pastAt 0 = .ok (.aload_n 0, 1) := by decide +kernel
theorem dX11_pastAt_1 : decode cX11_pastAt 1 = .ok (.getfield 410, 3) := by decide +kernel
theorem dX11_pastAt_4 : decode cX11_pastAt 4 = .ok (.iload_n 1, 1) := by decide +kernel
theorem dX11_pastAt_5 : decode cX11_pastAt 5 = .ok (.iadd, 1) := by decide +kernel
theorem dX11_pastAt_6 : decode cX11_pastAt 6 = .ok (.bipush 12, 2) := by decide +kernel
theorem dX11_pastAt_8 : decode cX11_pastAt 8 = .ok (.irem, 1) := by decide +kernel
theorem dX11_pastAt_9 : decode cX11_pastAt 9 = .ok (.istore_n 2, 1) := by decide +kernel
theorem dX11_pastAt_10 : decode cX11_pastAt 10 = .ok (.iload_n 2, 1) := by decide +kernel
theorem dX11_pastAt_11 : decode cX11_pastAt 11 = .ok (.ifCond .lt 21, 3) := by decide +kernel
theorem dX11_pastAt_14 : decode cX11_pastAt 14 = .ok (.iload_n 2, 1) := by decide +kernel
theorem dX11_pastAt_15 : decode cX11_pastAt 15 = .ok (.aload_n 0, 1) := by decide +kernel
theorem dX11_pastAt_16 : decode cX11_pastAt 16 = .ok (.getfield 70, 3) := by decide +kernel
theorem dX11_pastAt_19 : decode cX11_pastAt 19 = .ok (.arraylength, 1) := by decide +kernel
theorem dX11_pastAt_20 : decode cX11_pastAt 20 = .ok (.if_icmp .ge 12, 3) := by decide +kernel
theorem dX11_pastAt_23 : decode cX11_pastAt 23 = .ok (.aload_n 0, 1) := by decide +kernel
theorem dX11_pastAt_24 : decode cX11_pastAt 24 = .ok (.getfield 70, 3) := by decide +kernel
theorem dX11_pastAt_27 : decode cX11_pastAt 27 = .ok (.iload_n 2, 1) := by decide +kernel
theorem dX11_pastAt_28 : decode cX11_pastAt 28 = .ok (.aaload, 1) := by decide +kernel
theorem dX11_pastAt_29 : decode cX11_pastAt 29 = .ok (.goto 4, 3) := by decide +kernel
theorem dX11_pastAt_32 : decode cX11_pastAt 32 = .ok (.aconst_null, 1) := by decide +kernel
theorem dX11_pastAt_33 : decode cX11_pastAt 33 = .ok (.areturn, 1) := by decide +kernel
set_option maxRecDepth 100000 in
set_option maxHeartbeats 200000 in
theorem T_X11_pastAt_32 {X : CX} (hX : Ok X cX11_pastAt 3 RX11 (some (.object "LeanCity$City"))) (hdx : dX X = 2) {r : Option Nat} (h : Hp) (hf : F_X11_pastAt_32 h = some r) : J X ((.inl (some (va_rf r)), h)) 32 [] [] h := by
  unfold F_X11_pastAt_32 at hf
  refine J_null hX dX11_pastAt_32 ?_
  exact E_N0 hX dX11_pastAt_33 hf
set_option maxRecDepth 100000 in
set_option maxHeartbeats 200000 in
theorem T_X11_pastAt_0 {X : CX} (hX : Ok X cX11_pastAt 3 RX11 (some (.object "LeanCity$City"))) (hdx : dX X = 2) {r : Option Nat} (x1 : Int32) (h : Hp) (hf : f_X11_pastAt x1 h = some r) : J X ((.inl (some (va_rf r)), h)) 0 [(0, .ref 1), (1, .int x1)] [] h := by
  unfold f_X11_pastAt at hf
  refine J_aload_n hX 0 dX11_pastAt_0 rfl rfl ?_
  refine J_getI hX dX11_pastAt_1 fl_X11_410 ob_1 rfl ?_
  refine J_iload_n hX 1 dX11_pastAt_4 rfl rfl ?_
  refine J_iadd hX dX11_pastAt_5 ?_
  refine J_bipush hX 12 dX11_pastAt_6 rfl ?_
  refine J_irem hX (by decide) dX11_pastAt_8 ?_
  obtain ⟨x2_1, e_2, hf⟩ := bndE hf
  refine J_nm e_2 ?_
  refine J_istore_n hX [(2, .int x2_1), (0, .ref 1), (1, .int x1)] dX11_pastAt_9 rfl rfl rfl ?_
  refine J_iload_n hX 0 dX11_pastAt_10 rfl rfl ?_
  rcases ifE hf with ⟨c_3, hf⟩ | ⟨c_3, hf⟩
  · refine J_if_ltT hX 32 dX11_pastAt_11 rfl c_3 ?_
    refine J_sub [] [] rfl ?_
    exact T_X11_pastAt_32 hX hdx h hf
  · refine J_if_ltF hX 32 dX11_pastAt_11 rfl c_3 ?_
    refine J_iload_n hX 0 dX11_pastAt_14 rfl rfl ?_
    refine J_aload_n hX 1 dX11_pastAt_15 rfl rfl ?_
    refine J_getR hX 27 dX11_pastAt_16 fl_X11_70 ob_1 rfl rfl ?_
    refine J_alen hX 12 dX11_pastAt_19 ar_27 (by decide) rfl ?_
    rcases ifE hf with ⟨c_4, hf⟩ | ⟨c_4, hf⟩
    · refine J_icmp_geF hX 32 dX11_pastAt_20 rfl c_4 ?_
      refine J_aload_n hX 1 dX11_pastAt_23 rfl rfl ?_
      refine J_getR hX 27 dX11_pastAt_24 fl_X11_70 ob_1 rfl rfl ?_
      refine J_iload_n hX 0 dX11_pastAt_27 rfl rfl ?_
      obtain ⟨g_5, hf⟩ := gdE hf
      refine J_aald hX (148 + 16 * x2_1.toNatClampNeg) dX11_pastAt_28 ar_27 g_5 rfl ?_
      refine J_goto hX 33 dX11_pastAt_29 rfl ?_
      exact E_N1 hX dX11_pastAt_33 hf
    · refine J_icmp_geT hX 32 dX11_pastAt_20 rfl c_4 ?_
      refine J_sub [] [] rfl ?_
      exact T_X11_pastAt_32 hX hdx h hf
set_option maxRecDepth 100000 in
set_option maxHeartbeats 200000 in
theorem C_X11_pastAt {G : GX} (hG : GOk G) {x1 : Int32} {h : Hp} {r : Option Nat} (hf : f_X11_pastAt x1 h = some r) : Ctr G 2 yX11_pastAt cX11_pastAt 3 (some (.object "LeanCity$City")) [.ref 1, .int x1] h ((.inl (some (va_rf r)), h)) :=
  Ctr_of hG RX11 rfl (by decide) rfl (fun X _ hdx hX => T_X11_pastAt_0 hX hdx x1 h hf)
theorem dX11_remember_0 : decode cX11_remember 0 = .ok (.aload_n 0, 1) := by decide +kernel
theorem dX11_remember_1 : decode cX11_remember 1 = .ok (.getfield 101, 3) := by decide +kernel
theorem dX11_remember_4 : decode cX11_remember 4 = .ok (.bipush 12, 2) := by decide +kernel
theorem dX11_remember_6 : decode cX11_remember 6 = .ok (.if_icmp .lt 22, 3) := by decide +kernel
theorem dX11_remember_9 : decode cX11_remember 9 = .ok (.aload_n 0, 1) := by decide +kernel
theorem dX11_remember_10 : decode cX11_remember 10 = .ok (.aload_n 0, 1) := by decide +kernel
theorem dX11_remember_11 : decode cX11_remember 11 = .ok (.getfield 410, 3) := by decide +kernel
theorem dX11_remember_14 : decode cX11_remember 14 = .ok (.iconst 1, 1) := by decide +kernel
theorem dX11_remember_15 : decode cX11_remember 15 = .ok (.iadd, 1) := by decide +kernel
theorem dX11_remember_16 : decode cX11_remember 16 = .ok (.bipush 12, 2) := by decide +kernel
theorem dX11_remember_18 : decode cX11_remember 18 = .ok (.irem, 1) := by decide +kernel
theorem dX11_remember_19 : decode cX11_remember 19 = .ok (.putfield 410, 3) := by decide +kernel
theorem dX11_remember_22 : decode cX11_remember 22 = .ok (.aload_n 0, 1) := by decide +kernel
theorem dX11_remember_23 : decode cX11_remember 23 = .ok (.bipush 11, 2) := by decide +kernel
theorem dX11_remember_25 : decode cX11_remember 25 = .ok (.putfield 101, 3) := by decide +kernel
theorem dX11_remember_28 : decode cX11_remember 28 = .ok (.aload_n 0, 1) := by decide +kernel
theorem dX11_remember_29 : decode cX11_remember 29 = .ok (.aload_n 0, 1) := by decide +kernel
theorem dX11_remember_30 : decode cX11_remember 30 = .ok (.getfield 101, 3) := by decide +kernel
theorem dX11_remember_33 : decode cX11_remember 33 = .ok (.invokevirtual 396, 3) := by decide +kernel
theorem dX11_remember_36 : decode cX11_remember 36 = .ok (.astore_n 1, 1) := by decide +kernel
theorem dX11_remember_37 : decode cX11_remember 37 = .ok (.aload_n 1, 1) := by decide +kernel
theorem dX11_remember_38 : decode cX11_remember 38 = .ok (.ifnull 21, 3) := by decide +kernel
theorem dX11_remember_41 : decode cX11_remember 41 = .ok (.aload_n 1, 1) := by decide +kernel
theorem dX11_remember_42 : decode cX11_remember 42 = .ok (.aload_n 0, 1) := by decide +kernel
theorem dX11_remember_43 : decode cX11_remember 43 = .ok (.getfield 19, 3) := by decide +kernel
theorem dX11_remember_46 : decode cX11_remember 46 = .ok (.invokevirtual 82, 3) := by decide +kernel
theorem dX11_remember_49 : decode cX11_remember 49 = .ok (.aload_n 0, 1) := by decide +kernel
theorem dX11_remember_50 : decode cX11_remember 50 = .ok (.dup, 1) := by decide +kernel
theorem dX11_remember_51 : decode cX11_remember 51 = .ok (.getfield 101, 3) := by decide +kernel
theorem dX11_remember_54 : decode cX11_remember 54 = .ok (.iconst 1, 1) := by decide +kernel
theorem dX11_remember_55 : decode cX11_remember 55 = .ok (.iadd, 1) := by decide +kernel
theorem dX11_remember_56 : decode cX11_remember 56 = .ok (.putfield 101, 3) := by decide +kernel
theorem dX11_remember_59 : decode cX11_remember 59 = .ok (.return_, 1) := by decide +kernel
set_option maxRecDepth 100000 in
set_option maxHeartbeats 200000 in
theorem T_X11_remember_28 {X : CX} (hX : Ok X cX11_remember 2 RX11 none) (hdx : dX X = 4) {r : Hp} (h : Hp) (hf : F_X11_remember_28 h = some r) : J X ((.inl none, r)) 28 [(0, .ref 1)] [] h := by
  unfold F_X11_remember_28 at hf
  refine J_aload_n hX 0 dX11_remember_28 rfl rfl ?_
  refine J_aload_n hX 0 dX11_remember_29 rfl rfl ?_
  refine J_getI hX dX11_remember_30 fl_X11_101 ob_1 rfl ?_
  obtain ⟨r_1, e_2, hf⟩ := bdE hf
  rcases onE hf with ⟨c_n, hf⟩ | ⟨kn_3, c_n, hf⟩
  · subst c_n
    refine V_1 hX [.int (h 1 14)] dX11_remember_33 cw_X11_396 ob_1 rfl (C_X11_pastAt (okG hX) e_2) (ltD hdx rfl) rfl rfl rfl rfl ?_
    refine J_astore_nN hX [(1, .null), (0, .ref 1)] dX11_remember_36 rfl rfl rfl ?_
    refine J_aload_nN hX 0 dX11_remember_37 rfl rfl ?_
    refine J_ifnullN hX 59 dX11_remember_38 rfl ?_
    exact E_Vi hX dX11_remember_59 hf
  · subst c_n
    obtain ⟨g_4, hf⟩ := gdE hf
    refine V_1 hX [.int (h 1 14)] dX11_remember_33 cw_X11_396 ob_1 rfl (C_X11_pastAt (okG hX) e_2) (ltD hdx rfl) rfl rfl rfl rfl ?_
    refine J_astore_n hX [(1, .ref kn_3), (0, .ref 1)] dX11_remember_36 rfl rfl rfl ?_
    refine J_aload_n hX 0 dX11_remember_37 rfl rfl ?_
    refine J_ifnullF hX dX11_remember_38 ?_
    refine J_aload_n hX 0 dX11_remember_41 rfl rfl ?_
    refine J_aload_n hX 1 dX11_remember_42 rfl rfl ?_
    refine J_getR hX 100 dX11_remember_43 fl_X11_19 ob_1 rfl rfl ?_
    obtain ⟨r_5, e_6, hf⟩ := bdE hf
    refine V_0 hX [.ref 100] dX11_remember_46 cw_X11_82 (city_ob (cityB_is g_4)) rfl (C_X1_copyFrom (okG hX) (cityB_is g_4) isc_100 e_6) (ltD hdx rfl) rfl rfl rfl rfl ?_
    refine J_aload_n hX 1 dX11_remember_49 rfl rfl ?_
    refine J_dup hX dX11_remember_50 rfl ?_
    refine J_getI hX dX11_remember_51 fl_X11_101 ob_1 rfl ?_
    refine J_iconst hX 1 dX11_remember_54 rfl ?_
    refine J_iadd hX dX11_remember_55 ?_
    obtain ⟨h_7, e_8, hf⟩ := bndE hf
    refine J_putI hX dX11_remember_56 fl_X11_101 fw_9_14 ob_1 rfl rfl rfl ?_
    refine J_nmh e_8 ?_
    exact E_Vi hX dX11_remember_59 hf
set_option maxRecDepth 100000 in
set_option maxHeartbeats 200000 in
theorem T_X11_remember_0 {X : CX} (hX : Ok X cX11_remember 2 RX11 none) (hdx : dX X = 4) {r : Hp} (h : Hp) (hf : f_X11_remember h = some r) : J X ((.inl none, r)) 0 [(0, .ref 1)] [] h := by
  unfold f_X11_remember at hf
  refine J_aload_n hX 0 dX11_remember_0 rfl rfl ?_
  refine J_getI hX dX11_remember_1 fl_X11_101 ob_1 rfl ?_
  refine J_bipush hX 12 dX11_remember_4 rfl ?_
  rcases ifE hf with ⟨c_1, hf⟩ | ⟨c_1, hf⟩
  · refine J_icmp_ltT hX 28 dX11_remember_6 rfl c_1 ?_
    exact T_X11_remember_28 hX hdx h hf
  · refine J_icmp_ltF hX 28 dX11_remember_6 rfl c_1 ?_
    refine J_aload_n hX 0 dX11_remember_9 rfl rfl ?_
    refine J_aload_n hX 0 dX11_remember_10 rfl rfl ?_
    refine J_getI hX dX11_remember_11 fl_X11_410 ob_1 rfl ?_
    refine J_iconst hX 1 dX11_remember_14 rfl ?_
    refine J_iadd hX dX11_remember_15 ?_
    refine J_bipush hX 12 dX11_remember_16 rfl ?_
    refine J_irem hX (by decide) dX11_remember_18 ?_
    obtain ⟨h_2, e_3, hf⟩ := bndE hf
    refine J_putI hX dX11_remember_19 fl_X11_410 fw_9_13 ob_1 rfl rfl rfl ?_
    refine J_nmh e_3 ?_
    refine J_aload_n hX 0 dX11_remember_22 rfl rfl ?_
    refine J_bipush hX 11 dX11_remember_23 rfl ?_
    obtain ⟨h_4, e_5, hf⟩ := bndE hf
    refine J_putI hX dX11_remember_25 fl_X11_101 fw_9_14 ob_1 rfl rfl rfl ?_
    refine J_nmh e_5 ?_
    exact T_X11_remember_28 hX hdx h_4 hf
set_option maxRecDepth 100000 in
set_option maxHeartbeats 200000 in
theorem C_X11_remember {G : GX} (hG : GOk G) {h : Hp} {r : Hp} (hf : f_X11_remember h = some r) : Ctr G 4 yX11_remember cX11_remember 2 none [.ref 1] h ((.inl none, r)) :=
  Ctr_of hG RX11 rfl (by decide) rfl (fun X _ hdx hX => T_X11_remember_0 hX hdx h hf)
theorem dX11_evenings_0 : decode cX11_evenings 0 = .ok (.iload_n 1, 1) := by decide +kernel
theorem dX11_evenings_1 : decode cX11_evenings 1 = .ok (.iconst 1, 1) := by decide +kernel
theorem dX11_evenings_2 : decode cX11_evenings 2 = .ok (.bipush 70, 2) := by decide +kernel
theorem dX11_evenings_4 : decode cX11_evenings 4 = .ok (.invokestatic 241, 3) := by decide +kernel
theorem dX11_evenings_7 : decode cX11_evenings 7 = .ok (.aload_n 0, 1) := by decide +kernel
theorem dX11_evenings_8 : decode cX11_evenings 8 = .ok (.invokevirtual 245, 3) := by decide +kernel
theorem dX11_evenings_11 : decode cX11_evenings 11 = .ok (.aload_n 0, 1) := by decide +kernel
theorem dX11_evenings_12 : decode cX11_evenings 12 = .ok (.getfield 19, 3) := by decide +kernel
theorem dX11_evenings_15 : decode cX11_evenings 15 = .ok (.getfield 229, 3) := by decide +kernel
theorem dX11_evenings_18 : decode cX11_evenings 18 = .ok (.invokestatic 248, 3) := by decide +kernel
theorem dX11_evenings_21 : decode cX11_evenings 21 = .ok (.istore_n 2, 1) := by decide +kernel
theorem dX11_evenings_22 : decode cX11_evenings 22 = .ok (.aload_n 0, 1) := by decide +kernel
theorem dX11_evenings_23 : decode cX11_evenings 23 = .ok (.getfield 39, 3) := by decide +kernel
theorem dX11_evenings_26 : decode cX11_evenings 26 = .ok (.aload_n 0, 1) := by decide +kernel
theorem dX11_evenings_27 : decode cX11_evenings 27 = .ok (.getfield 19, 3) := by decide +kernel
theorem dX11_evenings_30 : decode cX11_evenings 30 = .ok (.aload_n 0, 1) := by decide +kernel
theorem dX11_evenings_31 : decode cX11_evenings 31 = .ok (.getfield 29, 3) := by decide +kernel
theorem dX11_evenings_34 : decode cX11_evenings 34 = .ok (.iload_n 1, 1) := by decide +kernel
theorem dX11_evenings_35 : decode cX11_evenings 35 = .ok (.iconst 1, 1) := by decide +kernel
theorem dX11_evenings_36 : decode cX11_evenings 36 = .ok (.invokevirtual 253, 3) := by decide +kernel
theorem dX11_evenings_39 : decode cX11_evenings 39 = .ok (.iload_n 2, 1) := by decide +kernel
theorem dX11_evenings_40 : decode cX11_evenings 40 = .ok (.aload_n 0, 1) := by decide +kernel
theorem dX11_evenings_41 : decode cX11_evenings 41 = .ok (.getfield 19, 3) := by decide +kernel
theorem dX11_evenings_44 : decode cX11_evenings 44 = .ok (.getfield 229, 3) := by decide +kernel
theorem dX11_evenings_47 : decode cX11_evenings 47 = .ok (.invokestatic 248, 3) := by decide +kernel
theorem dX11_evenings_50 : decode cX11_evenings 50 = .ok (.isub, 1) := by decide +kernel
theorem dX11_evenings_51 : decode cX11_evenings 51 = .ok (.ireturn, 1) := by decide +kernel
set_option maxRecDepth 100000 in
set_option maxHeartbeats 200000 in
theorem T_X11_evenings_0 {X : CX} (hX : Ok X cX11_evenings 3 RX11 (some .int)) (hdx : dX X = 11) {r : Except String Int32 × Hp} (x1 : Int32) (h : Hp) (hf : f_X11_evenings x1 h = some r) : J X (oX tvI r) 0 [(0, .ref 1), (1, .int x1)] [] h := by
  unfold f_X11_evenings at hf
  refine J_iload_n hX 1 dX11_evenings_0 rfl rfl ?_
  refine J_iconst hX 1 dX11_evenings_1 rfl ?_
  refine J_bipush hX 70 dX11_evenings_2 rfl ?_
  obtain ⟨r_1, e_2, hf⟩ := bdE hf
  rcases exE hf with ⟨v_3, h_4, z_6, hg⟩ | ⟨E_5, h_4, z_6, z_6r⟩
  all_goals clear hf
  rotate_left
  · subst z_6
    exact S_kx hX [.int x1, .int 1, .int 70] dX11_evenings_4 cw_X11_241 (C_X11_checkAmount (okG hX) e_2) (ltD hdx rfl) rfl rfl rfl rfl z_6r
  subst z_6
  have hf := hg
  clear hg
  refine S_k0 hX [.int x1, .int 1, .int 70] dX11_evenings_4 cw_X11_241 (C_X11_checkAmount (okG hX) e_2) (ltD hdx rfl) rfl rfl rfl rfl rfl ?_
  refine J_aload_n hX 0 dX11_evenings_7 rfl rfl ?_
  obtain ⟨r_7, e_8, hf⟩ := bdE hf
  refine V_0 hX [] dX11_evenings_8 cw_X11_245 ob_1 rfl (C_X11_remember (okG hX) e_8) (ltD hdx rfl) rfl rfl rfl rfl ?_
  refine J_aload_n hX 0 dX11_evenings_11 rfl rfl ?_
  refine J_getR hX 100 dX11_evenings_12 fl_X11_19 ob_1 rfl rfl ?_
  refine J_getI hX dX11_evenings_15 fl_X11_229 (city_ob isc_100) rfl ?_
  refine S_1 hX [.int (r_7 100 11)] dX11_evenings_18 cw_X11_248 (C_J6_bitCount_0f7a4 (okG hX) rfl) (ltD hdx rfl) rfl rfl rfl rfl ?_
  obtain ⟨x2_9, e_10, hf⟩ := bndE hf
  refine J_nm e_10 ?_
  refine J_istore_n hX [(2, .int x2_9), (0, .ref 1), (1, .int x1)] dX11_evenings_21 rfl rfl rfl ?_
  refine J_aload_n hX 1 dX11_evenings_22 rfl rfl ?_
  refine J_getR hX 4 dX11_evenings_23 fl_X11_39 ob_1 rfl rfl ?_
  refine J_aload_n hX 1 dX11_evenings_26 rfl rfl ?_
  refine J_getR hX 100 dX11_evenings_27 fl_X11_19 ob_1 rfl rfl ?_
  refine J_aload_n hX 1 dX11_evenings_30 rfl rfl ?_
  refine J_getR hX 500 dX11_evenings_31 fl_X11_29 ob_1 rfl rfl ?_
  refine J_iload_n hX 2 dX11_evenings_34 rfl rfl ?_
  refine J_iconst hX 1 dX11_evenings_35 rfl ?_
  obtain ⟨r_11, e_12, hf⟩ := bdE hf
  refine V_0 hX [.ref 100, .ref 500, .int x1, .int 1] dX11_evenings_36 cw_X11_253 ob_4 rfl (C_X3_run (okG hX) isc_100 isl_500 e_12) (ltD hdx rfl) rfl rfl rfl rfl ?_
  refine J_iload_n hX 0 dX11_evenings_39 rfl rfl ?_
  refine J_aload_n hX 1 dX11_evenings_40 rfl rfl ?_
  refine J_getR hX 100 dX11_evenings_41 fl_X11_19 ob_1 rfl rfl ?_
  refine J_getI hX dX11_evenings_44 fl_X11_229 (city_ob isc_100) rfl ?_
  refine S_1 hX [.int (r_11 100 11)] dX11_evenings_47 cw_X11_248 (C_J6_bitCount_0f7a4 (okG hX) rfl) (ltD hdx rfl) rfl rfl rfl rfl ?_
  refine J_isub hX dX11_evenings_50 ?_
  exact E_Ix hX dX11_evenings_51 hf
set_option maxRecDepth 100000 in
set_option maxHeartbeats 200000 in
theorem C_X11_evenings {G : GX} (hG : GOk G) {x1 : Int32} {h : Hp} {r : Except String Int32 × Hp} (hf : f_X11_evenings x1 h = some r) : Ctr G 11 yX11_evenings cX11_evenings 3 (some .int) [.ref 1, .int x1] h (oX tvI r) :=
  Ctr_of hG RX11 rfl (by decide) rfl (fun X _ hdx hX => T_X11_evenings_0 hX hdx x1 h hf)
theorem dX11_checkUp_0 : decode cX11_checkUp 0 = .ok (.aload_n 0, 1) := by decide +kernel
theorem dX11_checkUp_1 : decode cX11_checkUp 1 = .ok (.getfield 19, 3) := by decide +kernel
theorem dX11_checkUp_4 : decode cX11_checkUp 4 = .ok (.iload_n 1, 1) := by decide +kernel
theorem dX11_checkUp_5 : decode cX11_checkUp 5 = .ok (.invokevirtual 148, 3) := by decide +kernel
theorem dX11_checkUp_8 : decode cX11_checkUp 8 = .ok (.ifCond .ne 11, 3) := by decide +kernel
theorem dX11_checkUp_11 : decode cX11_checkUp 11 = .ok (.new 257, 3) := by decide +kernel
theorem dX11_checkUp_14 : decode cX11_checkUp 14 = .ok (.dup, 1) := by decide +kernel
theorem dX11_checkUp_15 : decode cX11_checkUp 15 = .ok (.invokespecial 259, 3) := by decide +kernel
theorem dX11_checkUp_18 : decode cX11_checkUp 18 = .ok (.athrow, 1) := by decide +kernel
theorem dX11_checkUp_19 : decode cX11_checkUp 19 = .ok (.return_, 1) := by decide +kernel
set_option maxRecDepth 100000 in
set_option maxHeartbeats 200000 in
theorem T_X11_checkUp_0 {X : CX} (hX : Ok X cX11_checkUp 2 RX11 none) (hdx : dX X = 10) {r : Except String Unit × Hp} (x1 : Int32) (h : Hp) (hf : f_X11_checkUp x1 h = some r) : J X (oX tvV r) 0 [(0, .ref 1), (1, .int x1)] [] h := by
  unfold f_X11_checkUp at hf
  refine J_aload_n hX 0 dX11_checkUp_0 rfl rfl ?_
  refine J_getR hX 100 dX11_checkUp_1 fl_X11_19 ob_1 rfl rfl ?_
  refine J_iload_n hX 1 dX11_checkUp_4 rfl rfl ?_
  refine V_1 hX [.int x1] dX11_checkUp_5 cw_X11_148 (city_ob isc_100) rfl (C_X1_isUp (okG hX) isc_100 rfl) (ltD hdx rfl) rfl rfl rfl rfl ?_
  rcases ifE hf with ⟨c_1, hf⟩ | ⟨c_1, hf⟩
  · refine J_if_neT hX 19 dX11_checkUp_8 rfl (b2iT c_1) ?_
    exact E_Vx hX dX11_checkUp_19 hf
  · refine J_if_neF hX 19 dX11_checkUp_8 rfl (b2iF c_1) ?_
    exact E_thr hX exN dX11_checkUp_11 dX11_checkUp_14 dX11_checkUp_15 dX11_checkUp_18 tw_X11_257_259 (ltD hdx rfl) rfl hf
set_option maxRecDepth 100000 in
set_option maxHeartbeats 200000 in
theorem C_X11_checkUp {G : GX} (hG : GOk G) {x1 : Int32} {h : Hp} {r : Except String Unit × Hp} (hf : f_X11_checkUp x1 h = some r) : Ctr G 10 yX11_checkUp cX11_checkUp 2 none [.ref 1, .int x1] h (oX tvV r) :=
  Ctr_of hG RX11 rfl (by decide) rfl (fun X _ hdx hX => T_X11_checkUp_0 hX hdx x1 h hf)
theorem dX11_build_0 : decode cX11_build 0 = .ok (.aload_n 0, 1) := by decide +kernel
theorem dX11_build_1 : decode cX11_build 1 = .ok (.iload_n 3, 1) := by decide +kernel
theorem dX11_build_2 : decode cX11_build 2 = .ok (.invokevirtual 118, 3) := by decide +kernel
theorem dX11_build_5 : decode cX11_build 5 = .ok (.iload_n 1, 1) := by decide +kernel
theorem dX11_build_6 : decode cX11_build 6 = .ok (.iconst 1, 1) := by decide +kernel
theorem dX11_build_7 : decode cX11_build 7 = .ok (.bipush 99, 2) := by decide +kernel
theorem dX11_build_9 : decode cX11_build 9 = .ok (.invokestatic 241, 3) := by decide +kernel
theorem dX11_build_12 : decode cX11_build 12 = .ok (.iload_n 2, 1) := by decide +kernel
theorem dX11_build_13 : decode cX11_build 13 = .ok (.iconst 0, 1) := by decide +kernel
theorem dX11_build_14 : decode cX11_build 14 = .ok (.sipush 999, 3) := by decide +kernel
theorem dX11_build_17 : decode cX11_build 17 = .ok (.invokestatic 241, 3) := by decide +kernel
theorem dX11_build_20 : decode cX11_build 20 = .ok (.iload 4, 2) := by decide +kernel
theorem dX11_build_22 : decode cX11_build 22 = .ok (.iconst 1, 1) := by decide +kernel
theorem dX11_build_23 : decode cX11_build 23 = .ok (.bipush 9, 2) := by decide +kernel
theorem dX11_build_25 : decode cX11_build 25 = .ok (.invokestatic 241, 3) := by decide +kernel
theorem dX11_build_28 : decode cX11_build 28 = .ok (.aload_n 0, 1) := by decide +kernel
theorem dX11_build_29 : decode cX11_build 29 = .ok (.getfield 19, 3) := by decide +kernel
theorem dX11_build_32 : decode cX11_build 32 = .ok (.getfield 214, 3) := by decide +kernel
theorem dX11_build_35 : decode cX11_build 35 = .ok (.bipush 8, 2) := by decide +kernel
theorem dX11_build_37 : decode cX11_build 37 = .ok (.if_icmp .lt 11, 3) := by decide +kernel
theorem dX11_build_40 : decode cX11_build 40 = .ok (.new 257, 3) := by decide +kernel
theorem dX11_build_43 : decode cX11_build 43 = .ok (.dup, 1) := by decide +kernel
theorem dX11_build_44 : decode cX11_build 44 = .ok (.invokespecial 259, 3) := by decide +kernel
theorem dX11_build_47 : decode cX11_build 47 = .ok (.athrow, 1) := by decide +kernel
theorem dX11_build_48 : decode cX11_build 48 = .ok (.aload_n 0, 1) := by decide +kernel
theorem dX11_build_49 : decode cX11_build 49 = .ok (.iload_n 3, 1) := by decide +kernel
theorem dX11_build_50 : decode cX11_build 50 = .ok (.invokevirtual 260, 3) := by decide +kernel
theorem dX11_build_53 : decode cX11_build 53 = .ok (.aload_n 0, 1) := by decide +kernel
theorem dX11_build_54 : decode cX11_build 54 = .ok (.invokevirtual 245, 3) := by decide +kernel
theorem dX11_build_57 : decode cX11_build 57 = .ok (.aload_n 0, 1) := by decide +kernel
theorem dX11_build_58 : decode cX11_build 58 = .ok (.getfield 19, 3) := by decide +kernel
theorem dX11_build_61 : decode cX11_build 61 = .ok (.iload_n 1, 1) := by decide +kernel
theorem dX11_build_62 : decode cX11_build 62 = .ok (.iload_n 2, 1) := by decide +kernel
theorem dX11_build_63 : decode cX11_build 63 = .ok (.iconst 0, 1) := by decide +kernel
theorem dX11_build_64 : decode cX11_build 64 = .ok (.iconst 0, 1) := by decide +kernel
theorem dX11_build_65 : decode cX11_build 65 = .ok (.invokevirtual 263, 3) := by decide +kernel
theorem dX11_build_68 : decode cX11_build 68 = .ok (.istore 5, 2) := by decide +kernel
theorem dX11_build_70 : decode cX11_build 70 = .ok (.aload_n 0, 1) := by decide +kernel
theorem dX11_build_71 : decode cX11_build 71 = .ok (.getfield 19, 3) := by decide +kernel
theorem dX11_build_74 : decode cX11_build 74 = .ok (.iload 5, 2) := by decide +kernel
theorem dX11_build_76 : decode cX11_build 76 = .ok (.iload_n 3, 1) := by decide +kernel
theorem dX11_build_77 : decode cX11_build 77 = .ok (.iload 4, 2) := by decide +kernel
theorem dX11_build_79 : decode cX11_build 79 = .ok (.invokevirtual 267, 3) := by decide +kernel
theorem dX11_build_82 : decode cX11_build 82 = .ok (.iload 5, 2) := by decide +kernel
theorem dX11_build_84 : decode cX11_build 84 = .ok (.ireturn, 1) := by decide +kernel
set_option maxRecDepth 100000 in
set_option maxHeartbeats 200000 in
theorem T_X11_build_0 {X : CX} (hX : Ok X cX11_build 6 RX11 (some .int)) (hdx : dX X = 11) {r : Except String Int32 × Hp} (x1 : Int32) (x2 : Int32) (x3 : Int32) (x4 : Int32) (h : Hp) (hf : f_X11_build x1 x2 x3 x4 h = some r) : J X (oX tvI r) 0 [(0, .ref 1), (1, .int x1), (2, .int x2), (3, .int x3), (4, .int x4)] [] h := by
  unfold f_X11_build at hf
  refine J_aload_n hX 0 dX11_build_0 rfl rfl ?_
  refine J_iload_n hX 3 dX11_build_1 rfl rfl ?_
  obtain ⟨r_1, e_2, hf⟩ := bdE hf
  rcases exE hf with ⟨v_3, h_4, z_6, hg⟩ | ⟨E_5, h_4, z_6, z_6r⟩
  all_goals clear hf
  rotate_left
  · subst z_6
    exact V_kx hX [.int x3] dX11_build_2 cw_X11_118 ob_1 rfl (C_X11_checkHouse (okG hX) e_2) (ltD hdx rfl) rfl rfl rfl rfl z_6r
  subst z_6
  have hf := hg
  clear hg
  refine V_k0 hX [.int x3] dX11_build_2 cw_X11_118 ob_1 rfl (C_X11_checkHouse (okG hX) e_2) (ltD hdx rfl) rfl rfl rfl rfl rfl ?_
  refine J_iload_n hX 1 dX11_build_5 rfl rfl ?_
  refine J_iconst hX 1 dX11_build_6 rfl ?_
  refine J_bipush hX 99 dX11_build_7 rfl ?_
  obtain ⟨r_7, e_8, hf⟩ := bdE hf
  rcases exE hf with ⟨v_9, h_10, z_12, hg⟩ | ⟨E_11, h_10, z_12, z_12r⟩
  all_goals clear hf
  rotate_left
  · subst z_12
    exact S_kx hX [.int x1, .int 1, .int 99] dX11_build_9 cw_X11_241 (C_X11_checkAmount (okG hX) e_8) (ltD hdx rfl) rfl rfl rfl rfl z_12r
  subst z_12
  have hf := hg
  clear hg
  refine S_k0 hX [.int x1, .int 1, .int 99] dX11_build_9 cw_X11_241 (C_X11_checkAmount (okG hX) e_8) (ltD hdx rfl) rfl rfl rfl rfl rfl ?_
  refine J_iload_n hX 2 dX11_build_12 rfl rfl ?_
  refine J_iconst hX 0 dX11_build_13 rfl ?_
  refine J_sipush hX 999 dX11_build_14 rfl ?_
  obtain ⟨r_13, e_14, hf⟩ := bdE hf
  rcases exE hf with ⟨v_15, h_16, z_18, hg⟩ | ⟨E_17, h_16, z_18, z_18r⟩
  all_goals clear hf
  rotate_left
  · subst z_18
    exact S_kx hX [.int x2, .int 0, .int 999] dX11_build_17 cw_X11_241 (C_X11_checkAmount (okG hX) e_14) (ltD hdx rfl) rfl rfl rfl rfl z_18r
  subst z_18
  have hf := hg
  clear hg
  refine S_k0 hX [.int x2, .int 0, .int 999] dX11_build_17 cw_X11_241 (C_X11_checkAmount (okG hX) e_14) (ltD hdx rfl) rfl rfl rfl rfl rfl ?_
  refine J_iload hX 4 dX11_build_20 rfl ?_
  refine J_iconst hX 1 dX11_build_22 rfl ?_
  refine J_bipush hX 9 dX11_build_23 rfl ?_
  obtain ⟨r_19, e_20, hf⟩ := bdE hf
  rcases exE hf with ⟨v_21, h_22, z_24, hg⟩ | ⟨E_23, h_22, z_24, z_24r⟩
  all_goals clear hf
  rotate_left
  · subst z_24
    exact S_kx hX [.int x4, .int 1, .int 9] dX11_build_25 cw_X11_241 (C_X11_checkAmount (okG hX) e_20) (ltD hdx rfl) rfl rfl rfl rfl z_24r
  subst z_24
  have hf := hg
  clear hg
  refine S_k0 hX [.int x4, .int 1, .int 9] dX11_build_25 cw_X11_241 (C_X11_checkAmount (okG hX) e_20) (ltD hdx rfl) rfl rfl rfl rfl rfl ?_
  refine J_aload_n hX 0 dX11_build_28 rfl rfl ?_
  refine J_getR hX 100 dX11_build_29 fl_X11_19 ob_1 rfl rfl ?_
  refine J_getI hX dX11_build_32 fl_X11_214 (city_ob isc_100) rfl ?_
  refine J_bipush hX 8 dX11_build_35 rfl ?_
  rcases ifE hf with ⟨c_25, hf⟩ | ⟨c_25, hf⟩
  · refine J_icmp_ltT hX 48 dX11_build_37 rfl c_25 ?_
    refine J_aload_n hX 0 dX11_build_48 rfl rfl ?_
    refine J_iload_n hX 3 dX11_build_49 rfl rfl ?_
    obtain ⟨r_26, e_27, hf⟩ := bdE hf
    rcases exE hf with ⟨v_28, h_29, z_31, hg⟩ | ⟨E_30, h_29, z_31, z_31r⟩
    all_goals clear hf
    rotate_left
    · subst z_31
      exact V_kx hX [.int x3] dX11_build_50 cw_X11_260 ob_1 rfl (C_X11_checkUp (okG hX) e_27) (ltD hdx rfl) rfl rfl rfl rfl z_31r
    subst z_31
    have hf := hg
    clear hg
    refine V_k0 hX [.int x3] dX11_build_50 cw_X11_260 ob_1 rfl (C_X11_checkUp (okG hX) e_27) (ltD hdx rfl) rfl rfl rfl rfl rfl ?_
    refine J_aload_n hX 0 dX11_build_53 rfl rfl ?_
    obtain ⟨r_32, e_33, hf⟩ := bdE hf
    refine V_0 hX [] dX11_build_54 cw_X11_245 ob_1 rfl (C_X11_remember (okG hX) e_33) (ltD hdx rfl) rfl rfl rfl rfl ?_
    refine J_aload_n hX 0 dX11_build_57 rfl rfl ?_
    refine J_getR hX 100 dX11_build_58 fl_X11_19 ob_1 rfl rfl ?_
    refine J_iload_n hX 1 dX11_build_61 rfl rfl ?_
    refine J_iload_n hX 2 dX11_build_62 rfl rfl ?_
    refine J_iconst hX 0 dX11_build_63 rfl ?_
    refine J_iconst hX 0 dX11_build_64 rfl ?_
    obtain ⟨r_34, e_35, hf⟩ := bdE hf
    refine V_1 hX [.int x1, .int x2, .int 0, .int 0] dX11_build_65 cw_X11_263 (city_ob isc_100) rfl (C_X1_addHouse (okG hX) isc_100 e_35) (ltD hdx rfl) rfl rfl rfl rfl ?_
    refine J_istore hX [(5, .int r_34.1), (0, .ref 1), (1, .int x1), (2, .int x2), (3, .int x3), (4, .int x4)] dX11_build_68 rfl rfl ?_
    refine J_aload_n hX 1 dX11_build_70 rfl rfl ?_
    refine J_getR hX 100 dX11_build_71 fl_X11_19 ob_1 rfl rfl ?_
    refine J_iload hX 0 dX11_build_74 rfl ?_
    refine J_iload_n hX 4 dX11_build_76 rfl rfl ?_
    refine J_iload hX 5 dX11_build_77 rfl ?_
    obtain ⟨r_36, e_37, hf⟩ := bdE hf
    refine V_0 hX [.int r_34.1, .int x3, .int x4] dX11_build_79 cw_X11_267 (city_ob isc_100) rfl (C_X1_setPart (okG hX) isc_100 e_37) (ltD hdx rfl) rfl rfl rfl rfl ?_
    refine J_iload hX 0 dX11_build_82 rfl ?_
    exact E_Ix hX dX11_build_84 hf
  · refine J_icmp_ltF hX 48 dX11_build_37 rfl c_25 ?_
    exact E_thr hX exN dX11_build_40 dX11_build_43 dX11_build_44 dX11_build_47 tw_X11_257_259 (ltD hdx rfl) rfl hf
set_option maxRecDepth 100000 in
set_option maxHeartbeats 200000 in
theorem C_X11_build {G : GX} (hG : GOk G) {x1 : Int32} {x2 : Int32} {x3 : Int32} {x4 : Int32} {h : Hp} {r : Except String Int32 × Hp} (hf : f_X11_build x1 x2 x3 x4 h = some r) : Ctr G 11 yX11_build cX11_build 6 (some .int) [.ref 1, .int x1, .int x2, .int x3, .int x4] h (oX tvI r) :=
  Ctr_of hG RX11 rfl (by decide) rfl (fun X _ hdx hX => T_X11_build_0 hX hdx x1 x2 x3 x4 h hf)
theorem dX11_checkTwoHouses_0 : decode cX11_checkTwoHouses 0 = .ok (.aload_n 0, 1) := by decide +kernel
theorem dX11_checkTwoHouses_1 : decode cX11_checkTwoHouses 1 = .ok (.iload_n 1, 1) := by decide +kernel
theorem dX11_checkTwoHouses_2 : decode cX11_checkTwoHouses 2 = .ok (.invokevirtual 118, 3) := by decide +kernel
theorem dX11_checkTwoHouses_5 : decode cX11_checkTwoHouses 5 = .ok (.aload_n 0, 1) := by decide +kernel
theorem dX11_checkTwoHouses_6 : decode cX11_checkTwoHouses 6 = .ok (.iload_n 2, 1) := by decide +kernel
theorem dX11_checkTwoHouses_7 : decode cX11_checkTwoHouses 7 = .ok (.invokevirtual 118, 3) := by decide +kernel
theorem dX11_checkTwoHouses_10 : decode cX11_checkTwoHouses 10 = .ok (.iload_n 1, 1) := by decide +kernel
theorem dX11_checkTwoHouses_11 : decode cX11_checkTwoHouses 11 = .ok (.iload_n 2, 1) := by decide +kernel
theorem dX11_checkTwoHouses_12 : decode cX11_checkTwoHouses 12 = .ok (.if_icmp .ne 11, 3) := by decide +kernel
theorem dX11_checkTwoHouses_15 : decode cX11_checkTwoHouses 15 = .ok (.new 92, 3) := by decide +kernel
theorem dX11_checkTwoHouses_18 : decode cX11_checkTwoHouses 18 = .ok (.dup, 1) := by decide +kernel
theorem dX11_checkTwoHouses_19 : decode cX11_checkTwoHouses 19 = .ok (.invokespecial 94, 3) := by decide +kernel
theorem dX11_checkTwoHouses_22 : decode cX11_checkTwoHouses 22 = .ok (.athrow, 1) := by decide +kernel
theorem dX11_checkTwoHouses_23 : decode cX11_checkTwoHouses 23 = .ok (.return_, 1) := by decide +kernel
set_option maxRecDepth 100000 in
set_option maxHeartbeats 200000 in
theorem T_X11_checkTwoHouses_0 {X : CX} (hX : Ok X cX11_checkTwoHouses 3 RX11 none) (hdx : dX X = 11) {r : Except String Unit × Hp} (x1 : Int32) (x2 : Int32) (h : Hp) (hf : f_X11_checkTwoHouses x1 x2 h = some r) : J X (oX tvV r) 0 [(0, .ref 1), (1, .int x1), (2, .int x2)] [] h := by
  unfold f_X11_checkTwoHouses at hf
  refine J_aload_n hX 0 dX11_checkTwoHouses_0 rfl rfl ?_
  refine J_iload_n hX 1 dX11_checkTwoHouses_1 rfl rfl ?_
  obtain ⟨r_1, e_2, hf⟩ := bdE hf
  rcases exE hf with ⟨v_3, h_4, z_6, hg⟩ | ⟨E_5, h_4, z_6, z_6r⟩
  all_goals clear hf
  rotate_left
  · subst z_6
    exact V_kx hX [.int x1] dX11_checkTwoHouses_2 cw_X11_118 ob_1 rfl (C_X11_checkHouse (okG hX) e_2) (ltD hdx rfl) rfl rfl rfl rfl z_6r
  subst z_6
  have hf := hg
  clear hg
  refine V_k0 hX [.int x1] dX11_checkTwoHouses_2 cw_X11_118 ob_1 rfl (C_X11_checkHouse (okG hX) e_2) (ltD hdx rfl) rfl rfl rfl rfl rfl ?_
  refine J_aload_n hX 0 dX11_checkTwoHouses_5 rfl rfl ?_
  refine J_iload_n hX 2 dX11_checkTwoHouses_6 rfl rfl ?_
  obtain ⟨r_7, e_8, hf⟩ := bdE hf
  rcases exE hf with ⟨v_9, h_10, z_12, hg⟩ | ⟨E_11, h_10, z_12, z_12r⟩
  all_goals clear hf
  rotate_left
  · subst z_12
    exact V_kx hX [.int x2] dX11_checkTwoHouses_7 cw_X11_118 ob_1 rfl (C_X11_checkHouse (okG hX) e_8) (ltD hdx rfl) rfl rfl rfl rfl z_12r
  subst z_12
  have hf := hg
  clear hg
  refine V_k0 hX [.int x2] dX11_checkTwoHouses_7 cw_X11_118 ob_1 rfl (C_X11_checkHouse (okG hX) e_8) (ltD hdx rfl) rfl rfl rfl rfl rfl ?_
  refine J_iload_n hX 1 dX11_checkTwoHouses_10 rfl rfl ?_
  refine J_iload_n hX 2 dX11_checkTwoHouses_11 rfl rfl ?_
  rcases ifE hf with ⟨c_13, hf⟩ | ⟨c_13, hf⟩
  · refine J_icmp_neF hX 23 dX11_checkTwoHouses_12 rfl c_13 ?_
    exact E_thr hX exN dX11_checkTwoHouses_15 dX11_checkTwoHouses_18 dX11_checkTwoHouses_19 dX11_checkTwoHouses_22 tw_X11_92_94 (ltD hdx rfl) rfl hf
  · refine J_icmp_neT hX 23 dX11_checkTwoHouses_12 rfl c_13 ?_
    exact E_Vx hX dX11_checkTwoHouses_23 hf
set_option maxRecDepth 100000 in
set_option maxHeartbeats 200000 in
theorem C_X11_checkTwoHouses {G : GX} (hG : GOk G) {x1 : Int32} {x2 : Int32} {h : Hp} {r : Except String Unit × Hp} (hf : f_X11_checkTwoHouses x1 x2 h = some r) : Ctr G 11 yX11_checkTwoHouses cX11_checkTwoHouses 3 none [.ref 1, .int x1, .int x2] h (oX tvV r) :=
  Ctr_of hG RX11 rfl (by decide) rfl (fun X _ hdx hX => T_X11_checkTwoHouses_0 hX hdx x1 x2 h hf)
theorem dX11_lean_0 : decode cX11_lean 0 = .ok (.aload_n 0, 1) := by decide +kernel
theorem dX11_lean_1 : decode cX11_lean 1 = .ok (.iload_n 1, 1) := by decide +kernel
theorem dX11_lean_2 : decode cX11_lean 2 = .ok (.iload_n 2, 1) := by decide +kernel
theorem dX11_lean_3 : decode cX11_lean 3 = .ok (.invokevirtual 270, 3) := by decide +kernel
theorem dX11_lean_6 : decode cX11_lean 6 = .ok (.iload_n 3, 1) := by decide +kernel
theorem dX11_lean_7 : decode cX11_lean 7 = .ok (.iconst 0, 1) := by decide +kernel
theorem dX11_lean_8 : decode cX11_lean 8 = .ok (.bipush 9, 2) := by decide +kernel
theorem dX11_lean_10 : decode cX11_lean 10 = .ok (.invokestatic 241, 3) := by decide +kernel
theorem dX11_lean_13 : decode cX11_lean 13 = .ok (.aload_n 0, 1) := by decide +kernel
theorem dX11_lean_14 : decode cX11_lean 14 = .ok (.iload_n 1, 1) := by decide +kernel
theorem dX11_lean_15 : decode cX11_lean 15 = .ok (.invokevirtual 260, 3) := by decide +kernel
theorem dX11_lean_18 : decode cX11_lean 18 = .ok (.aload_n 0, 1) := by decide +kernel
theorem dX11_lean_19 : decode cX11_lean 19 = .ok (.iload_n 2, 1) := by decide +kernel
theorem dX11_lean_20 : decode cX11_lean 20 = .ok (.invokevirtual 260, 3) := by decide +kernel
theorem dX11_lean_23 : decode cX11_lean 23 = .ok (.aload_n 0, 1) := by decide +kernel
theorem dX11_lean_24 : decode cX11_lean 24 = .ok (.invokevirtual 245, 3) := by decide +kernel
theorem dX11_lean_27 : decode cX11_lean 27 = .ok (.aload_n 0, 1) := by decide +kernel
theorem dX11_lean_28 : decode cX11_lean 28 = .ok (.getfield 19, 3) := by decide +kernel
theorem dX11_lean_31 : decode cX11_lean 31 = .ok (.iload_n 1, 1) := by decide +kernel
theorem dX11_lean_32 : decode cX11_lean 32 = .ok (.iload_n 2, 1) := by decide +kernel
theorem dX11_lean_33 : decode cX11_lean 33 = .ok (.invokevirtual 190, 3) := by decide +kernel
theorem dX11_lean_36 : decode cX11_lean 36 = .ok (.istore 4, 2) := by decide +kernel
theorem dX11_lean_38 : decode cX11_lean 38 = .ok (.aload_n 0, 1) := by decide +kernel
theorem dX11_lean_39 : decode cX11_lean 39 = .ok (.getfield 19, 3) := by decide +kernel
theorem dX11_lean_42 : decode cX11_lean 42 = .ok (.iload_n 1, 1) := by decide +kernel
theorem dX11_lean_43 : decode cX11_lean 43 = .ok (.iload_n 2, 1) := by decide +kernel
theorem dX11_lean_44 : decode cX11_lean 44 = .ok (.iload_n 3, 1) := by decide +kernel
theorem dX11_lean_45 : decode cX11_lean 45 = .ok (.invokevirtual 267, 3) := by decide +kernel
theorem dX11_lean_48 : decode cX11_lean 48 = .ok (.iload 4, 2) := by decide +kernel
theorem dX11_lean_50 : decode cX11_lean 50 = .ok (.ireturn, 1) := by decide +kernel
set_option maxRecDepth 100000 in
set_option maxHeartbeats 200000 in
theorem T_X11_lean_0 {X : CX} (hX : Ok X cX11_lean 5 RX11 (some .int)) (hdx : dX X = 12) {r : Except String Int32 × Hp} (x1 : Int32) (x2 : Int32) (x3 : Int32) (h : Hp) (hf : f_X11_lean x1 x2 x3 h = some r) : J X (oX tvI r) 0 [(0, .ref 1), (1, .int x1), (2, .int x2), (3, .int x3)] [] h := by
  unfold f_X11_lean at hf
  refine J_aload_n hX 0 dX11_lean_0 rfl rfl ?_
  refine J_iload_n hX 1 dX11_lean_1 rfl rfl ?_
  refine J_iload_n hX 2 dX11_lean_2 rfl rfl ?_
  obtain ⟨r_1, e_2, hf⟩ := bdE hf
  rcases exE hf with ⟨v_3, h_4, z_6, hg⟩ | ⟨E_5, h_4, z_6, z_6r⟩
  all_goals clear hf
  rotate_left
  · subst z_6
    exact V_kx hX [.int x1, .int x2] dX11_lean_3 cw_X11_270 ob_1 rfl (C_X11_checkTwoHouses (okG hX) e_2) (ltD hdx rfl) rfl rfl rfl rfl z_6r
  subst z_6
  have hf := hg
  clear hg
  refine V_k0 hX [.int x1, .int x2] dX11_lean_3 cw_X11_270 ob_1 rfl (C_X11_checkTwoHouses (okG hX) e_2) (ltD hdx rfl) rfl rfl rfl rfl rfl ?_
  refine J_iload_n hX 3 dX11_lean_6 rfl rfl ?_
  refine J_iconst hX 0 dX11_lean_7 rfl ?_
  refine J_bipush hX 9 dX11_lean_8 rfl ?_
  obtain ⟨r_7, e_8, hf⟩ := bdE hf
  rcases exE hf with ⟨v_9, h_10, z_12, hg⟩ | ⟨E_11, h_10, z_12, z_12r⟩
  all_goals clear hf
  rotate_left
  · subst z_12
    exact S_kx hX [.int x3, .int 0, .int 9] dX11_lean_10 cw_X11_241 (C_X11_checkAmount (okG hX) e_8) (ltD hdx rfl) rfl rfl rfl rfl z_12r
  subst z_12
  have hf := hg
  clear hg
  refine S_k0 hX [.int x3, .int 0, .int 9] dX11_lean_10 cw_X11_241 (C_X11_checkAmount (okG hX) e_8) (ltD hdx rfl) rfl rfl rfl rfl rfl ?_
  refine J_aload_n hX 0 dX11_lean_13 rfl rfl ?_
  refine J_iload_n hX 1 dX11_lean_14 rfl rfl ?_
  obtain ⟨r_13, e_14, hf⟩ := bdE hf
  rcases exE hf with ⟨v_15, h_16, z_18, hg⟩ | ⟨E_17, h_16, z_18, z_18r⟩
  all_goals clear hf
  rotate_left
  · subst z_18
    exact V_kx hX [.int x1] dX11_lean_15 cw_X11_260 ob_1 rfl (C_X11_checkUp (okG hX) e_14) (ltD hdx rfl) rfl rfl rfl rfl z_18r
  subst z_18
  have hf := hg
  clear hg
  refine V_k0 hX [.int x1] dX11_lean_15 cw_X11_260 ob_1 rfl (C_X11_checkUp (okG hX) e_14) (ltD hdx rfl) rfl rfl rfl rfl rfl ?_
  refine J_aload_n hX 0 dX11_lean_18 rfl rfl ?_
  refine J_iload_n hX 2 dX11_lean_19 rfl rfl ?_
  obtain ⟨r_19, e_20, hf⟩ := bdE hf
  rcases exE hf with ⟨v_21, h_22, z_24, hg⟩ | ⟨E_23, h_22, z_24, z_24r⟩
  all_goals clear hf
  rotate_left
  · subst z_24
    exact V_kx hX [.int x2] dX11_lean_20 cw_X11_260 ob_1 rfl (C_X11_checkUp (okG hX) e_20) (ltD hdx rfl) rfl rfl rfl rfl z_24r
  subst z_24
  have hf := hg
  clear hg
  refine V_k0 hX [.int x2] dX11_lean_20 cw_X11_260 ob_1 rfl (C_X11_checkUp (okG hX) e_20) (ltD hdx rfl) rfl rfl rfl rfl rfl ?_
  refine J_aload_n hX 0 dX11_lean_23 rfl rfl ?_
  obtain ⟨r_25, e_26, hf⟩ := bdE hf
  refine V_0 hX [] dX11_lean_24 cw_X11_245 ob_1 rfl (C_X11_remember (okG hX) e_26) (ltD hdx rfl) rfl rfl rfl rfl ?_
  refine J_aload_n hX 0 dX11_lean_27 rfl rfl ?_
  refine J_getR hX 100 dX11_lean_28 fl_X11_19 ob_1 rfl rfl ?_
  refine J_iload_n hX 1 dX11_lean_31 rfl rfl ?_
  refine J_iload_n hX 2 dX11_lean_32 rfl rfl ?_
  obtain ⟨r_27, e_28, hf⟩ := bdE hf
  refine V_1 hX [.int x1, .int x2] dX11_lean_33 cw_X11_190 (city_ob isc_100) rfl (C_X1_partOf (okG hX) isc_100 e_28) (ltD hdx rfl) rfl rfl rfl rfl ?_
  refine J_istore hX [(4, .int r_27), (0, .ref 1), (1, .int x1), (2, .int x2), (3, .int x3)] dX11_lean_36 rfl rfl ?_
  refine J_aload_n hX 1 dX11_lean_38 rfl rfl ?_
  refine J_getR hX 100 dX11_lean_39 fl_X11_19 ob_1 rfl rfl ?_
  refine J_iload_n hX 2 dX11_lean_42 rfl rfl ?_
  refine J_iload_n hX 3 dX11_lean_43 rfl rfl ?_
  refine J_iload_n hX 4 dX11_lean_44 rfl rfl ?_
  obtain ⟨r_29, e_30, hf⟩ := bdE hf
  refine V_0 hX [.int x1, .int x2, .int x3] dX11_lean_45 cw_X11_267 (city_ob isc_100) rfl (C_X1_setPart (okG hX) isc_100 e_30) (ltD hdx rfl) rfl rfl rfl rfl ?_
  refine J_iload hX 0 dX11_lean_48 rfl ?_
  exact E_Ix hX dX11_lean_50 hf
set_option maxRecDepth 100000 in
set_option maxHeartbeats 200000 in
theorem C_X11_lean {G : GX} (hG : GOk G) {x1 : Int32} {x2 : Int32} {x3 : Int32} {h : Hp} {r : Except String Int32 × Hp} (hf : f_X11_lean x1 x2 x3 h = some r) : Ctr G 12 yX11_lean cX11_lean 5 (some .int) [.ref 1, .int x1, .int x2, .int x3] h (oX tvI r) :=
  Ctr_of hG RX11 rfl (by decide) rfl (fun X _ hdx hX => T_X11_lean_0 hX hdx x1 x2 x3 h hf)
theorem dX11_wed_0 : decode cX11_wed 0 = .ok (.aload_n 0, 1) := by decide +kernel
theorem dX11_wed_1 : decode cX11_wed 1 = .ok (.iload_n 1, 1) := by decide +kernel
theorem dX11_wed_2 : decode cX11_wed 2 = .ok (.iload_n 2, 1) := by decide +kernel
theorem dX11_wed_3 : decode cX11_wed 3 = .ok (.invokevirtual 270, 3) := by decide +kernel
theorem dX11_wed_6 : decode cX11_wed 6 = .ok (.aload_n 0, 1) := by decide +kernel
theorem dX11_wed_7 : decode cX11_wed 7 = .ok (.iload_n 1, 1) := by decide +kernel
theorem dX11_wed_8 : decode cX11_wed 8 = .ok (.invokevirtual 260, 3) := by decide +kernel
theorem dX11_wed_11 : decode cX11_wed 11 = .ok (.aload_n 0, 1) := by decide +kernel
theorem dX11_wed_12 : decode cX11_wed 12 = .ok (.iload_n 2, 1) := by decide +kernel
theorem dX11_wed_13 : decode cX11_wed 13 = .ok (.invokevirtual 260, 3) := by decide +kernel
theorem dX11_wed_16 : decode cX11_wed 16 = .ok (.aload_n 0, 1) := by decide +kernel
theorem dX11_wed_17 : decode cX11_wed 17 = .ok (.invokevirtual 245, 3) := by decide +kernel
theorem dX11_wed_20 : decode cX11_wed 20 = .ok (.aload_n 0, 1) := by decide +kernel
theorem dX11_wed_21 : decode cX11_wed 21 = .ok (.getfield 19, 3) := by decide +kernel
theorem dX11_wed_24 : decode cX11_wed 24 = .ok (.iload_n 1, 1) := by decide +kernel
theorem dX11_wed_25 : decode cX11_wed 25 = .ok (.iload_n 2, 1) := by decide +kernel
theorem dX11_wed_26 : decode cX11_wed 26 = .ok (.invokevirtual 274, 3) := by decide +kernel
theorem dX11_wed_29 : decode cX11_wed 29 = .ok (.aload_n 0, 1) := by decide +kernel
theorem dX11_wed_30 : decode cX11_wed 30 = .ok (.getfield 19, 3) := by decide +kernel
theorem dX11_wed_33 : decode cX11_wed 33 = .ok (.iload_n 1, 1) := by decide +kernel
theorem dX11_wed_34 : decode cX11_wed 34 = .ok (.iload_n 2, 1) := by decide +kernel
theorem dX11_wed_35 : decode cX11_wed 35 = .ok (.invokevirtual 190, 3) := by decide +kernel
theorem dX11_wed_38 : decode cX11_wed 38 = .ok (.ireturn, 1) := by decide +kernel
set_option maxRecDepth 100000 in
set_option maxHeartbeats 200000 in
theorem T_X11_wed_0 {X : CX} (hX : Ok X cX11_wed 3 RX11 (some .int)) (hdx : dX X = 12) {r : Except String Int32 × Hp} (x1 : Int32) (x2 : Int32) (h : Hp) (hf : f_X11_wed x1 x2 h = some r) : J X (oX tvI r) 0 [(0, .ref 1), (1, .int x1), (2, .int x2)] [] h := by
  unfold f_X11_wed at hf
  refine J_aload_n hX 0 dX11_wed_0 rfl rfl ?_
  refine J_iload_n hX 1 dX11_wed_1 rfl rfl ?_
  refine J_iload_n hX 2 dX11_wed_2 rfl rfl ?_
  obtain ⟨r_1, e_2, hf⟩ := bdE hf
  rcases exE hf with ⟨v_3, h_4, z_6, hg⟩ | ⟨E_5, h_4, z_6, z_6r⟩
  all_goals clear hf
  rotate_left
  · subst z_6
    exact V_kx hX [.int x1, .int x2] dX11_wed_3 cw_X11_270 ob_1 rfl (C_X11_checkTwoHouses (okG hX) e_2) (ltD hdx rfl) rfl rfl rfl rfl z_6r
  subst z_6
  have hf := hg
  clear hg
  refine V_k0 hX [.int x1, .int x2] dX11_wed_3 cw_X11_270 ob_1 rfl (C_X11_checkTwoHouses (okG hX) e_2) (ltD hdx rfl) rfl rfl rfl rfl rfl ?_
  refine J_aload_n hX 0 dX11_wed_6 rfl rfl ?_
  refine J_iload_n hX 1 dX11_wed_7 rfl rfl ?_
  obtain ⟨r_7, e_8, hf⟩ := bdE hf
  rcases exE hf with ⟨v_9, h_10, z_12, hg⟩ | ⟨E_11, h_10, z_12, z_12r⟩
  all_goals clear hf
  rotate_left
  · subst z_12
    exact V_kx hX [.int x1] dX11_wed_8 cw_X11_260 ob_1 rfl (C_X11_checkUp (okG hX) e_8) (ltD hdx rfl) rfl rfl rfl rfl z_12r
  subst z_12
  have hf := hg
  clear hg
  refine V_k0 hX [.int x1] dX11_wed_8 cw_X11_260 ob_1 rfl (C_X11_checkUp (okG hX) e_8) (ltD hdx rfl) rfl rfl rfl rfl rfl ?_
  refine J_aload_n hX 0 dX11_wed_11 rfl rfl ?_
  refine J_iload_n hX 2 dX11_wed_12 rfl rfl ?_
  obtain ⟨r_13, e_14, hf⟩ := bdE hf
  rcases exE hf with ⟨v_15, h_16, z_18, hg⟩ | ⟨E_17, h_16, z_18, z_18r⟩
  all_goals clear hf
  rotate_left
  · subst z_18
    exact V_kx hX [.int x2] dX11_wed_13 cw_X11_260 ob_1 rfl (C_X11_checkUp (okG hX) e_14) (ltD hdx rfl) rfl rfl rfl rfl z_18r
  subst z_18
  have hf := hg
  clear hg
  refine V_k0 hX [.int x2] dX11_wed_13 cw_X11_260 ob_1 rfl (C_X11_checkUp (okG hX) e_14) (ltD hdx rfl) rfl rfl rfl rfl rfl ?_
  refine J_aload_n hX 0 dX11_wed_16 rfl rfl ?_
  obtain ⟨r_19, e_20, hf⟩ := bdE hf
  refine V_0 hX [] dX11_wed_17 cw_X11_245 ob_1 rfl (C_X11_remember (okG hX) e_20) (ltD hdx rfl) rfl rfl rfl rfl ?_
  refine J_aload_n hX 0 dX11_wed_20 rfl rfl ?_
  refine J_getR hX 100 dX11_wed_21 fl_X11_19 ob_1 rfl rfl ?_
  refine J_iload_n hX 1 dX11_wed_24 rfl rfl ?_
  refine J_iload_n hX 2 dX11_wed_25 rfl rfl ?_
  obtain ⟨r_21, e_22, hf⟩ := bdE hf
  refine V_0 hX [.int x1, .int x2] dX11_wed_26 cw_X11_274 (city_ob isc_100) rfl (C_X1_marry (okG hX) isc_100 e_22) (ltD hdx rfl) rfl rfl rfl rfl ?_
  refine J_aload_n hX 0 dX11_wed_29 rfl rfl ?_
  refine J_getR hX 100 dX11_wed_30 fl_X11_19 ob_1 rfl rfl ?_
  refine J_iload_n hX 1 dX11_wed_33 rfl rfl ?_
  refine J_iload_n hX 2 dX11_wed_34 rfl rfl ?_
  obtain ⟨r_23, e_24, hf⟩ := bdE hf
  refine V_1 hX [.int x1, .int x2] dX11_wed_35 cw_X11_190 (city_ob isc_100) rfl (C_X1_partOf (okG hX) isc_100 e_24) (ltD hdx rfl) rfl rfl rfl rfl ?_
  exact E_Ix hX dX11_wed_38 hf
set_option maxRecDepth 100000 in
set_option maxHeartbeats 200000 in
theorem C_X11_wed {G : GX} (hG : GOk G) {x1 : Int32} {x2 : Int32} {h : Hp} {r : Except String Int32 × Hp} (hf : f_X11_wed x1 x2 h = some r) : Ctr G 12 yX11_wed cX11_wed 3 (some .int) [.ref 1, .int x1, .int x2] h (oX tvI r) :=
  Ctr_of hG RX11 rfl (by decide) rfl (fun X _ hdx hX => T_X11_wed_0 hX hdx x1 x2 h hf)
theorem dX11_trim_0 : decode cX11_trim 0 = .ok (.aload_n 0, 1) := by decide +kernel
theorem dX11_trim_1 : decode cX11_trim 1 = .ok (.iload_n 1, 1) := by decide +kernel
theorem dX11_trim_2 : decode cX11_trim 2 = .ok (.invokevirtual 118, 3) := by decide +kernel
theorem dX11_trim_5 : decode cX11_trim 5 = .ok (.aload_n 0, 1) := by decide +kernel
theorem dX11_trim_6 : decode cX11_trim 6 = .ok (.iload_n 1, 1) := by decide +kernel
theorem dX11_trim_7 : decode cX11_trim 7 = .ok (.invokevirtual 260, 3) := by decide +kernel
theorem dX11_trim_10 : decode cX11_trim 10 = .ok (.aload_n 0, 1) := by decide +kernel
theorem dX11_trim_11 : decode cX11_trim 11 = .ok (.invokevirtual 245, 3) := by decide +kernel
theorem dX11_trim_14 : decode cX11_trim 14 = .ok (.aload_n 0, 1) := by decide +kernel
theorem dX11_trim_15 : decode cX11_trim 15 = .ok (.getfield 19, 3) := by decide +kernel
theorem dX11_trim_18 : decode cX11_trim 18 = .ok (.iload_n 1, 1) := by decide +kernel
theorem dX11_trim_19 : decode cX11_trim 19 = .ok (.invokevirtual 277, 3) := by decide +kernel
theorem dX11_trim_22 : decode cX11_trim 22 = .ok (.ireturn, 1) := by decide +kernel
set_option maxRecDepth 100000 in
set_option maxHeartbeats 200000 in
theorem T_X11_trim_0 {X : CX} (hX : Ok X cX11_trim 2 RX11 (some .int)) (hdx : dX X = 11) {r : Except String Int32 × Hp} (x1 : Int32) (h : Hp) (hf : f_X11_trim x1 h = some r) : J X (oX tvI r) 0 [(0, .ref 1), (1, .int x1)] [] h := by
  unfold f_X11_trim at hf
  refine J_aload_n hX 0 dX11_trim_0 rfl rfl ?_
  refine J_iload_n hX 1 dX11_trim_1 rfl rfl ?_
  obtain ⟨r_1, e_2, hf⟩ := bdE hf
  rcases exE hf with ⟨v_3, h_4, z_6, hg⟩ | ⟨E_5, h_4, z_6, z_6r⟩
  all_goals clear hf
  rotate_left
  · subst z_6
    exact V_kx hX [.int x1] dX11_trim_2 cw_X11_118 ob_1 rfl (C_X11_checkHouse (okG hX) e_2) (ltD hdx rfl) rfl rfl rfl rfl z_6r
  subst z_6
  have hf := hg
  clear hg
  refine V_k0 hX [.int x1] dX11_trim_2 cw_X11_118 ob_1 rfl (C_X11_checkHouse (okG hX) e_2) (ltD hdx rfl) rfl rfl rfl rfl rfl ?_
  refine J_aload_n hX 0 dX11_trim_5 rfl rfl ?_
  refine J_iload_n hX 1 dX11_trim_6 rfl rfl ?_
  obtain ⟨r_7, e_8, hf⟩ := bdE hf
  rcases exE hf with ⟨v_9, h_10, z_12, hg⟩ | ⟨E_11, h_10, z_12, z_12r⟩
  all_goals clear hf
  rotate_left
  · subst z_12
    exact V_kx hX [.int x1] dX11_trim_7 cw_X11_260 ob_1 rfl (C_X11_checkUp (okG hX) e_8) (ltD hdx rfl) rfl rfl rfl rfl z_12r
  subst z_12
  have hf := hg
  clear hg
  refine V_k0 hX [.int x1] dX11_trim_7 cw_X11_260 ob_1 rfl (C_X11_checkUp (okG hX) e_8) (ltD hdx rfl) rfl rfl rfl rfl rfl ?_
  refine J_aload_n hX 0 dX11_trim_10 rfl rfl ?_
  obtain ⟨r_13, e_14, hf⟩ := bdE hf
  refine V_0 hX [] dX11_trim_11 cw_X11_245 ob_1 rfl (C_X11_remember (okG hX) e_14) (ltD hdx rfl) rfl rfl rfl rfl ?_
  refine J_aload_n hX 0 dX11_trim_14 rfl rfl ?_
  refine J_getR hX 100 dX11_trim_15 fl_X11_19 ob_1 rfl rfl ?_
  refine J_iload_n hX 1 dX11_trim_18 rfl rfl ?_
  obtain ⟨r_15, e_16, hf⟩ := bdE hf
  refine V_1 hX [.int x1] dX11_trim_19 cw_X11_277 (city_ob isc_100) rfl (C_X1_cutIvy (okG hX) isc_100 e_16) (ltD hdx rfl) rfl rfl rfl rfl ?_
  exact E_Ix hX dX11_trim_22 hf
set_option maxRecDepth 100000 in
set_option maxHeartbeats 200000 in
theorem C_X11_trim {G : GX} (hG : GOk G) {x1 : Int32} {h : Hp} {r : Except String Int32 × Hp} (hf : f_X11_trim x1 h = some r) : Ctr G 11 yX11_trim cX11_trim 2 (some .int) [.ref 1, .int x1] h (oX tvI r) :=
  Ctr_of hG RX11 rfl (by decide) rfl (fun X _ hdx hX => T_X11_trim_0 hX hdx x1 h hf)
theorem dX11_move_0 : decode cX11_move 0 = .ok (.aload_n 0, 1) := by decide +kernel
theorem dX11_move_1 : decode cX11_move 1 = .ok (.iload_n 1, 1) := by decide +kernel
theorem dX11_move_2 : decode cX11_move 2 = .ok (.invokevirtual 193, 3) := by decide +kernel
theorem dX11_move_5 : decode cX11_move 5 = .ok (.aload_n 0, 1) := by decide +kernel
theorem dX11_move_6 : decode cX11_move 6 = .ok (.iload_n 2, 1) := by decide +kernel
theorem dX11_move_7 : decode cX11_move 7 = .ok (.invokevirtual 118, 3) := by decide +kernel
theorem dX11_move_10 : decode cX11_move 10 = .ok (.aload_n 0, 1) := by decide +kernel
theorem dX11_move_11 : decode cX11_move 11 = .ok (.iload_n 2, 1) := by decide +kernel
theorem dX11_move_12 : decode cX11_move 12 = .ok (.invokevirtual 260, 3) := by decide +kernel
theorem dX11_move_15 : decode cX11_move 15 = .ok (.aload_n 0, 1) := by decide +kernel
theorem dX11_move_16 : decode cX11_move 16 = .ok (.invokevirtual 245, 3) := by decide +kernel
theorem dX11_move_19 : decode cX11_move 19 = .ok (.aload_n 0, 1) := by decide +kernel
theorem dX11_move_20 : decode cX11_move 20 = .ok (.getfield 19, 3) := by decide +kernel
theorem dX11_move_23 : decode cX11_move 23 = .ok (.iload_n 1, 1) := by decide +kernel
theorem dX11_move_24 : decode cX11_move 24 = .ok (.invokevirtual 196, 3) := by decide +kernel
theorem dX11_move_27 : decode cX11_move 27 = .ok (.istore_n 3, 1) := by decide +kernel
theorem dX11_move_28 : decode cX11_move 28 = .ok (.aload_n 0, 1) := by decide +kernel
theorem dX11_move_29 : decode cX11_move 29 = .ok (.getfield 19, 3) := by decide +kernel
theorem dX11_move_32 : decode cX11_move 32 = .ok (.iload_n 1, 1) := by decide +kernel
theorem dX11_move_33 : decode cX11_move 33 = .ok (.iload_n 2, 1) := by decide +kernel
theorem dX11_move_34 : decode cX11_move 34 = .ok (.invokevirtual 280, 3) := by decide +kernel
theorem dX11_move_37 : decode cX11_move 37 = .ok (.iload_n 3, 1) := by decide +kernel
theorem dX11_move_38 : decode cX11_move 38 = .ok (.ireturn, 1) := by decide +kernel
set_option maxRecDepth 100000 in
set_option maxHeartbeats 200000 in
theorem T_X11_move_0 {X : CX} (hX : Ok X cX11_move 4 RX11 (some .int)) (hdx : dX X = 11) {r : Except String Int32 × Hp} (x1 : Int32) (x2 : Int32) (h : Hp) (hf : f_X11_move x1 x2 h = some r) : J X (oX tvI r) 0 [(0, .ref 1), (1, .int x1), (2, .int x2)] [] h := by
  unfold f_X11_move at hf
  refine J_aload_n hX 0 dX11_move_0 rfl rfl ?_
  refine J_iload_n hX 1 dX11_move_1 rfl rfl ?_
  obtain ⟨r_1, e_2, hf⟩ := bdE hf
  rcases exE hf with ⟨v_3, h_4, z_6, hg⟩ | ⟨E_5, h_4, z_6, z_6r⟩
  all_goals clear hf
  rotate_left
  · subst z_6
    exact V_kx hX [.int x1] dX11_move_2 cw_X11_193 ob_1 rfl (C_X11_checkPerson (okG hX) e_2) (ltD hdx rfl) rfl rfl rfl rfl z_6r
  subst z_6
  have hf := hg
  clear hg
  refine V_k0 hX [.int x1] dX11_move_2 cw_X11_193 ob_1 rfl (C_X11_checkPerson (okG hX) e_2) (ltD hdx rfl) rfl rfl rfl rfl rfl ?_
  refine J_aload_n hX 0 dX11_move_5 rfl rfl ?_
  refine J_iload_n hX 2 dX11_move_6 rfl rfl ?_
  obtain ⟨r_7, e_8, hf⟩ := bdE hf
  rcases exE hf with ⟨v_9, h_10, z_12, hg⟩ | ⟨E_11, h_10, z_12, z_12r⟩
  all_goals clear hf
  rotate_left
  · subst z_12
    exact V_kx hX [.int x2] dX11_move_7 cw_X11_118 ob_1 rfl (C_X11_checkHouse (okG hX) e_8) (ltD hdx rfl) rfl rfl rfl rfl z_12r
  subst z_12
  have hf := hg
  clear hg
  refine V_k0 hX [.int x2] dX11_move_7 cw_X11_118 ob_1 rfl (C_X11_checkHouse (okG hX) e_8) (ltD hdx rfl) rfl rfl rfl rfl rfl ?_
  refine J_aload_n hX 0 dX11_move_10 rfl rfl ?_
  refine J_iload_n hX 2 dX11_move_11 rfl rfl ?_
  obtain ⟨r_13, e_14, hf⟩ := bdE hf
  rcases exE hf with ⟨v_15, h_16, z_18, hg⟩ | ⟨E_17, h_16, z_18, z_18r⟩
  all_goals clear hf
  rotate_left
  · subst z_18
    exact V_kx hX [.int x2] dX11_move_12 cw_X11_260 ob_1 rfl (C_X11_checkUp (okG hX) e_14) (ltD hdx rfl) rfl rfl rfl rfl z_18r
  subst z_18
  have hf := hg
  clear hg
  refine V_k0 hX [.int x2] dX11_move_12 cw_X11_260 ob_1 rfl (C_X11_checkUp (okG hX) e_14) (ltD hdx rfl) rfl rfl rfl rfl rfl ?_
  refine J_aload_n hX 0 dX11_move_15 rfl rfl ?_
  obtain ⟨r_19, e_20, hf⟩ := bdE hf
  refine V_0 hX [] dX11_move_16 cw_X11_245 ob_1 rfl (C_X11_remember (okG hX) e_20) (ltD hdx rfl) rfl rfl rfl rfl ?_
  refine J_aload_n hX 0 dX11_move_19 rfl rfl ?_
  refine J_getR hX 100 dX11_move_20 fl_X11_19 ob_1 rfl rfl ?_
  refine J_iload_n hX 1 dX11_move_23 rfl rfl ?_
  obtain ⟨r_21, e_22, hf⟩ := bdE hf
  refine V_1 hX [.int x1] dX11_move_24 cw_X11_196 (city_ob isc_100) rfl (C_X1_placeOf (okG hX) isc_100 e_22) (ltD hdx rfl) rfl rfl rfl rfl ?_
  refine J_istore_n hX [(3, .int r_21), (0, .ref 1), (1, .int x1), (2, .int x2)] dX11_move_27 rfl rfl rfl ?_
  refine J_aload_n hX 1 dX11_move_28 rfl rfl ?_
  refine J_getR hX 100 dX11_move_29 fl_X11_19 ob_1 rfl rfl ?_
  refine J_iload_n hX 2 dX11_move_32 rfl rfl ?_
  refine J_iload_n hX 3 dX11_move_33 rfl rfl ?_
  obtain ⟨r_23, e_24, hf⟩ := bdE hf
  refine V_0 hX [.int x1, .int x2] dX11_move_34 cw_X11_280 (city_ob isc_100) rfl (C_X1_put (okG hX) isc_100 e_24) (ltD hdx rfl) rfl rfl rfl rfl ?_
  refine J_iload_n hX 0 dX11_move_37 rfl rfl ?_
  exact E_Ix hX dX11_move_38 hf
set_option maxRecDepth 100000 in
set_option maxHeartbeats 200000 in
theorem C_X11_move {G : GX} (hG : GOk G) {x1 : Int32} {x2 : Int32} {h : Hp} {r : Except String Int32 × Hp} (hf : f_X11_move x1 x2 h = some r) : Ctr G 11 yX11_move cX11_move 4 (some .int) [.ref 1, .int x1, .int x2] h (oX tvI r) :=
  Ctr_of hG RX11 rfl (by decide) rfl (fun X _ hdx hX => T_X11_move_0 hX hdx x1 x2 h hf)
theorem dX11_checkEvening_0 : decode cX11_checkEvening 0 = .ok (.iload_n 0, 1) := by decide +kernel
theorem dX11_checkEvening_1 : decode cX11_checkEvening 1 = .ok (.ifCond .lt 9, 3) := by decide +kernel
theorem dX11_checkEvening_4 : decode cX11_checkEvening 4 = .ok (.iload_n 0, 1) := by decide +kernel
theorem dX11_checkEvening_5 : decode cX11_checkEvening 5 = .ok (.bipush 7, 2) := by decide +kernel
theorem dX11_checkEvening_7 : decode cX11_checkEvening 7 = .ok (.if_icmp .lt 11, 3) := by decide +kernel
theorem dX11_checkEvening_10 : decode cX11_checkEvening 10 = .ok (.new 404, 3) := by decide +kernel
theorem dX11_checkEvening_13 : decode cX11_checkEvening 13 = .ok (.dup, 1) := by decide +kernel
theorem dX11_checkEvening_14 : decode cX11_checkEvening 14 = .ok (.invokespecial 406, 3) := by decide +kernel
theorem dX11_checkEvening_17 : decode cX11_checkEvening 17 = .ok (.athrow, 1) := by decide +kernel
theorem dX11_checkEvening_18 : decode cX11_checkEvening 18 = .ok (.return_, 1) := by decide +kernel
set_option maxRecDepth 100000 in
set_option maxHeartbeats 200000 in
theorem T_X11_checkEvening_10 {X : CX} (hX : Ok X cX11_checkEvening 1 RX11 none) (hdx : dX X = 10) {r : Except String Unit × Hp} (h : Hp) (hf : F_X11_checkEvening_10 h = some r) : J X (oX tvV r) 10 [] [] h := by
  unfold F_X11_checkEvening_10 at hf
  exact E_thr hX exN dX11_checkEvening_10 dX11_checkEvening_13 dX11_checkEvening_14 dX11_checkEvening_17 tw_X11_404_406 (ltD hdx rfl) rfl hf
set_option maxRecDepth 100000 in
set_option maxHeartbeats 200000 in
theorem T_X11_checkEvening_0 {X : CX} (hX : Ok X cX11_checkEvening 1 RX11 none) (hdx : dX X = 10) {r : Except String Unit × Hp} (x0 : Int32) (h : Hp) (hf : f_X11_checkEvening x0 h = some r) : J X (oX tvV r) 0 [(0, .int x0)] [] h := by
  unfold f_X11_checkEvening at hf
  refine J_iload_n hX 0 dX11_checkEvening_0 rfl rfl ?_
  rcases ifE hf with ⟨c_1, hf⟩ | ⟨c_1, hf⟩
  · refine J_if_ltT hX 10 dX11_checkEvening_1 rfl c_1 ?_
    refine J_sub [] [] rfl ?_
    exact T_X11_checkEvening_10 hX hdx h hf
  · refine J_if_ltF hX 10 dX11_checkEvening_1 rfl c_1 ?_
    refine J_iload_n hX 0 dX11_checkEvening_4 rfl rfl ?_
    refine J_bipush hX 7 dX11_checkEvening_5 rfl ?_
    rcases ifE hf with ⟨c_2, hf⟩ | ⟨c_2, hf⟩
    · refine J_icmp_ltT hX 18 dX11_checkEvening_7 rfl c_2 ?_
      exact E_Vx hX dX11_checkEvening_18 hf
    · refine J_icmp_ltF hX 18 dX11_checkEvening_7 rfl c_2 ?_
      refine J_sub [] [] rfl ?_
      exact T_X11_checkEvening_10 hX hdx h hf
set_option maxRecDepth 100000 in
set_option maxHeartbeats 200000 in
theorem C_X11_checkEvening {G : GX} (hG : GOk G) {x0 : Int32} {h : Hp} {r : Except String Unit × Hp} (hf : f_X11_checkEvening x0 h = some r) : Ctr G 10 yX11_checkEvening cX11_checkEvening 1 none [.int x0] h (oX tvV r) :=
  Ctr_of hG RX11 rfl (by decide) rfl (fun X _ hdx hX => T_X11_checkEvening_0 hX hdx x0 h hf)
theorem dX11_come_0 : decode cX11_come 0 = .ok (.aload_n 0, 1) := by decide +kernel
theorem dX11_come_1 : decode cX11_come 1 = .ok (.iload_n 1, 1) := by decide +kernel
theorem dX11_come_2 : decode cX11_come 2 = .ok (.invokevirtual 193, 3) := by decide +kernel
theorem dX11_come_5 : decode cX11_come 5 = .ok (.iload_n 2, 1) := by decide +kernel
theorem dX11_come_6 : decode cX11_come 6 = .ok (.invokestatic 283, 3) := by decide +kernel
theorem dX11_come_9 : decode cX11_come 9 = .ok (.aload_n 0, 1) := by decide +kernel
theorem dX11_come_10 : decode cX11_come 10 = .ok (.invokevirtual 245, 3) := by decide +kernel
theorem dX11_come_13 : decode cX11_come 13 = .ok (.aload_n 0, 1) := by decide +kernel
theorem dX11_come_14 : decode cX11_come 14 = .ok (.getfield 19, 3) := by decide +kernel
theorem dX11_come_17 : decode cX11_come 17 = .ok (.iload_n 1, 1) := by decide +kernel
theorem dX11_come_18 : decode cX11_come 18 = .ok (.iload_n 2, 1) := by decide +kernel
theorem dX11_come_19 : decode cX11_come 19 = .ok (.iload_n 3, 1) := by decide +kernel
theorem dX11_come_20 : decode cX11_come 20 = .ok (.invokevirtual 286, 3) := by decide +kernel
theorem dX11_come_23 : decode cX11_come 23 = .ok (.ireturn, 1) := by decide +kernel
set_option maxRecDepth 100000 in
set_option maxHeartbeats 200000 in
theorem T_X11_come_0 {X : CX} (hX : Ok X cX11_come 4 RX11 (some .boolean)) (hdx : dX X = 11) {r : Except String Bool × Hp} (x1 : Int32) (x2 : Int32) (x3 : Int32) (h : Hp) (hf : f_X11_come x1 x2 x3 h = some r) : J X (oX tvZ r) 0 [(0, .ref 1), (1, .int x1), (2, .int x2), (3, .int x3)] [] h := by
  unfold f_X11_come at hf
  refine J_aload_n hX 0 dX11_come_0 rfl rfl ?_
  refine J_iload_n hX 1 dX11_come_1 rfl rfl ?_
  obtain ⟨r_1, e_2, hf⟩ := bdE hf
  rcases exE hf with ⟨v_3, h_4, z_6, hg⟩ | ⟨E_5, h_4, z_6, z_6r⟩
  all_goals clear hf
  rotate_left
  · subst z_6
    exact V_kx hX [.int x1] dX11_come_2 cw_X11_193 ob_1 rfl (C_X11_checkPerson (okG hX) e_2) (ltD hdx rfl) rfl rfl rfl rfl z_6r
  subst z_6
  have hf := hg
  clear hg
  refine V_k0 hX [.int x1] dX11_come_2 cw_X11_193 ob_1 rfl (C_X11_checkPerson (okG hX) e_2) (ltD hdx rfl) rfl rfl rfl rfl rfl ?_
  refine J_iload_n hX 2 dX11_come_5 rfl rfl ?_
  obtain ⟨r_7, e_8, hf⟩ := bdE hf
  rcases exE hf with ⟨v_9, h_10, z_12, hg⟩ | ⟨E_11, h_10, z_12, z_12r⟩
  all_goals clear hf
  rotate_left
  · subst z_12
    exact S_kx hX [.int x2] dX11_come_6 cw_X11_283 (C_X11_checkEvening (okG hX) e_8) (ltD hdx rfl) rfl rfl rfl rfl z_12r
  subst z_12
  have hf := hg
  clear hg
  refine S_k0 hX [.int x2] dX11_come_6 cw_X11_283 (C_X11_checkEvening (okG hX) e_8) (ltD hdx rfl) rfl rfl rfl rfl rfl ?_
  refine J_aload_n hX 0 dX11_come_9 rfl rfl ?_
  obtain ⟨r_13, e_14, hf⟩ := bdE hf
  refine V_0 hX [] dX11_come_10 cw_X11_245 ob_1 rfl (C_X11_remember (okG hX) e_14) (ltD hdx rfl) rfl rfl rfl rfl ?_
  refine J_aload_n hX 0 dX11_come_13 rfl rfl ?_
  refine J_getR hX 100 dX11_come_14 fl_X11_19 ob_1 rfl rfl ?_
  refine J_iload_n hX 1 dX11_come_17 rfl rfl ?_
  refine J_iload_n hX 2 dX11_come_18 rfl rfl ?_
  refine J_iload_n hX 3 dX11_come_19 rfl rfl ?_
  obtain ⟨r_15, e_16, hf⟩ := bdE hf
  refine V_1 hX [.int x1, .int x2, .int x3] dX11_come_20 cw_X11_286 (city_ob isc_100) rfl (C_X1_setDay (okG hX) isc_100 e_16) (ltD hdx rfl) rfl rfl rfl rfl ?_
  exact E_Zx hX dX11_come_23 rfl hf
set_option maxRecDepth 100000 in
set_option maxHeartbeats 200000 in
theorem C_X11_come {G : GX} (hG : GOk G) {x1 : Int32} {x2 : Int32} {x3 : Int32} {h : Hp} {r : Except String Bool × Hp} (hf : f_X11_come x1 x2 x3 h = some r) : Ctr G 11 yX11_come cX11_come 4 (some .boolean) [.ref 1, .int x1, .int x2, .int x3] h (oX tvZ r) :=
  Ctr_of hG RX11 rfl (by decide) rfl (fun X _ hdx hX => T_X11_come_0 hX hdx x1 x2 x3 h hf)
