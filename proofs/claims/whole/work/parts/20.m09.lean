theorem dX12_tap_0 : decode cX12_tap 0 = .ok (.aload_n 0, 1) := by decide +kernel
theorem dX12_tap_1 : decode cX12_tap 1 = .ok (.invokevirtual 269, 3) := by decide +kernel
theorem dX12_tap_4 : decode cX12_tap 4 = .ok (.aload_n 0, 1) := by decide +kernel
theorem dX12_tap_5 : decode cX12_tap 5 = .ok (.aload_n 0, 1) := by decide +kernel
theorem dX12_tap_6 : decode cX12_tap 6 = .ok (.invokevirtual 444, 3) := by decide +kernel
theorem dX12_tap_9 : decode cX12_tap 9 = .ok (.ifCond .ne 7, 3) := by decide +kernel
theorem dX12_tap_12 : decode cX12_tap 12 = .ok (.iconst 1, 1) := by decide +kernel
theorem dX12_tap_13 : decode cX12_tap 13 = .ok (.goto 4, 3) := by decide +kernel
theorem dX12_tap_16 : decode cX12_tap 16 = .ok (.iconst 0, 1) := by decide +kernel
theorem dX12_tap_17 : decode cX12_tap 17 = .ok (.iconst 1, 1) := by decide +kernel
theorem dX12_tap_18 : decode cX12_tap 18 = .ok (.invokevirtual 280, 3) := by decide +kernel
theorem dX12_tap_21 : decode cX12_tap 21 = .ok (.ifCond .eq 5, 3) := by decide +kernel
theorem dX12_tap_24 : decode cX12_tap 24 = .ok (.iconst 0, 1) := by decide +kernel
theorem dX12_tap_25 : decode cX12_tap 25 = .ok (.ireturn, 1) := by decide +kernel
theorem dX12_tap_26 : decode cX12_tap 26 = .ok (.aload_n 0, 1) := by decide +kernel
theorem dX12_tap_27 : decode cX12_tap 27 = .ok (.invokevirtual 447, 3) := by decide +kernel
theorem dX12_tap_30 : decode cX12_tap 30 = .ok (.iconst 0, 1) := by decide +kernel
theorem dX12_tap_31 : decode cX12_tap 31 = .ok (.istore_n 1, 1) := by decide +kernel
theorem dX12_tap_32 : decode cX12_tap 32 = .ok (.iconst 0, 1) := by decide +kernel
theorem dX12_tap_33 : decode cX12_tap 33 = .ok (.istore_n 2, 1) := by decide +kernel
theorem dX12_tap_34 : decode cX12_tap 34 = .ok (.iload_n 2, 1) := by decide +kernel
theorem dX12_tap_35 : decode cX12_tap 35 = .ok (.bipush 64, 2) := by decide +kernel
theorem dX12_tap_37 : decode cX12_tap 37 = .ok (.if_icmp .gt 25, 3) := by decide +kernel
theorem dX12_tap_40 : decode cX12_tap 40 = .ok (.iload_n 1, 1) := by decide +kernel
theorem dX12_tap_41 : decode cX12_tap 41 = .ok (.aload_n 0, 1) := by decide +kernel
theorem dX12_tap_42 : decode cX12_tap 42 = .ok (.iload_n 2, 1) := by decide +kernel
theorem dX12_tap_43 : decode cX12_tap 43 = .ok (.invokevirtual 450, 3) := by decide +kernel
theorem dX12_tap_46 : decode cX12_tap 46 = .ok (.ifCond .eq 7, 3) := by decide +kernel
theorem dX12_tap_49 : decode cX12_tap 49 = .ok (.iconst 1, 1) := by decide +kernel
theorem dX12_tap_50 : decode cX12_tap 50 = .ok (.goto 4, 3) := by decide +kernel
theorem dX12_tap_53 : decode cX12_tap 53 = .ok (.iconst 0, 1) := by decide +kernel
theorem dX12_tap_54 : decode cX12_tap 54 = .ok (.iadd, 1) := by decide +kernel
theorem dX12_tap_55 : decode cX12_tap 55 = .ok (.istore_n 1, 1) := by decide +kernel
theorem dX12_tap_56 : decode cX12_tap 56 = .ok (.iinc 2 1, 3) := by decide +kernel
theorem dX12_tap_59 : decode cX12_tap 59 = .ok (.goto (-25), 3) := by decide +kernel
theorem dX12_tap_62 : decode cX12_tap 62 = .ok (.iconst (-1), 1) := by decide +kernel
theorem dX12_tap_63 : decode cX12_tap 63 = .ok (.istore_n 2, 1) := by decide +kernel
theorem dX12_tap_64 : decode cX12_tap 64 = .ok (.ldc_w 453, 3) := by decide +kernel
theorem dX12_tap_67 : decode cX12_tap 67 = .ok (.istore_n 3, 1) := by decide +kernel
theorem dX12_tap_68 : decode cX12_tap 68 = .ok (.iconst 0, 1) := by decide +kernel
theorem dX12_tap_69 : decode cX12_tap 69 = .ok (.istore 4, 2) := by decide +kernel
theorem dX12_tap_71 : decode cX12_tap 71 = .ok (.iload 4, 2) := by decide +kernel
theorem dX12_tap_73 : decode cX12_tap 73 = .ok (.aload_n 0, 1) := by decide +kernel
theorem dX12_tap_74 : decode cX12_tap 74 = .ok (.invokevirtual 87, 3) := by decide +kernel
theorem dX12_tap_77 : decode cX12_tap 77 = .ok (.if_icmp .ge 57, 3) := by decide +kernel
theorem dX12_tap_80 : decode cX12_tap 80 = .ok (.iload_n 1, 1) := by decide +kernel
theorem dX12_tap_81 : decode cX12_tap 81 = .ok (.iconst 1, 1) := by decide +kernel
theorem dX12_tap_82 : decode cX12_tap 82 = .ok (.if_icmp .le 52, 3) := by decide +kernel
theorem dX12_tap_85 : decode cX12_tap 85 = .ok (.aload_n 0, 1) := by decide +kernel
theorem dX12_tap_86 : decode cX12_tap 86 = .ok (.iload 4, 2) := by decide +kernel
theorem dX12_tap_88 : decode cX12_tap 88 = .ok (.invokevirtual 91, 3) := by decide +kernel
theorem dX12_tap_91 : decode cX12_tap 91 = .ok (.ifCond .eq 9, 3) := by decide +kernel
theorem dX12_tap_94 : decode cX12_tap 94 = .ok (.ldc_w 453, 3) := by decide +kernel
theorem dX12_tap_97 : decode cX12_tap 97 = .ok (.goto 9, 3) := by decide +kernel
theorem dX12_tap_100 : decode cX12_tap 100 = .ok (.aload_n 0, 1) := by decide +kernel
theorem dX12_tap_101 : decode cX12_tap 101 = .ok (.iload 4, 2) := by decide +kernel
theorem dX12_tap_103 : decode cX12_tap 103 = .ok (.invokevirtual 454, 3) := by decide +kernel
theorem dX12_tap_106 : decode cX12_tap 106 = .ok (.istore 5, 2) := by decide +kernel
theorem dX12_tap_108 : decode cX12_tap 108 = .ok (.iload 5, 2) := by decide +kernel
theorem dX12_tap_110 : decode cX12_tap 110 = .ok (.iload_n 3, 1) := by decide +kernel
theorem dX12_tap_111 : decode cX12_tap 111 = .ok (.if_icmp .ge 8, 3) := by decide +kernel
theorem dX12_tap_114 : decode cX12_tap 114 = .ok (.iload 4, 2) := by decide +kernel
theorem dX12_tap_116 : decode cX12_tap 116 = .ok (.goto 4, 3) := by decide +kernel
theorem dX12_tap_119 : decode cX12_tap 119 = .ok (.iload_n 2, 1) := by decide +kernel
theorem dX12_tap_120 : decode cX12_tap 120 = .ok (.istore_n 2, 1) := by decide +kernel
theorem dX12_tap_121 : decode cX12_tap 121 = .ok (.iload_n 3, 1) := by decide +kernel
theorem dX12_tap_122 : decode cX12_tap 122 = .ok (.iload 5, 2) := by decide +kernel
theorem dX12_tap_124 : decode cX12_tap 124 = .ok (.invokestatic 328, 3) := by decide +kernel
theorem dX12_tap_127 : decode cX12_tap 127 = .ok (.istore_n 3, 1) := by decide +kernel
theorem dX12_tap_128 : decode cX12_tap 128 = .ok (.iinc 4 1, 3) := by decide +kernel
theorem dX12_tap_131 : decode cX12_tap 131 = .ok (.goto (-60), 3) := by decide +kernel
theorem dX12_tap_134 : decode cX12_tap 134 = .ok (.iload_n 2, 1) := by decide +kernel
theorem dX12_tap_135 : decode cX12_tap 135 = .ok (.ireturn, 1) := by decide +kernel
set_option maxRecDepth 100000 in
set_option maxHeartbeats 200000 in
theorem T_X12_tap_54 {X : CX} (hX : Ok X cX12_tap 6 RX12 (some .int)) (hdx : dX X = 8) {r : Int32 × Hp} (x2 : Int32) (t0 : Int32) (t1 : Int32) (q_34 : Int32 → Int32 → Hp → Option (Int32 × Hp)) (hq_34 : ∀ (x1 : Int32) (x2 : Int32) (h : Hp), q_34 x1 x2 h = some r → J X ((.inl (some (.int r.1)), r.2)) 34 [(0, .ref 30), (1, .int x1), (2, .int x2)] [] h) (h : Hp) (hf : F_X12_tap_54 q_34 x2 t0 t1 h = some r) : J X ((.inl (some (.int r.1)), r.2)) 54 [(0, .ref 30), (2, .int x2)] [.int t0, .int t1] h := by
  unfold F_X12_tap_54 at hf
  refine J_iadd hX dX12_tap_54 ?_
  refine J_istore_n hX [(1, .int (t1 + t0)), (0, .ref 30), (2, .int x2)] dX12_tap_55 rfl rfl rfl ?_
  refine J_iinc hX (x2 + 1) 2 [(2, .int (x2 + 1)), (1, .int (t1 + t0)), (0, .ref 30)] dX12_tap_56 rfl rfl rfl rfl ?_
  refine J_goto hX 34 dX12_tap_59 rfl ?_
  refine J_sub [2, 1, 0] [(0, .ref 30), (1, .int (t1 + t0)), (2, .int (x2 + 1))] rfl ?_
  exact hq_34 (t1 + t0) (x2 + 1) h hf
set_option maxRecDepth 100000 in
set_option maxHeartbeats 200000 in
theorem T_X12_tap_120 {X : CX} (hX : Ok X cX12_tap 6 RX12 (some .int)) (hdx : dX X = 8) {r : Int32 × Hp} (x1 : Int32) (x3 : Int32) (x4 : Int32) (x5 : Int32) (t0 : Int32) (q_71 : Int32 → Int32 → Int32 → Hp → Option (Int32 × Hp)) (hq_71 : ∀ (x2 : Int32) (x3 : Int32) (x4 : Int32) (h : Hp), q_71 x2 x3 x4 h = some r → J X ((.inl (some (.int r.1)), r.2)) 71 [(0, .ref 30), (1, .int x1), (2, .int x2), (3, .int x3), (4, .int x4)] [] h) (h : Hp) (hf : F_X12_tap_120 q_71 x1 x3 x4 x5 t0 h = some r) : J X ((.inl (some (.int r.1)), r.2)) 120 [(0, .ref 30), (1, .int x1), (3, .int x3), (4, .int x4), (5, .int x5)] [.int t0] h := by
  unfold F_X12_tap_120 at hf
  refine J_istore_n hX [(2, .int t0), (0, .ref 30), (1, .int x1), (3, .int x3), (4, .int x4), (5, .int x5)] dX12_tap_120 rfl rfl rfl ?_
  refine J_iload_n hX 3 dX12_tap_121 rfl rfl ?_
  refine J_iload hX 5 dX12_tap_122 rfl ?_
  refine J_min hX dX12_tap_124 mw_X12_328 (ltD hdx rfl) rfl ?_
  obtain ⟨x3_1, e_2, hf⟩ := bndE hf
  refine J_nm e_2 ?_
  refine J_istore_n hX [(3, .int x3_1), (2, .int t0), (0, .ref 30), (1, .int x1), (4, .int x4), (5, .int x5)] dX12_tap_127 rfl rfl rfl ?_
  refine J_iinc hX (x4 + 1) 4 [(4, .int (x4 + 1)), (3, .int x3_1), (2, .int t0), (0, .ref 30), (1, .int x1), (5, .int x5)] dX12_tap_128 rfl rfl rfl rfl ?_
  refine J_goto hX 71 dX12_tap_131 rfl ?_
  refine J_sub [3, 4, 2, 1, 0] [(0, .ref 30), (1, .int x1), (2, .int t0), (3, .int x3_1), (4, .int (x4 + 1))] rfl ?_
  exact hq_71 t0 x3_1 (x4 + 1) h hf
set_option maxRecDepth 100000 in
set_option maxHeartbeats 200000 in
theorem T_X12_tap_106 {X : CX} (hX : Ok X cX12_tap 6 RX12 (some .int)) (hdx : dX X = 8) {r : Int32 × Hp} (x1 : Int32) (x2 : Int32) (x3 : Int32) (x4 : Int32) (t0 : Int32) (q_71 : Int32 → Int32 → Int32 → Hp → Option (Int32 × Hp)) (hq_71 : ∀ (x2 : Int32) (x3 : Int32) (x4 : Int32) (h : Hp), q_71 x2 x3 x4 h = some r → J X ((.inl (some (.int r.1)), r.2)) 71 [(0, .ref 30), (1, .int x1), (2, .int x2), (3, .int x3), (4, .int x4)] [] h) (h : Hp) (hf : F_X12_tap_106 q_71 x1 x2 x3 x4 t0 h = some r) : J X ((.inl (some (.int r.1)), r.2)) 106 [(0, .ref 30), (1, .int x1), (2, .int x2), (3, .int x3), (4, .int x4)] [.int t0] h := by
  unfold F_X12_tap_106 at hf
  refine J_istore hX [(5, .int t0), (0, .ref 30), (1, .int x1), (2, .int x2), (3, .int x3), (4, .int x4)] dX12_tap_106 rfl rfl ?_
  refine J_iload hX 0 dX12_tap_108 rfl ?_
  refine J_iload_n hX 4 dX12_tap_110 rfl rfl ?_
  rcases ifE hf with ⟨c_1, hf⟩ | ⟨c_1, hf⟩
  · refine J_icmp_geF hX 119 dX12_tap_111 rfl c_1 ?_
    refine J_iload hX 5 dX12_tap_114 rfl ?_
    refine J_goto hX 120 dX12_tap_116 rfl ?_
    refine J_sub [1, 2, 4, 5, 0] [(0, .ref 30), (1, .int x1), (3, .int x3), (4, .int x4), (5, .int t0)] rfl ?_
    exact T_X12_tap_120 hX hdx x1 x3 x4 t0 x4 q_71 hq_71 h hf
  · refine J_icmp_geT hX 119 dX12_tap_111 rfl c_1 ?_
    refine J_iload_n hX 3 dX12_tap_119 rfl rfl ?_
    refine J_sub [1, 2, 4, 5, 0] [(0, .ref 30), (1, .int x1), (3, .int x3), (4, .int x4), (5, .int t0)] rfl ?_
    exact T_X12_tap_120 hX hdx x1 x3 x4 t0 x2 q_71 hq_71 h hf
set_option maxRecDepth 100000 in
set_option maxHeartbeats 200000 in
theorem T_X12_tap_71_s {X : CX} (hX : Ok X cX12_tap 6 RX12 (some .int)) (hdx : dX X = 8) {r : Int32 × Hp} (x1 : Int32) (q_71 : Int32 → Int32 → Int32 → Hp → Option (Int32 × Hp)) (hq_71 : ∀ (x2 : Int32) (x3 : Int32) (x4 : Int32) (h : Hp), q_71 x2 x3 x4 h = some r → J X ((.inl (some (.int r.1)), r.2)) 71 [(0, .ref 30), (1, .int x1), (2, .int x2), (3, .int x3), (4, .int x4)] [] h) (x2 : Int32) (x3 : Int32) (x4 : Int32) (h : Hp) (hf : S_X12_tap_71 x1 q_71 x2 x3 x4 h = some r) : J X ((.inl (some (.int r.1)), r.2)) 71 [(0, .ref 30), (1, .int x1), (2, .int x2), (3, .int x3), (4, .int x4)] [] h := by
  unfold S_X12_tap_71 at hf
  refine J_iload hX 4 dX12_tap_71 rfl ?_
  refine J_aload_n hX 0 dX12_tap_73 rfl rfl ?_
  refine V_1 hX [] dX12_tap_74 cw_X12_87 ob_30 rfl (C_X12_houses (okG hX) rfl) (ltD hdx rfl) rfl rfl rfl rfl ?_
  rcases ifE hf with ⟨c_1, hf⟩ | ⟨c_1, hf⟩
  · refine J_icmp_geF hX 134 dX12_tap_77 rfl c_1 ?_
    refine J_iload_n hX 1 dX12_tap_80 rfl rfl ?_
    refine J_iconst hX 1 dX12_tap_81 rfl ?_
    rcases ifE hf with ⟨c_2, hf⟩ | ⟨c_2, hf⟩
    · refine J_icmp_leF hX 134 dX12_tap_82 rfl c_2 ?_
      refine J_aload_n hX 0 dX12_tap_85 rfl rfl ?_
      refine J_iload hX 4 dX12_tap_86 rfl ?_
      obtain ⟨r_3, e_4, hf⟩ := bdE hf
      refine V_1 hX [.int x4] dX12_tap_88 cw_X12_91 ob_30 rfl (C_X12_isFallen (okG hX) e_4) (ltD hdx rfl) rfl rfl rfl rfl ?_
      rcases ifE hf with ⟨c_5, hf⟩ | ⟨c_5, hf⟩
      · refine J_if_eqF hX 100 dX12_tap_91 rfl (b2iT c_5) ?_
        refine J_ldcw hX 1000000 dX12_tap_94 kw_X12_453 ?_
        refine J_goto hX 106 dX12_tap_97 rfl ?_
        exact T_X12_tap_106 hX hdx x1 x2 x3 x4 1000000 q_71 hq_71 h hf
      · refine J_if_eqT hX 100 dX12_tap_91 rfl (b2iF c_5) ?_
        refine J_aload_n hX 0 dX12_tap_100 rfl rfl ?_
        refine J_iload hX 4 dX12_tap_101 rfl ?_
        obtain ⟨r_6, e_7, hf⟩ := bdE hf
        refine V_1 hX [.int x4] dX12_tap_103 cw_X12_454 ob_30 rfl (C_X12_partBy (okG hX) e_7) (ltD hdx rfl) rfl rfl rfl rfl ?_
        exact T_X12_tap_106 hX hdx x1 x2 x3 x4 r_6 q_71 hq_71 h hf
    · refine J_icmp_leT hX 134 dX12_tap_82 rfl c_2 ?_
      refine J_iload_n hX 2 dX12_tap_134 rfl rfl ?_
      exact E_Ii hX dX12_tap_135 hf
  · refine J_icmp_geT hX 134 dX12_tap_77 rfl c_1 ?_
    refine J_iload_n hX 2 dX12_tap_134 rfl rfl ?_
    exact E_Ii hX dX12_tap_135 hf
set_option maxRecDepth 100000 in
set_option maxHeartbeats 200000 in
theorem T_X12_tap_71 {X : CX} (hX : Ok X cX12_tap 6 RX12 (some .int)) (hdx : dX X = 8) {r : Int32 × Hp} (x1 : Int32) : ∀ (n : Nat) (x2 : Int32) (x3 : Int32) (x4 : Int32) (h : Hp), F_X12_tap_71 x1 n x2 x3 x4 h = some r → J X ((.inl (some (.int r.1)), r.2)) 71 [(0, .ref 30), (1, .int x1), (2, .int x2), (3, .int x3), (4, .int x4)] [] h := by
  intro n
  induction n with
  | zero => intro x2 x3 x4 h hf; exact nomatch hf
  | succ n ih => intro x2 x3 x4 h hf; exact T_X12_tap_71_s hX hdx x1 _ (fun x2 x3 x4 h hf => ih x2 x3 x4 h hf) x2 x3 x4 h hf
set_option maxRecDepth 100000 in
set_option maxHeartbeats 200000 in
theorem T_X12_tap_34_s {X : CX} (hX : Ok X cX12_tap 6 RX12 (some .int)) (hdx : dX X = 8) {r : Int32 × Hp} (q_34 : Int32 → Int32 → Hp → Option (Int32 × Hp)) (hq_34 : ∀ (x1 : Int32) (x2 : Int32) (h : Hp), q_34 x1 x2 h = some r → J X ((.inl (some (.int r.1)), r.2)) 34 [(0, .ref 30), (1, .int x1), (2, .int x2)] [] h) (x1 : Int32) (x2 : Int32) (h : Hp) (hf : S_X12_tap_34 q_34 x1 x2 h = some r) : J X ((.inl (some (.int r.1)), r.2)) 34 [(0, .ref 30), (1, .int x1), (2, .int x2)] [] h := by
  unfold S_X12_tap_34 at hf
  refine J_iload_n hX 2 dX12_tap_34 rfl rfl ?_
  refine J_bipush hX 64 dX12_tap_35 rfl ?_
  rcases ifE hf with ⟨c_1, hf⟩ | ⟨c_1, hf⟩
  · refine J_icmp_gtT hX 62 dX12_tap_37 rfl c_1 ?_
    refine J_iconst hX (-1) dX12_tap_62 rfl ?_
    refine J_istore_n hX [(2, .int (-1)), (0, .ref 30), (1, .int x1)] dX12_tap_63 rfl rfl rfl ?_
    refine J_ldcw hX 1000000 dX12_tap_64 kw_X12_453 ?_
    refine J_istore_n hX [(3, .int 1000000), (2, .int (-1)), (0, .ref 30), (1, .int x1)] dX12_tap_67 rfl rfl rfl ?_
    refine J_iconst hX 0 dX12_tap_68 rfl ?_
    refine J_istore hX [(4, .int 0), (3, .int 1000000), (2, .int (-1)), (0, .ref 30), (1, .int x1)] dX12_tap_69 rfl rfl ?_
    refine J_sub [3, 4, 2, 1, 0] [(0, .ref 30), (1, .int x1), (2, .int (-1)), (3, .int 1000000), (4, .int 0)] rfl ?_
    exact T_X12_tap_71 hX hdx x1 FU (-1) 1000000 0 h hf
  · refine J_icmp_gtF hX 62 dX12_tap_37 rfl c_1 ?_
    refine J_iload_n hX 1 dX12_tap_40 rfl rfl ?_
    refine J_aload_n hX 0 dX12_tap_41 rfl rfl ?_
    refine J_iload_n hX 2 dX12_tap_42 rfl rfl ?_
    obtain ⟨r_2, e_3, hf⟩ := bdE hf
    refine V_1 hX [.int x2] dX12_tap_43 cw_X12_450 ob_30 rfl (C_X12_fits (okG hX) e_3) (ltD hdx rfl) rfl rfl rfl rfl ?_
    rcases ifE hf with ⟨c_4, hf⟩ | ⟨c_4, hf⟩
    · refine J_if_eqF hX 53 dX12_tap_46 rfl (b2iT c_4) ?_
      refine J_iconst hX 1 dX12_tap_49 rfl ?_
      refine J_goto hX 54 dX12_tap_50 rfl ?_
      refine J_sub [0, 2] [(0, .ref 30), (2, .int x2)] rfl ?_
      exact T_X12_tap_54 hX hdx x2 1 x1 q_34 hq_34 h hf
    · refine J_if_eqT hX 53 dX12_tap_46 rfl (b2iF c_4) ?_
      refine J_iconst hX 0 dX12_tap_53 rfl ?_
      refine J_sub [0, 2] [(0, .ref 30), (2, .int x2)] rfl ?_
      exact T_X12_tap_54 hX hdx x2 0 x1 q_34 hq_34 h hf
set_option maxRecDepth 100000 in
set_option maxHeartbeats 200000 in
theorem T_X12_tap_34 {X : CX} (hX : Ok X cX12_tap 6 RX12 (some .int)) (hdx : dX X = 8) {r : Int32 × Hp} : ∀ (n : Nat) (x1 : Int32) (x2 : Int32) (h : Hp), F_X12_tap_34 n x1 x2 h = some r → J X ((.inl (some (.int r.1)), r.2)) 34 [(0, .ref 30), (1, .int x1), (2, .int x2)] [] h := by
  intro n
  induction n with
  | zero => intro x1 x2 h hf; exact nomatch hf
  | succ n ih => intro x1 x2 h hf; exact T_X12_tap_34_s hX hdx _ (fun x1 x2 h hf => ih x1 x2 h hf) x1 x2 h hf
set_option maxRecDepth 100000 in
set_option maxHeartbeats 200000 in
theorem T_X12_tap_17 {X : CX} (hX : Ok X cX12_tap 6 RX12 (some .int)) (hdx : dX X = 8) {r : Int32 × Hp} (t0 : Int32) (h : Hp) (hf : F_X12_tap_17 t0 h = some r) : J X ((.inl (some (.int r.1)), r.2)) 17 [(0, .ref 30)] [.int t0, .ref 30] h := by
  unfold F_X12_tap_17 at hf
  refine J_iconst hX 1 dX12_tap_17 rfl ?_
  obtain ⟨r_1, e_2, hf⟩ := bdE hf
  refine V_1 hX [.int t0, .int 1] dX12_tap_18 cw_X12_280 ob_30 rfl (C_X12_throwsIf (okG hX) e_2) (ltD hdx rfl) rfl rfl rfl rfl ?_
  rcases ifE hf with ⟨c_3, hf⟩ | ⟨c_3, hf⟩
  · refine J_if_eqF hX 26 dX12_tap_21 rfl (b2iT c_3) ?_
    refine J_iconst hX 0 dX12_tap_24 rfl ?_
    exact E_Ii hX dX12_tap_25 hf
  · refine J_if_eqT hX 26 dX12_tap_21 rfl (b2iF c_3) ?_
    refine J_aload_n hX 0 dX12_tap_26 rfl rfl ?_
    obtain ⟨r_4, e_5, hf⟩ := bdE hf
    refine V_0 hX [] dX12_tap_27 cw_X12_447 ob_30 rfl (C_X12_laysBroken (okG hX) e_5) (ltD hdx rfl) rfl rfl rfl rfl ?_
    refine J_iconst hX 0 dX12_tap_30 rfl ?_
    refine J_istore_n hX [(1, .int 0), (0, .ref 30)] dX12_tap_31 rfl rfl rfl ?_
    refine J_iconst hX 0 dX12_tap_32 rfl ?_
    refine J_istore_n hX [(2, .int 0), (1, .int 0), (0, .ref 30)] dX12_tap_33 rfl rfl rfl ?_
    refine J_sub [2, 1, 0] [(0, .ref 30), (1, .int 0), (2, .int 0)] rfl ?_
    exact T_X12_tap_34 hX hdx FU 0 0 r_4 hf
set_option maxRecDepth 100000 in
set_option maxHeartbeats 200000 in
theorem T_X12_tap_0 {X : CX} (hX : Ok X cX12_tap 6 RX12 (some .int)) (hdx : dX X = 8) {r : Int32 × Hp} (h : Hp) (hf : f_X12_tap h = some r) : J X ((.inl (some (.int r.1)), r.2)) 0 [(0, .ref 30)] [] h := by
  unfold f_X12_tap at hf
  refine J_aload_n hX 0 dX12_tap_0 rfl rfl ?_
  obtain ⟨r_1, e_2, hf⟩ := bdE hf
  refine V_0 hX [] dX12_tap_1 cw_X12_269 ob_30 rfl (C_X12_uses (okG hX) e_2) (ltD hdx rfl) rfl rfl rfl rfl ?_
  refine J_aload_n hX 0 dX12_tap_4 rfl rfl ?_
  refine J_aload_n hX 0 dX12_tap_5 rfl rfl ?_
  obtain ⟨r_3, e_4, hf⟩ := bdE hf
  refine V_1 hX [] dX12_tap_6 cw_X12_444 ob_30 rfl (C_X12_isFelt (okG hX) e_4) (ltD hdx rfl) rfl rfl rfl rfl ?_
  rcases ifE hf with ⟨c_5, hf⟩ | ⟨c_5, hf⟩
  · refine J_if_neT hX 16 dX12_tap_9 rfl (b2iT c_5) ?_
    refine J_iconst hX 0 dX12_tap_16 rfl ?_
    exact T_X12_tap_17 hX hdx 0 r_1 hf
  · refine J_if_neF hX 16 dX12_tap_9 rfl (b2iF c_5) ?_
    refine J_iconst hX 1 dX12_tap_12 rfl ?_
    refine J_goto hX 17 dX12_tap_13 rfl ?_
    exact T_X12_tap_17 hX hdx 1 r_1 hf
set_option maxRecDepth 100000 in
set_option maxHeartbeats 200000 in
theorem C_X12_tap {G : GX} (hG : GOk G) {h : Hp} {r : Int32 × Hp} (hf : f_X12_tap h = some r) : Ctr G 8 yX12_tap cX12_tap 6 (some .int) [.ref 30] h ((.inl (some (.int r.1)), r.2)) :=
  Ctr_of hG RX12 rfl (by decide) rfl (fun X _ hdx hX => T_X12_tap_0 hX hdx h hf)
theorem dX12_mostSags_0 : decode cX12_mostSags 0 = .ok (.aload_n 0, 1) := by decide +kernel
theorem dX12_mostSags_1 : decode cX12_mostSags 1 = .ok (.invokevirtual 395, 3) := by decide +kernel
theorem dX12_mostSags_4 : decode cX12_mostSags 4 = .ok (.ldc_w 457, 3) := by decide +kernel
theorem dX12_mostSags_7 : decode cX12_mostSags 7 = .ok (.istore_n 1, 1) := by decide +kernel
theorem dX12_mostSags_8 : decode cX12_mostSags 8 = .ok (.iconst 0, 1) := by decide +kernel
theorem dX12_mostSags_9 : decode cX12_mostSags 9 = .ok (.istore_n 2, 1) := by decide +kernel
theorem dX12_mostSags_10 : decode cX12_mostSags 10 = .ok (.iload_n 2, 1) := by decide +kernel
theorem dX12_mostSags_11 : decode cX12_mostSags 11 = .ok (.aload_n 0, 1) := by decide +kernel
theorem dX12_mostSags_12 : decode cX12_mostSags 12 = .ok (.invokevirtual 87, 3) := by decide +kernel
theorem dX12_mostSags_15 : decode cX12_mostSags 15 = .ok (.if_icmp .ge 31, 3) := by decide +kernel
theorem dX12_mostSags_18 : decode cX12_mostSags 18 = .ok (.aload_n 0, 1) := by decide +kernel
theorem dX12_mostSags_19 : decode cX12_mostSags 19 = .ok (.iload_n 2, 1) := by decide +kernel
theorem dX12_mostSags_20 : decode cX12_mostSags 20 = .ok (.invokevirtual 91, 3) := by decide +kernel
theorem dX12_mostSags_23 : decode cX12_mostSags 23 = .ok (.ifCond .eq 7, 3) := by decide +kernel
theorem dX12_mostSags_26 : decode cX12_mostSags 26 = .ok (.iload_n 1, 1) := by decide +kernel
theorem dX12_mostSags_27 : decode cX12_mostSags 27 = .ok (.goto 12, 3) := by decide +kernel
theorem dX12_mostSags_30 : decode cX12_mostSags 30 = .ok (.iload_n 1, 1) := by decide +kernel
theorem dX12_mostSags_31 : decode cX12_mostSags 31 = .ok (.aload_n 0, 1) := by decide +kernel
theorem dX12_mostSags_32 : decode cX12_mostSags 32 = .ok (.iload_n 2, 1) := by decide +kernel
theorem dX12_mostSags_33 : decode cX12_mostSags 33 = .ok (.invokevirtual 337, 3) := by decide +kernel
theorem dX12_mostSags_36 : decode cX12_mostSags 36 = .ok (.invokestatic 314, 3) := by decide +kernel
theorem dX12_mostSags_39 : decode cX12_mostSags 39 = .ok (.istore_n 1, 1) := by decide +kernel
theorem dX12_mostSags_40 : decode cX12_mostSags 40 = .ok (.iinc 2 1, 3) := by decide +kernel
theorem dX12_mostSags_43 : decode cX12_mostSags 43 = .ok (.goto (-33), 3) := by decide +kernel
theorem dX12_mostSags_46 : decode cX12_mostSags 46 = .ok (.iload_n 1, 1) := by decide +kernel
theorem dX12_mostSags_47 : decode cX12_mostSags 47 = .ok (.ldc_w 457, 3) := by decide +kernel
theorem dX12_mostSags_50 : decode cX12_mostSags 50 = .ok (.if_icmp .ne 7, 3) := by decide +kernel
theorem dX12_mostSags_53 : decode cX12_mostSags 53 = .ok (.iconst 0, 1) := by decide +kernel
theorem dX12_mostSags_54 : decode cX12_mostSags 54 = .ok (.goto 4, 3) := by decide +kernel
theorem dX12_mostSags_57 : decode cX12_mostSags 57 = .ok (.iload_n 1, 1) := by decide +kernel
theorem dX12_mostSags_58 : decode cX12_mostSags 58 = .ok (.ireturn, 1) := by decide +kernel
set_option maxRecDepth 100000 in
set_option maxHeartbeats 200000 in
theorem T_X12_mostSags_10_s {X : CX} (hX : Ok X cX12_mostSags 3 RX12 (some .int)) (hdx : dX X = 11) {r : Int32 × Hp} (q_10 : Int32 → Int32 → Hp → Option (Int32 × Hp)) (hq_10 : ∀ (x1 : Int32) (x2 : Int32) (h : Hp), q_10 x1 x2 h = some r → J X ((.inl (some (.int r.1)), r.2)) 10 [(0, .ref 30), (1, .int x1), (2, .int x2)] [] h) (x1 : Int32) (x2 : Int32) (h : Hp) (hf : S_X12_mostSags_10 q_10 x1 x2 h = some r) : J X ((.inl (some (.int r.1)), r.2)) 10 [(0, .ref 30), (1, .int x1), (2, .int x2)] [] h := by
  unfold S_X12_mostSags_10 at hf
  refine J_iload_n hX 2 dX12_mostSags_10 rfl rfl ?_
  refine J_aload_n hX 0 dX12_mostSags_11 rfl rfl ?_
  refine V_1 hX [] dX12_mostSags_12 cw_X12_87 ob_30 rfl (C_X12_houses (okG hX) rfl) (ltD hdx rfl) rfl rfl rfl rfl ?_
  rcases ifE hf with ⟨c_1, hf⟩ | ⟨c_1, hf⟩
  · refine J_icmp_geF hX 46 dX12_mostSags_15 rfl c_1 ?_
    refine J_aload_n hX 0 dX12_mostSags_18 rfl rfl ?_
    refine J_iload_n hX 2 dX12_mostSags_19 rfl rfl ?_
    obtain ⟨r_2, e_3, hf⟩ := bdE hf
    refine V_1 hX [.int x2] dX12_mostSags_20 cw_X12_91 ob_30 rfl (C_X12_isFallen (okG hX) e_3) (ltD hdx rfl) rfl rfl rfl rfl ?_
    rcases ifE hf with ⟨c_4, hf⟩ | ⟨c_4, hf⟩
    · refine J_if_eqF hX 30 dX12_mostSags_23 rfl (b2iT c_4) ?_
      refine J_iload_n hX 1 dX12_mostSags_26 rfl rfl ?_
      refine J_goto hX 39 dX12_mostSags_27 rfl ?_
      refine J_istore_n hX [(1, .int x1), (0, .ref 30), (2, .int x2)] dX12_mostSags_39 rfl rfl rfl ?_
      refine J_iinc hX (x2 + 1) 2 [(2, .int (x2 + 1)), (1, .int x1), (0, .ref 30)] dX12_mostSags_40 rfl rfl rfl rfl ?_
      refine J_goto hX 10 dX12_mostSags_43 rfl ?_
      refine J_sub [2, 1, 0] [(0, .ref 30), (1, .int x1), (2, .int (x2 + 1))] rfl ?_
      exact hq_10 x1 (x2 + 1) h hf
    · refine J_if_eqT hX 30 dX12_mostSags_23 rfl (b2iF c_4) ?_
      refine J_iload_n hX 1 dX12_mostSags_30 rfl rfl ?_
      refine J_aload_n hX 0 dX12_mostSags_31 rfl rfl ?_
      refine J_iload_n hX 2 dX12_mostSags_32 rfl rfl ?_
      obtain ⟨r_5, e_6, hf⟩ := bdE hf
      refine V_1 hX [.int x2] dX12_mostSags_33 cw_X12_337 ob_30 rfl (C_X12_sagsNow (okG hX) e_6) (ltD hdx rfl) rfl rfl rfl rfl ?_
      refine J_max hX dX12_mostSags_36 mw_X12_314 (ltD hdx rfl) rfl ?_
      obtain ⟨x1_7, e_8, hf⟩ := bndE hf
      refine J_nm e_8 ?_
      refine J_istore_n hX [(1, .int x1_7), (0, .ref 30), (2, .int x2)] dX12_mostSags_39 rfl rfl rfl ?_
      refine J_iinc hX (x2 + 1) 2 [(2, .int (x2 + 1)), (1, .int x1_7), (0, .ref 30)] dX12_mostSags_40 rfl rfl rfl rfl ?_
      refine J_goto hX 10 dX12_mostSags_43 rfl ?_
      refine J_sub [2, 1, 0] [(0, .ref 30), (1, .int x1_7), (2, .int (x2 + 1))] rfl ?_
      exact hq_10 x1_7 (x2 + 1) r_5.2 hf
  · refine J_icmp_geT hX 46 dX12_mostSags_15 rfl c_1 ?_
    refine J_iload_n hX 1 dX12_mostSags_46 rfl rfl ?_
    refine J_ldcw hX (-1000000) dX12_mostSags_47 kw_X12_457 ?_
    rcases ifE hf with ⟨c_9, hf⟩ | ⟨c_9, hf⟩
    · refine J_icmp_neF hX 57 dX12_mostSags_50 rfl c_9 ?_
      refine J_iconst hX 0 dX12_mostSags_53 rfl ?_
      refine J_goto hX 58 dX12_mostSags_54 rfl ?_
      exact E_Ii hX dX12_mostSags_58 hf
    · refine J_icmp_neT hX 57 dX12_mostSags_50 rfl c_9 ?_
      refine J_iload_n hX 1 dX12_mostSags_57 rfl rfl ?_
      exact E_Ii hX dX12_mostSags_58 hf
set_option maxRecDepth 100000 in
set_option maxHeartbeats 200000 in
theorem T_X12_mostSags_10 {X : CX} (hX : Ok X cX12_mostSags 3 RX12 (some .int)) (hdx : dX X = 11) {r : Int32 × Hp} : ∀ (n : Nat) (x1 : Int32) (x2 : Int32) (h : Hp), F_X12_mostSags_10 n x1 x2 h = some r → J X ((.inl (some (.int r.1)), r.2)) 10 [(0, .ref 30), (1, .int x1), (2, .int x2)] [] h := by
  intro n
  induction n with
  | zero => intro x1 x2 h hf; exact nomatch hf
  | succ n ih => intro x1 x2 h hf; exact T_X12_mostSags_10_s hX hdx _ (fun x1 x2 h hf => ih x1 x2 h hf) x1 x2 h hf
set_option maxRecDepth 100000 in
set_option maxHeartbeats 200000 in
theorem T_X12_mostSags_0 {X : CX} (hX : Ok X cX12_mostSags 3 RX12 (some .int)) (hdx : dX X = 11) {r : Int32 × Hp} (h : Hp) (hf : f_X12_mostSags h = some r) : J X ((.inl (some (.int r.1)), r.2)) 0 [(0, .ref 30)] [] h := by
  unfold f_X12_mostSags at hf
  refine J_aload_n hX 0 dX12_mostSags_0 rfl rfl ?_
  obtain ⟨r_1, e_2, hf⟩ := bdE hf
  refine V_0 hX [] dX12_mostSags_1 cw_X12_395 ob_30 rfl (C_X12_laysNow (okG hX) e_2) (ltD hdx rfl) rfl rfl rfl rfl ?_
  refine J_ldcw hX (-1000000) dX12_mostSags_4 kw_X12_457 ?_
  refine J_istore_n hX [(1, .int (-1000000)), (0, .ref 30)] dX12_mostSags_7 rfl rfl rfl ?_
  refine J_iconst hX 0 dX12_mostSags_8 rfl ?_
  refine J_istore_n hX [(2, .int 0), (1, .int (-1000000)), (0, .ref 30)] dX12_mostSags_9 rfl rfl rfl ?_
  refine J_sub [2, 1, 0] [(0, .ref 30), (1, .int (-1000000)), (2, .int 0)] rfl ?_
  exact T_X12_mostSags_10 hX hdx FU (-1000000) 0 r_1 hf
set_option maxRecDepth 100000 in
set_option maxHeartbeats 200000 in
theorem C_X12_mostSags {G : GX} (hG : GOk G) {h : Hp} {r : Int32 × Hp} (hf : f_X12_mostSags h = some r) : Ctr G 11 yX12_mostSags cX12_mostSags 3 (some .int) [.ref 30] h ((.inl (some (.int r.1)), r.2)) :=
  Ctr_of hG RX12 rfl (by decide) rfl (fun X _ hdx hX => T_X12_mostSags_0 hX hdx h hf)
theorem dX12_sagging_0 : decode cX12_sagging 0 = .ok (.aload_n 0, 1) := by decide +kernel
theorem dX12_sagging_1 : decode cX12_sagging 1 = .ok (.iconst 0, 1) := by decide +kernel
theorem dX12_sagging_2 : decode cX12_sagging 2 = .ok (.putfield 3, 3) := by decide +kernel
theorem dX12_sagging_5 : decode cX12_sagging 5 = .ok (.aload_n 0, 1) := by decide +kernel
theorem dX12_sagging_6 : decode cX12_sagging 6 = .ok (.invokevirtual 458, 3) := by decide +kernel
theorem dX12_sagging_9 : decode cX12_sagging 9 = .ok (.ireturn, 1) := by decide +kernel
set_option maxRecDepth 100000 in
set_option maxHeartbeats 200000 in
theorem T_X12_sagging_0 {X : CX} (hX : Ok X cX12_sagging 1 RX12 (some .int)) (hdx : dX X = 12) {r : Int32 × Hp} (h : Hp) (hf : f_X12_sagging h = some r) : J X ((.inl (some (.int r.1)), r.2)) 0 [(0, .ref 30)] [] h := by
  unfold f_X12_sagging at hf
  refine J_aload_n hX 0 dX12_sagging_0 rfl rfl ?_
  refine J_iconst hX 0 dX12_sagging_1 rfl ?_
  obtain ⟨h_1, e_2, hf⟩ := bndE hf
  refine J_putI hX dX12_sagging_2 fl_X12_3 fw_10_0 ob_30 rfl rfl rfl ?_
  refine J_nmh e_2 ?_
  refine J_aload_n hX 0 dX12_sagging_5 rfl rfl ?_
  obtain ⟨r_3, e_4, hf⟩ := bdE hf
  refine V_1 hX [] dX12_sagging_6 cw_X12_458 ob_30 rfl (C_X12_mostSags (okG hX) e_4) (ltD hdx rfl) rfl rfl rfl rfl ?_
  exact E_Ii hX dX12_sagging_9 hf
set_option maxRecDepth 100000 in
set_option maxHeartbeats 200000 in
theorem C_X12_sagging {G : GX} (hG : GOk G) {h : Hp} {r : Int32 × Hp} (hf : f_X12_sagging h = some r) : Ctr G 12 yX12_sagging cX12_sagging 1 (some .int) [.ref 30] h ((.inl (some (.int r.1)), r.2)) :=
  Ctr_of hG RX12 rfl (by decide) rfl (fun X _ hdx hX => T_X12_sagging_0 hX hdx h hf)
theorem dX12_eases_0 : decode cX12_eases 0 = .ok (.aload_n 0, 1) := by decide +kernel
theorem dX12_eases_1 : decode cX12_eases 1 = .ok (.iconst 0, 1) := by decide +kernel
theorem dX12_eases_2 : decode cX12_eases 2 = .ok (.putfield 3, 3) := by decide +kernel
theorem dX12_eases_5 : decode cX12_eases 5 = .ok (.iconst (-1), 1) := by decide +kernel
theorem dX12_eases_6 : decode cX12_eases 6 = .ok (.istore_n 1, 1) := by decide +kernel
theorem dX12_eases_7 : decode cX12_eases 7 = .ok (.aload_n 0, 1) := by decide +kernel
theorem dX12_eases_8 : decode cX12_eases 8 = .ok (.invokevirtual 458, 3) := by decide +kernel
theorem dX12_eases_11 : decode cX12_eases 11 = .ok (.istore_n 2, 1) := by decide +kernel
theorem dX12_eases_12 : decode cX12_eases 12 = .ok (.iconst 0, 1) := by decide +kernel
theorem dX12_eases_13 : decode cX12_eases 13 = .ok (.istore_n 3, 1) := by decide +kernel
theorem dX12_eases_14 : decode cX12_eases 14 = .ok (.iload_n 3, 1) := by decide +kernel
theorem dX12_eases_15 : decode cX12_eases 15 = .ok (.aload_n 0, 1) := by decide +kernel
theorem dX12_eases_16 : decode cX12_eases 16 = .ok (.invokevirtual 87, 3) := by decide +kernel
theorem dX12_eases_19 : decode cX12_eases 19 = .ok (.if_icmp .ge 95, 3) := by decide +kernel
theorem dX12_eases_22 : decode cX12_eases 22 = .ok (.iload_n 3, 1) := by decide +kernel
theorem dX12_eases_23 : decode cX12_eases 23 = .ok (.iconst 1, 1) := by decide +kernel
theorem dX12_eases_24 : decode cX12_eases 24 = .ok (.iadd, 1) := by decide +kernel
theorem dX12_eases_25 : decode cX12_eases 25 = .ok (.istore 4, 2) := by decide +kernel
theorem dX12_eases_27 : decode cX12_eases 27 = .ok (.iload 4, 2) := by decide +kernel
theorem dX12_eases_29 : decode cX12_eases 29 = .ok (.aload_n 0, 1) := by decide +kernel
theorem dX12_eases_30 : decode cX12_eases 30 = .ok (.invokevirtual 87, 3) := by decide +kernel
theorem dX12_eases_33 : decode cX12_eases 33 = .ok (.if_icmp .ge 75, 3) := by decide +kernel
theorem dX12_eases_36 : decode cX12_eases 36 = .ok (.aload_n 0, 1) := by decide +kernel
theorem dX12_eases_37 : decode cX12_eases 37 = .ok (.iload_n 3, 1) := by decide +kernel
theorem dX12_eases_38 : decode cX12_eases 38 = .ok (.invokevirtual 91, 3) := by decide +kernel
theorem dX12_eases_41 : decode cX12_eases 41 = .ok (.ifCond .ne 61, 3) := by decide +kernel
theorem dX12_eases_44 : decode cX12_eases 44 = .ok (.aload_n 0, 1) := by decide +kernel
theorem dX12_eases_45 : decode cX12_eases 45 = .ok (.iload 4, 2) := by decide +kernel
theorem dX12_eases_47 : decode cX12_eases 47 = .ok (.invokevirtual 91, 3) := by decide +kernel
theorem dX12_eases_50 : decode cX12_eases 50 = .ok (.ifCond .eq 6, 3) := by decide +kernel
theorem dX12_eases_53 : decode cX12_eases 53 = .ok (.goto 49, 3) := by decide +kernel
theorem dX12_eases_56 : decode cX12_eases 56 = .ok (.aload_n 0, 1) := by decide +kernel
theorem dX12_eases_57 : decode cX12_eases 57 = .ok (.invokevirtual 356, 3) := by decide +kernel
theorem dX12_eases_60 : decode cX12_eases 60 = .ok (.aload_n 0, 1) := by decide +kernel
theorem dX12_eases_61 : decode cX12_eases 61 = .ok (.iload_n 3, 1) := by decide +kernel
theorem dX12_eases_62 : decode cX12_eases 62 = .ok (.iload 4, 2) := by decide +kernel
theorem dX12_eases_64 : decode cX12_eases 64 = .ok (.invokevirtual 417, 3) := by decide +kernel
theorem dX12_eases_67 : decode cX12_eases 67 = .ok (.aload_n 0, 1) := by decide +kernel
theorem dX12_eases_68 : decode cX12_eases 68 = .ok (.invokevirtual 458, 3) := by decide +kernel
theorem dX12_eases_71 : decode cX12_eases 71 = .ok (.istore 5, 2) := by decide +kernel
theorem dX12_eases_73 : decode cX12_eases 73 = .ok (.aload_n 0, 1) := by decide +kernel
theorem dX12_eases_74 : decode cX12_eases 74 = .ok (.invokevirtual 353, 3) := by decide +kernel
theorem dX12_eases_77 : decode cX12_eases 77 = .ok (.iload 5, 2) := by decide +kernel
theorem dX12_eases_79 : decode cX12_eases 79 = .ok (.iload_n 2, 1) := by decide +kernel
theorem dX12_eases_80 : decode cX12_eases 80 = .ok (.if_icmp .ge 13, 3) := by decide +kernel
theorem dX12_eases_83 : decode cX12_eases 83 = .ok (.bipush 8, 2) := by decide +kernel
theorem dX12_eases_85 : decode cX12_eases 85 = .ok (.iload_n 3, 1) := by decide +kernel
theorem dX12_eases_86 : decode cX12_eases 86 = .ok (.imul, 1) := by decide +kernel
theorem dX12_eases_87 : decode cX12_eases 87 = .ok (.iload 4, 2) := by decide +kernel
theorem dX12_eases_89 : decode cX12_eases 89 = .ok (.iadd, 1) := by decide +kernel
theorem dX12_eases_90 : decode cX12_eases 90 = .ok (.goto 4, 3) := by decide +kernel
theorem dX12_eases_93 : decode cX12_eases 93 = .ok (.iload_n 1, 1) := by decide +kernel
theorem dX12_eases_94 : decode cX12_eases 94 = .ok (.istore_n 1, 1) := by decide +kernel
theorem dX12_eases_95 : decode cX12_eases 95 = .ok (.iload_n 2, 1) := by decide +kernel
theorem dX12_eases_96 : decode cX12_eases 96 = .ok (.iload 5, 2) := by decide +kernel
theorem dX12_eases_98 : decode cX12_eases 98 = .ok (.invokestatic 328, 3) := by decide +kernel
theorem dX12_eases_101 : decode cX12_eases 101 = .ok (.istore_n 2, 1) := by decide +kernel
theorem dX12_eases_102 : decode cX12_eases 102 = .ok (.iinc 4 1, 3) := by decide +kernel
theorem dX12_eases_105 : decode cX12_eases 105 = .ok (.goto (-78), 3) := by decide +kernel
theorem dX12_eases_108 : decode cX12_eases 108 = .ok (.iinc 3 1, 3) := by decide +kernel
theorem dX12_eases_111 : decode cX12_eases 111 = .ok (.goto (-97), 3) := by decide +kernel
theorem dX12_eases_114 : decode cX12_eases 114 = .ok (.iload_n 1, 1) := by decide +kernel
theorem dX12_eases_115 : decode cX12_eases 115 = .ok (.ireturn, 1) := by decide +kernel
set_option maxRecDepth 100000 in
set_option maxHeartbeats 200000 in
theorem T_X12_eases_94 {X : CX} (hX : Ok X cX12_eases 6 RX12 (some .int)) (hdx : dX X = 12) {r : Int32 × Hp} (x2 : Int32) (x3 : Int32) (x4 : Int32) (x5 : Int32) (t0 : Int32) (q_14 : Int32 → Int32 → Int32 → Hp → Option (Int32 × Hp)) (hq_14 : ∀ (x1 : Int32) (x2 : Int32) (x3 : Int32) (h : Hp), q_14 x1 x2 x3 h = some r → J X ((.inl (some (.int r.1)), r.2)) 14 [(0, .ref 30), (1, .int x1), (2, .int x2), (3, .int x3)] [] h) (q_27 : Int32 → Int32 → Int32 → Hp → Option (Int32 × Hp)) (hq_27 : ∀ (x1 : Int32) (x2 : Int32) (x4 : Int32) (h : Hp), q_27 x1 x2 x4 h = some r → J X ((.inl (some (.int r.1)), r.2)) 27 [(0, .ref 30), (1, .int x1), (2, .int x2), (3, .int x3), (4, .int x4)] [] h) (h : Hp) (hf : F_X12_eases_94 q_14 q_27 x2 x3 x4 x5 t0 h = some r) : J X ((.inl (some (.int r.1)), r.2)) 94 [(0, .ref 30), (2, .int x2), (3, .int x3), (4, .int x4), (5, .int x5)] [.int t0] h := by
  unfold F_X12_eases_94 at hf
  refine J_istore_n hX [(1, .int t0), (0, .ref 30), (2, .int x2), (3, .int x3), (4, .int x4), (5, .int x5)] dX12_eases_94 rfl rfl rfl ?_
  refine J_iload_n hX 2 dX12_eases_95 rfl rfl ?_
  refine J_iload hX 5 dX12_eases_96 rfl ?_
  refine J_min hX dX12_eases_98 mw_X12_328 (ltD hdx rfl) rfl ?_
  obtain ⟨x2_1, e_2, hf⟩ := bndE hf
  refine J_nm e_2 ?_
  refine J_istore_n hX [(2, .int x2_1), (1, .int t0), (0, .ref 30), (3, .int x3), (4, .int x4), (5, .int x5)] dX12_eases_101 rfl rfl rfl ?_
  refine J_iinc hX (x4 + 1) 4 [(4, .int (x4 + 1)), (2, .int x2_1), (1, .int t0), (0, .ref 30), (3, .int x3), (5, .int x5)] dX12_eases_102 rfl rfl rfl rfl ?_
  refine J_goto hX 27 dX12_eases_105 rfl ?_
  refine J_sub [3, 2, 1, 4, 0] [(0, .ref 30), (1, .int t0), (2, .int x2_1), (3, .int x3), (4, .int (x4 + 1))] rfl ?_
  exact hq_27 t0 x2_1 (x4 + 1) h hf
set_option maxRecDepth 100000 in
set_option maxHeartbeats 200000 in
theorem T_X12_eases_27_s {X : CX} (hX : Ok X cX12_eases 6 RX12 (some .int)) (hdx : dX X = 12) {r : Int32 × Hp} (x3 : Int32) (q_14 : Int32 → Int32 → Int32 → Hp → Option (Int32 × Hp)) (hq_14 : ∀ (x1 : Int32) (x2 : Int32) (x3 : Int32) (h : Hp), q_14 x1 x2 x3 h = some r → J X ((.inl (some (.int r.1)), r.2)) 14 [(0, .ref 30), (1, .int x1), (2, .int x2), (3, .int x3)] [] h) (q_27 : Int32 → Int32 → Int32 → Hp → Option (Int32 × Hp)) (hq_27 : ∀ (x1 : Int32) (x2 : Int32) (x4 : Int32) (h : Hp), q_27 x1 x2 x4 h = some r → J X ((.inl (some (.int r.1)), r.2)) 27 [(0, .ref 30), (1, .int x1), (2, .int x2), (3, .int x3), (4, .int x4)] [] h) (x1 : Int32) (x2 : Int32) (x4 : Int32) (h : Hp) (hf : S_X12_eases_27 q_14 x3 q_27 x1 x2 x4 h = some r) : J X ((.inl (some (.int r.1)), r.2)) 27 [(0, .ref 30), (1, .int x1), (2, .int x2), (3, .int x3), (4, .int x4)] [] h := by
  unfold S_X12_eases_27 at hf
  refine J_iload hX 4 dX12_eases_27 rfl ?_
  refine J_aload_n hX 0 dX12_eases_29 rfl rfl ?_
  refine V_1 hX [] dX12_eases_30 cw_X12_87 ob_30 rfl (C_X12_houses (okG hX) rfl) (ltD hdx rfl) rfl rfl rfl rfl ?_
  rcases ifE hf with ⟨c_1, hf⟩ | ⟨c_1, hf⟩
  · refine J_icmp_geF hX 108 dX12_eases_33 rfl c_1 ?_
    refine J_aload_n hX 0 dX12_eases_36 rfl rfl ?_
    refine J_iload_n hX 3 dX12_eases_37 rfl rfl ?_
    obtain ⟨r_2, e_3, hf⟩ := bdE hf
    refine V_1 hX [.int x3] dX12_eases_38 cw_X12_91 ob_30 rfl (C_X12_isFallen (okG hX) e_3) (ltD hdx rfl) rfl rfl rfl rfl ?_
    rcases ifE hf with ⟨c_4, hf⟩ | ⟨c_4, hf⟩
    · refine J_if_neT hX 102 dX12_eases_41 rfl (b2iT c_4) ?_
      refine J_iinc hX (x4 + 1) 4 [(4, .int (x4 + 1)), (0, .ref 30), (1, .int x1), (2, .int x2), (3, .int x3)] dX12_eases_102 rfl rfl rfl rfl ?_
      refine J_goto hX 27 dX12_eases_105 rfl ?_
      refine J_sub [1, 2, 3, 4, 0] [(0, .ref 30), (1, .int x1), (2, .int x2), (3, .int x3), (4, .int (x4 + 1))] rfl ?_
      exact hq_27 x1 x2 (x4 + 1) h hf
    · refine J_if_neF hX 102 dX12_eases_41 rfl (b2iF c_4) ?_
      refine J_aload_n hX 0 dX12_eases_44 rfl rfl ?_
      refine J_iload hX 4 dX12_eases_45 rfl ?_
      obtain ⟨r_5, e_6, hf⟩ := bdE hf
      refine V_1 hX [.int x4] dX12_eases_47 cw_X12_91 ob_30 rfl (C_X12_isFallen (okG hX) e_6) (ltD hdx rfl) rfl rfl rfl rfl ?_
      rcases ifE hf with ⟨c_7, hf⟩ | ⟨c_7, hf⟩
      · refine J_if_eqF hX 56 dX12_eases_50 rfl (b2iT c_7) ?_
        refine J_goto hX 102 dX12_eases_53 rfl ?_
        refine J_iinc hX (x4 + 1) 4 [(4, .int (x4 + 1)), (0, .ref 30), (1, .int x1), (2, .int x2), (3, .int x3)] dX12_eases_102 rfl rfl rfl rfl ?_
        refine J_goto hX 27 dX12_eases_105 rfl ?_
        refine J_sub [1, 2, 3, 4, 0] [(0, .ref 30), (1, .int x1), (2, .int x2), (3, .int x3), (4, .int (x4 + 1))] rfl ?_
        exact hq_27 x1 x2 (x4 + 1) h hf
      · refine J_if_eqT hX 56 dX12_eases_50 rfl (b2iF c_7) ?_
        refine J_aload_n hX 0 dX12_eases_56 rfl rfl ?_
        obtain ⟨r_8, e_9, hf⟩ := bdE hf
        refine V_0 hX [] dX12_eases_57 cw_X12_356 ob_30 rfl (C_X12_keepsAll (okG hX) e_9) (ltD hdx rfl) rfl rfl rfl rfl ?_
        refine J_aload_n hX 0 dX12_eases_60 rfl rfl ?_
        refine J_iload_n hX 3 dX12_eases_61 rfl rfl ?_
        refine J_iload hX 4 dX12_eases_62 rfl ?_
        obtain ⟨r_10, e_11, hf⟩ := bdE hf
        refine V_0 hX [.int x3, .int x4] dX12_eases_64 cw_X12_417 ob_30 rfl (C_X12_weds (okG hX) e_11) (ltD hdx rfl) rfl rfl rfl rfl ?_
        refine J_aload_n hX 0 dX12_eases_67 rfl rfl ?_
        obtain ⟨r_12, e_13, hf⟩ := bdE hf
        refine V_1 hX [] dX12_eases_68 cw_X12_458 ob_30 rfl (C_X12_mostSags (okG hX) e_13) (ltD hdx rfl) rfl rfl rfl rfl ?_
        refine J_istore hX [(5, .int r_12.1), (0, .ref 30), (1, .int x1), (2, .int x2), (3, .int x3), (4, .int x4)] dX12_eases_71 rfl rfl ?_
        refine J_aload_n hX 1 dX12_eases_73 rfl rfl ?_
        obtain ⟨r_14, e_15, hf⟩ := bdE hf
        refine V_0 hX [] dX12_eases_74 cw_X12_353 ob_30 rfl (C_X12_bringsBack (okG hX) e_15) (ltD hdx rfl) rfl rfl rfl rfl ?_
        refine J_iload hX 0 dX12_eases_77 rfl ?_
        refine J_iload_n hX 3 dX12_eases_79 rfl rfl ?_
        rcases ifE hf with ⟨c_16, hf⟩ | ⟨c_16, hf⟩
        · refine J_icmp_geF hX 93 dX12_eases_80 rfl c_16 ?_
          refine J_bipush hX 8 dX12_eases_83 rfl ?_
          refine J_iload_n hX 4 dX12_eases_85 rfl rfl ?_
          refine J_imul hX dX12_eases_86 ?_
          refine J_iload hX 5 dX12_eases_87 rfl ?_
          refine J_iadd hX dX12_eases_89 ?_
          refine J_goto hX 94 dX12_eases_90 rfl ?_
          refine J_sub [1, 3, 4, 5, 0] [(0, .ref 30), (2, .int x2), (3, .int x3), (4, .int x4), (5, .int r_12.1)] rfl ?_
          exact T_X12_eases_94 hX hdx x2 x3 x4 r_12.1 ((8 * x3) + x4) q_14 hq_14 q_27 hq_27 r_14 hf
        · refine J_icmp_geT hX 93 dX12_eases_80 rfl c_16 ?_
          refine J_iload_n hX 2 dX12_eases_93 rfl rfl ?_
          refine J_sub [1, 3, 4, 5, 0] [(0, .ref 30), (2, .int x2), (3, .int x3), (4, .int x4), (5, .int r_12.1)] rfl ?_
          exact T_X12_eases_94 hX hdx x2 x3 x4 r_12.1 x1 q_14 hq_14 q_27 hq_27 r_14 hf
  · refine J_icmp_geT hX 108 dX12_eases_33 rfl c_1 ?_
    refine J_iinc hX (x3 + 1) 3 [(3, .int (x3 + 1)), (0, .ref 30), (1, .int x1), (2, .int x2), (4, .int x4)] dX12_eases_108 rfl rfl rfl rfl ?_
    refine J_goto hX 14 dX12_eases_111 rfl ?_
    refine J_sub [1, 2, 3, 0] [(0, .ref 30), (1, .int x1), (2, .int x2), (3, .int (x3 + 1))] rfl ?_
    exact hq_14 x1 x2 (x3 + 1) h hf
set_option maxRecDepth 100000 in
set_option maxHeartbeats 200000 in
theorem T_X12_eases_27 {X : CX} (hX : Ok X cX12_eases 6 RX12 (some .int)) (hdx : dX X = 12) {r : Int32 × Hp} (x3 : Int32) (q_14 : Int32 → Int32 → Int32 → Hp → Option (Int32 × Hp)) (hq_14 : ∀ (x1 : Int32) (x2 : Int32) (x3 : Int32) (h : Hp), q_14 x1 x2 x3 h = some r → J X ((.inl (some (.int r.1)), r.2)) 14 [(0, .ref 30), (1, .int x1), (2, .int x2), (3, .int x3)] [] h) : ∀ (n : Nat) (x1 : Int32) (x2 : Int32) (x4 : Int32) (h : Hp), F_X12_eases_27 q_14 x3 n x1 x2 x4 h = some r → J X ((.inl (some (.int r.1)), r.2)) 27 [(0, .ref 30), (1, .int x1), (2, .int x2), (3, .int x3), (4, .int x4)] [] h := by
  intro n
  induction n with
  | zero => intro x1 x2 x4 h hf; exact nomatch hf
  | succ n ih => intro x1 x2 x4 h hf; exact T_X12_eases_27_s hX hdx x3 q_14 hq_14 _ (fun x1 x2 x4 h hf => ih x1 x2 x4 h hf) x1 x2 x4 h hf
set_option maxRecDepth 100000 in
set_option maxHeartbeats 200000 in
theorem T_X12_eases_14_s {X : CX} (hX : Ok X cX12_eases 6 RX12 (some .int)) (hdx : dX X = 12) {r : Int32 × Hp} (q_14 : Int32 → Int32 → Int32 → Hp → Option (Int32 × Hp)) (hq_14 : ∀ (x1 : Int32) (x2 : Int32) (x3 : Int32) (h : Hp), q_14 x1 x2 x3 h = some r → J X ((.inl (some (.int r.1)), r.2)) 14 [(0, .ref 30), (1, .int x1), (2, .int x2), (3, .int x3)] [] h) (x1 : Int32) (x2 : Int32) (x3 : Int32) (h : Hp) (hf : S_X12_eases_14 q_14 x1 x2 x3 h = some r) : J X ((.inl (some (.int r.1)), r.2)) 14 [(0, .ref 30), (1, .int x1), (2, .int x2), (3, .int x3)] [] h := by
  unfold S_X12_eases_14 at hf
  refine J_iload_n hX 3 dX12_eases_14 rfl rfl ?_
  refine J_aload_n hX 0 dX12_eases_15 rfl rfl ?_
  refine V_1 hX [] dX12_eases_16 cw_X12_87 ob_30 rfl (C_X12_houses (okG hX) rfl) (ltD hdx rfl) rfl rfl rfl rfl ?_
  rcases ifE hf with ⟨c_1, hf⟩ | ⟨c_1, hf⟩
  · refine J_icmp_geF hX 114 dX12_eases_19 rfl c_1 ?_
    refine J_iload_n hX 3 dX12_eases_22 rfl rfl ?_
    refine J_iconst hX 1 dX12_eases_23 rfl ?_
    refine J_iadd hX dX12_eases_24 ?_
    refine J_istore hX [(4, .int (x3 + 1)), (0, .ref 30), (1, .int x1), (2, .int x2), (3, .int x3)] dX12_eases_25 rfl rfl ?_
    refine J_sub [1, 2, 3, 4, 0] [(0, .ref 30), (1, .int x1), (2, .int x2), (3, .int x3), (4, .int (x3 + 1))] rfl ?_
    exact T_X12_eases_27 hX hdx x3 q_14 hq_14 FU x1 x2 (x3 + 1) h hf
  · refine J_icmp_geT hX 114 dX12_eases_19 rfl c_1 ?_
    refine J_iload_n hX 1 dX12_eases_114 rfl rfl ?_
    exact E_Ii hX dX12_eases_115 hf
set_option maxRecDepth 100000 in
set_option maxHeartbeats 200000 in
theorem T_X12_eases_14 {X : CX} (hX : Ok X cX12_eases 6 RX12 (some .int)) (hdx : dX X = 12) {r : Int32 × Hp} : ∀ (n : Nat) (x1 : Int32) (x2 : Int32) (x3 : Int32) (h : Hp), F_X12_eases_14 n x1 x2 x3 h = some r → J X ((.inl (some (.int r.1)), r.2)) 14 [(0, .ref 30), (1, .int x1), (2, .int x2), (3, .int x3)] [] h := by
  intro n
  induction n with
  | zero => intro x1 x2 x3 h hf; exact nomatch hf
  | succ n ih => intro x1 x2 x3 h hf; exact T_X12_eases_14_s hX hdx _ (fun x1 x2 x3 h hf => ih x1 x2 x3 h hf) x1 x2 x3 h hf
set_option maxRecDepth 100000 in
set_option maxHeartbeats 200000 in
theorem T_X12_eases_0 {X : CX} (hX : Ok X cX12_eases 6 RX12 (some .int)) (hdx : dX X = 12) {r : Int32 × Hp} (h : Hp) (hf : f_X12_eases h = some r) : J X ((.inl (some (.int r.1)), r.2)) 0 [(0, .ref 30)] [] h := by
  unfold f_X12_eases at hf
  refine J_aload_n hX 0 dX12_eases_0 rfl rfl ?_
  refine J_iconst hX 0 dX12_eases_1 rfl ?_
  obtain ⟨h_1, e_2, hf⟩ := bndE hf
  refine J_putI hX dX12_eases_2 fl_X12_3 fw_10_0 ob_30 rfl rfl rfl ?_
  refine J_nmh e_2 ?_
  refine J_iconst hX (-1) dX12_eases_5 rfl ?_
  refine J_istore_n hX [(1, .int (-1)), (0, .ref 30)] dX12_eases_6 rfl rfl rfl ?_
  refine J_aload_n hX 1 dX12_eases_7 rfl rfl ?_
  obtain ⟨r_3, e_4, hf⟩ := bdE hf
  refine V_1 hX [] dX12_eases_8 cw_X12_458 ob_30 rfl (C_X12_mostSags (okG hX) e_4) (ltD hdx rfl) rfl rfl rfl rfl ?_
  refine J_istore_n hX [(2, .int r_3.1), (1, .int (-1)), (0, .ref 30)] dX12_eases_11 rfl rfl rfl ?_
  refine J_iconst hX 0 dX12_eases_12 rfl ?_
  refine J_istore_n hX [(3, .int 0), (2, .int r_3.1), (1, .int (-1)), (0, .ref 30)] dX12_eases_13 rfl rfl rfl ?_
  refine J_sub [3, 2, 1, 0] [(0, .ref 30), (1, .int (-1)), (2, .int r_3.1), (3, .int 0)] rfl ?_
  exact T_X12_eases_14 hX hdx FU (-1) r_3.1 0 r_3.2 hf
set_option maxRecDepth 100000 in
set_option maxHeartbeats 200000 in
theorem C_X12_eases {G : GX} (hG : GOk G) {h : Hp} {r : Int32 × Hp} (hf : f_X12_eases h = some r) : Ctr G 12 yX12_eases cX12_eases 6 (some .int) [.ref 30] h ((.inl (some (.int r.1)), r.2)) :=
  Ctr_of hG RX12 rfl (by decide) rfl (fun X _ hdx hX => T_X12_eases_0 hX hdx h hf)
theorem dX12_onWhom_0 : decode cX12_onWhom 0 = .ok (.iconst 0, 1) := by decide +kernel
theorem dX12_onWhom_1 : decode cX12_onWhom 1 = .ok (.istore_n 2, 1) := by decide +kernel
theorem dX12_onWhom_2 : decode cX12_onWhom 2 = .ok (.iconst 0, 1) := by decide +kernel
theorem dX12_onWhom_3 : decode cX12_onWhom 3 = .ok (.istore_n 3, 1) := by decide +kernel
theorem dX12_onWhom_4 : decode cX12_onWhom 4 = .ok (.iload_n 3, 1) := by decide +kernel
theorem dX12_onWhom_5 : decode cX12_onWhom 5 = .ok (.aload_n 0, 1) := by decide +kernel
theorem dX12_onWhom_6 : decode cX12_onWhom 6 = .ok (.invokevirtual 87, 3) := by decide +kernel
theorem dX12_onWhom_9 : decode cX12_onWhom 9 = .ok (.if_icmp .ge 56, 3) := by decide +kernel
theorem dX12_onWhom_12 : decode cX12_onWhom 12 = .ok (.iconst 0, 1) := by decide +kernel
theorem dX12_onWhom_13 : decode cX12_onWhom 13 = .ok (.istore 4, 2) := by decide +kernel
theorem dX12_onWhom_15 : decode cX12_onWhom 15 = .ok (.iload 4, 2) := by decide +kernel
theorem dX12_onWhom_17 : decode cX12_onWhom 17 = .ok (.aload_n 0, 1) := by decide +kernel
theorem dX12_onWhom_18 : decode cX12_onWhom 18 = .ok (.invokevirtual 87, 3) := by decide +kernel
theorem dX12_onWhom_21 : decode cX12_onWhom 21 = .ok (.if_icmp .ge 38, 3) := by decide +kernel
theorem dX12_onWhom_24 : decode cX12_onWhom 24 = .ok (.iload_n 2, 1) := by decide +kernel
theorem dX12_onWhom_25 : decode cX12_onWhom 25 = .ok (.iload_n 1, 1) := by decide +kernel
theorem dX12_onWhom_26 : decode cX12_onWhom 26 = .ok (.iload_n 3, 1) := by decide +kernel
theorem dX12_onWhom_27 : decode cX12_onWhom 27 = .ok (.invokestatic 289, 3) := by decide +kernel
theorem dX12_onWhom_30 : decode cX12_onWhom 30 = .ok (.ifCond .eq 20, 3) := by decide +kernel
theorem dX12_onWhom_33 : decode cX12_onWhom 33 = .ok (.aload_n 0, 1) := by decide +kernel
theorem dX12_onWhom_34 : decode cX12_onWhom 34 = .ok (.iload_n 3, 1) := by decide +kernel
theorem dX12_onWhom_35 : decode cX12_onWhom 35 = .ok (.iload 4, 2) := by decide +kernel
theorem dX12_onWhom_37 : decode cX12_onWhom 37 = .ok (.invokevirtual 103, 3) := by decide +kernel
theorem dX12_onWhom_40 : decode cX12_onWhom 40 = .ok (.ifCond .le 10, 3) := by decide +kernel
theorem dX12_onWhom_43 : decode cX12_onWhom 43 = .ok (.iconst 1, 1) := by decide +kernel
theorem dX12_onWhom_44 : decode cX12_onWhom 44 = .ok (.iload 4, 2) := by decide +kernel
theorem dX12_onWhom_46 : decode cX12_onWhom 46 = .ok (.ishl, 1) := by decide +kernel
theorem dX12_onWhom_47 : decode cX12_onWhom 47 = .ok (.goto 4, 3) := by decide +kernel
theorem dX12_onWhom_50 : decode cX12_onWhom 50 = .ok (.iconst 0, 1) := by decide +kernel
theorem dX12_onWhom_51 : decode cX12_onWhom 51 = .ok (.ior, 1) := by decide +kernel
theorem dX12_onWhom_52 : decode cX12_onWhom 52 = .ok (.istore_n 2, 1) := by decide +kernel
theorem dX12_onWhom_53 : decode cX12_onWhom 53 = .ok (.iinc 4 1, 3) := by decide +kernel
theorem dX12_onWhom_56 : decode cX12_onWhom 56 = .ok (.goto (-41), 3) := by decide +kernel
theorem dX12_onWhom_59 : decode cX12_onWhom 59 = .ok (.iinc 3 1, 3) := by decide +kernel
theorem dX12_onWhom_62 : decode cX12_onWhom 62 = .ok (.goto (-58), 3) := by decide +kernel
theorem dX12_onWhom_65 : decode cX12_onWhom 65 = .ok (.iload_n 2, 1) := by decide +kernel
theorem dX12_onWhom_66 : decode cX12_onWhom 66 = .ok (.ireturn, 1) := by decide +kernel
set_option maxRecDepth 100000 in
set_option maxHeartbeats 200000 in
theorem T_X12_onWhom_51 {X : CX} (hX : Ok X cX12_onWhom 5 RX12 (some .int)) (hdx : dX X = 4) {r : Int32} (h : Hp) (x1 : Int32) (x3 : Int32) (x4 : Int32) (t0 : Int32) (t1 : Int32) (q_4 : Int32 → Int32 → Option Int32) (hq_4 : ∀ (x2 : Int32) (x3 : Int32), q_4 x2 x3 = some r → J X ((.inl (some (.int r)), h)) 4 [(0, .ref 30), (1, .int x1), (2, .int x2), (3, .int x3)] [] h) (q_15 : Int32 → Int32 → Option Int32) (hq_15 : ∀ (x2 : Int32) (x4 : Int32), q_15 x2 x4 = some r → J X ((.inl (some (.int r)), h)) 15 [(0, .ref 30), (1, .int x1), (2, .int x2), (3, .int x3), (4, .int x4)] [] h) (hf : F_X12_onWhom_51 q_4 q_15 h x1 x3 x4 t0 t1 = some r) : J X ((.inl (some (.int r)), h)) 51 [(0, .ref 30), (1, .int x1), (3, .int x3), (4, .int x4)] [.int t0, .int t1] h := by
  unfold F_X12_onWhom_51 at hf
  refine J_ior hX dX12_onWhom_51 ?_
  obtain ⟨x2_1, e_2, hf⟩ := bndE hf
  refine J_nm e_2 ?_
  refine J_istore_n hX [(2, .int x2_1), (0, .ref 30), (1, .int x1), (3, .int x3), (4, .int x4)] dX12_onWhom_52 rfl rfl rfl ?_
  refine J_iinc hX (x4 + 1) 4 [(4, .int (x4 + 1)), (2, .int x2_1), (0, .ref 30), (1, .int x1), (3, .int x3)] dX12_onWhom_53 rfl rfl rfl rfl ?_
  refine J_goto hX 15 dX12_onWhom_56 rfl ?_
  refine J_sub [2, 3, 1, 4, 0] [(0, .ref 30), (1, .int x1), (2, .int x2_1), (3, .int x3), (4, .int (x4 + 1))] rfl ?_
  exact hq_15 x2_1 (x4 + 1) hf
set_option maxRecDepth 100000 in
set_option maxHeartbeats 200000 in
theorem T_X12_onWhom_15_s {X : CX} (hX : Ok X cX12_onWhom 5 RX12 (some .int)) (hdx : dX X = 4) {r : Int32} (h : Hp) (x1 : Int32) (x3 : Int32) (q_4 : Int32 → Int32 → Option Int32) (hq_4 : ∀ (x2 : Int32) (x3 : Int32), q_4 x2 x3 = some r → J X ((.inl (some (.int r)), h)) 4 [(0, .ref 30), (1, .int x1), (2, .int x2), (3, .int x3)] [] h) (q_15 : Int32 → Int32 → Option Int32) (hq_15 : ∀ (x2 : Int32) (x4 : Int32), q_15 x2 x4 = some r → J X ((.inl (some (.int r)), h)) 15 [(0, .ref 30), (1, .int x1), (2, .int x2), (3, .int x3), (4, .int x4)] [] h) (x2 : Int32) (x4 : Int32) (hf : S_X12_onWhom_15 q_4 h x1 x3 q_15 x2 x4 = some r) : J X ((.inl (some (.int r)), h)) 15 [(0, .ref 30), (1, .int x1), (2, .int x2), (3, .int x3), (4, .int x4)] [] h := by
  unfold S_X12_onWhom_15 at hf
  refine J_iload hX 4 dX12_onWhom_15 rfl ?_
  refine J_aload_n hX 0 dX12_onWhom_17 rfl rfl ?_
  refine V_1 hX [] dX12_onWhom_18 cw_X12_87 ob_30 rfl (C_X12_houses (okG hX) rfl) (ltD hdx rfl) rfl rfl rfl rfl ?_
  rcases ifE hf with ⟨c_1, hf⟩ | ⟨c_1, hf⟩
  · refine J_icmp_geF hX 59 dX12_onWhom_21 rfl c_1 ?_
    refine J_iload_n hX 2 dX12_onWhom_24 rfl rfl ?_
    refine J_iload_n hX 1 dX12_onWhom_25 rfl rfl ?_
    refine J_iload_n hX 3 dX12_onWhom_26 rfl rfl ?_
    refine S_1 hX [.int x1, .int x3] dX12_onWhom_27 cw_X12_289 (C_X12_has (okG hX) rfl) (ltD hdx rfl) rfl rfl rfl rfl ?_
    rcases ifE hf with ⟨c_2, hf⟩ | ⟨c_2, hf⟩
    · refine J_if_eqF hX 50 dX12_onWhom_30 rfl (b2iT c_2) ?_
      refine J_aload_n hX 0 dX12_onWhom_33 rfl rfl ?_
      refine J_iload_n hX 3 dX12_onWhom_34 rfl rfl ?_
      refine J_iload hX 4 dX12_onWhom_35 rfl ?_
      obtain ⟨r_3, e_4, hf⟩ := bdE hf
      refine V_1 hX [.int x3, .int x4] dX12_onWhom_37 cw_X12_103 ob_30 rfl (C_X12_partOf (okG hX) e_4) (ltD hdx rfl) rfl rfl rfl rfl ?_
      rcases ifE hf with ⟨c_5, hf⟩ | ⟨c_5, hf⟩
      · refine J_if_leF hX 50 dX12_onWhom_40 rfl c_5 ?_
        refine J_iconst hX 1 dX12_onWhom_43 rfl ?_
        refine J_iload hX 4 dX12_onWhom_44 rfl ?_
        refine J_ishl hX dX12_onWhom_46 ?_
        refine J_goto hX 51 dX12_onWhom_47 rfl ?_
        refine J_sub [0, 1, 3, 4] [(0, .ref 30), (1, .int x1), (3, .int x3), (4, .int x4)] rfl ?_
        exact T_X12_onWhom_51 hX hdx h x1 x3 x4 (shl 1 x4) x2 q_4 hq_4 q_15 hq_15 hf
      · refine J_if_leT hX 50 dX12_onWhom_40 rfl c_5 ?_
        refine J_iconst hX 0 dX12_onWhom_50 rfl ?_
        refine J_sub [0, 1, 3, 4] [(0, .ref 30), (1, .int x1), (3, .int x3), (4, .int x4)] rfl ?_
        exact T_X12_onWhom_51 hX hdx h x1 x3 x4 0 x2 q_4 hq_4 q_15 hq_15 hf
    · refine J_if_eqT hX 50 dX12_onWhom_30 rfl (b2iF c_2) ?_
      refine J_iconst hX 0 dX12_onWhom_50 rfl ?_
      refine J_sub [0, 1, 3, 4] [(0, .ref 30), (1, .int x1), (3, .int x3), (4, .int x4)] rfl ?_
      exact T_X12_onWhom_51 hX hdx h x1 x3 x4 0 x2 q_4 hq_4 q_15 hq_15 hf
  · refine J_icmp_geT hX 59 dX12_onWhom_21 rfl c_1 ?_
    refine J_iinc hX (x3 + 1) 3 [(3, .int (x3 + 1)), (0, .ref 30), (1, .int x1), (2, .int x2), (4, .int x4)] dX12_onWhom_59 rfl rfl rfl rfl ?_
    refine J_goto hX 4 dX12_onWhom_62 rfl ?_
    refine J_sub [1, 2, 3, 0] [(0, .ref 30), (1, .int x1), (2, .int x2), (3, .int (x3 + 1))] rfl ?_
    exact hq_4 x2 (x3 + 1) hf
set_option maxRecDepth 100000 in
set_option maxHeartbeats 200000 in
theorem T_X12_onWhom_15 {X : CX} (hX : Ok X cX12_onWhom 5 RX12 (some .int)) (hdx : dX X = 4) {r : Int32} (h : Hp) (x1 : Int32) (x3 : Int32) (q_4 : Int32 → Int32 → Option Int32) (hq_4 : ∀ (x2 : Int32) (x3 : Int32), q_4 x2 x3 = some r → J X ((.inl (some (.int r)), h)) 4 [(0, .ref 30), (1, .int x1), (2, .int x2), (3, .int x3)] [] h) : ∀ (n : Nat) (x2 : Int32) (x4 : Int32), F_X12_onWhom_15 q_4 h x1 x3 n x2 x4 = some r → J X ((.inl (some (.int r)), h)) 15 [(0, .ref 30), (1, .int x1), (2, .int x2), (3, .int x3), (4, .int x4)] [] h := by
  intro n
  induction n with
  | zero => intro x2 x4 hf; exact nomatch hf
  | succ n ih => intro x2 x4 hf; exact T_X12_onWhom_15_s hX hdx h x1 x3 q_4 hq_4 _ (fun x2 x4 hf => ih x2 x4 hf) x2 x4 hf
set_option maxRecDepth 100000 in
set_option maxHeartbeats 200000 in
theorem T_X12_onWhom_4_s {X : CX} (hX : Ok X cX12_onWhom 5 RX12 (some .int)) (hdx : dX X = 4) {r : Int32} (h : Hp) (x1 : Int32) (q_4 : Int32 → Int32 → Option Int32) (hq_4 : ∀ (x2 : Int32) (x3 : Int32), q_4 x2 x3 = some r → J X ((.inl (some (.int r)), h)) 4 [(0, .ref 30), (1, .int x1), (2, .int x2), (3, .int x3)] [] h) (x2 : Int32) (x3 : Int32) (hf : S_X12_onWhom_4 h x1 q_4 x2 x3 = some r) : J X ((.inl (some (.int r)), h)) 4 [(0, .ref 30), (1, .int x1), (2, .int x2), (3, .int x3)] [] h := by
  unfold S_X12_onWhom_4 at hf
  refine J_iload_n hX 3 dX12_onWhom_4 rfl rfl ?_
  refine J_aload_n hX 0 dX12_onWhom_5 rfl rfl ?_
  refine V_1 hX [] dX12_onWhom_6 cw_X12_87 ob_30 rfl (C_X12_houses (okG hX) rfl) (ltD hdx rfl) rfl rfl rfl rfl ?_
  rcases ifE hf with ⟨c_1, hf⟩ | ⟨c_1, hf⟩
  · refine J_icmp_geF hX 65 dX12_onWhom_9 rfl c_1 ?_
    refine J_iconst hX 0 dX12_onWhom_12 rfl ?_
    refine J_istore hX [(4, .int 0), (0, .ref 30), (1, .int x1), (2, .int x2), (3, .int x3)] dX12_onWhom_13 rfl rfl ?_
    refine J_sub [1, 2, 3, 4, 0] [(0, .ref 30), (1, .int x1), (2, .int x2), (3, .int x3), (4, .int 0)] rfl ?_
    exact T_X12_onWhom_15 hX hdx h x1 x3 q_4 hq_4 FU x2 0 hf
  · refine J_icmp_geT hX 65 dX12_onWhom_9 rfl c_1 ?_
    refine J_iload_n hX 2 dX12_onWhom_65 rfl rfl ?_
    exact E_Ip hX dX12_onWhom_66 hf
set_option maxRecDepth 100000 in
set_option maxHeartbeats 200000 in
theorem T_X12_onWhom_4 {X : CX} (hX : Ok X cX12_onWhom 5 RX12 (some .int)) (hdx : dX X = 4) {r : Int32} (h : Hp) (x1 : Int32) : ∀ (n : Nat) (x2 : Int32) (x3 : Int32), F_X12_onWhom_4 h x1 n x2 x3 = some r → J X ((.inl (some (.int r)), h)) 4 [(0, .ref 30), (1, .int x1), (2, .int x2), (3, .int x3)] [] h := by
  intro n
  induction n with
  | zero => intro x2 x3 hf; exact nomatch hf
  | succ n ih => intro x2 x3 hf; exact T_X12_onWhom_4_s hX hdx h x1 _ (fun x2 x3 hf => ih x2 x3 hf) x2 x3 hf
set_option maxRecDepth 100000 in
set_option maxHeartbeats 200000 in
theorem T_X12_onWhom_0 {X : CX} (hX : Ok X cX12_onWhom 5 RX12 (some .int)) (hdx : dX X = 4) {r : Int32} (x1 : Int32) (h : Hp) (hf : f_X12_onWhom x1 h = some r) : J X ((.inl (some (.int r)), h)) 0 [(0, .ref 30), (1, .int x1)] [] h := by
  unfold f_X12_onWhom at hf
  refine J_iconst hX 0 dX12_onWhom_0 rfl ?_
  refine J_istore_n hX [(2, .int 0), (0, .ref 30), (1, .int x1)] dX12_onWhom_1 rfl rfl rfl ?_
  refine J_iconst hX 0 dX12_onWhom_2 rfl ?_
  refine J_istore_n hX [(3, .int 0), (2, .int 0), (0, .ref 30), (1, .int x1)] dX12_onWhom_3 rfl rfl rfl ?_
  refine J_sub [2, 3, 1, 0] [(0, .ref 30), (1, .int x1), (2, .int 0), (3, .int 0)] rfl ?_
  exact T_X12_onWhom_4 hX hdx h x1 FU 0 0 hf
set_option maxRecDepth 100000 in
set_option maxHeartbeats 200000 in
theorem C_X12_onWhom {G : GX} (hG : GOk G) {x1 : Int32} {h : Hp} {r : Int32} (hf : f_X12_onWhom x1 h = some r) : Ctr G 4 yX12_onWhom cX12_onWhom 5 (some .int) [.ref 30, .int x1] h ((.inl (some (.int r)), h)) :=
  Ctr_of hG RX12 rfl (by decide) rfl (fun X _ hdx hX => T_X12_onWhom_0 hX hdx x1 h hf)
theorem dX12_heldBy_0 : decode cX12_heldBy 0 = .ok (.aload_n 0, 1) := by decide +kernel
theorem dX12_heldBy_1 : decode cX12_heldBy 1 = .ok (.iconst 1, 1) := by decide +kernel
theorem dX12_heldBy_2 : decode cX12_heldBy 2 = .ok (.iload_n 1, 1) := by decide +kernel
theorem dX12_heldBy_3 : decode cX12_heldBy 3 = .ok (.ishl, 1) := by decide +kernel
theorem dX12_heldBy_4 : decode cX12_heldBy 4 = .ok (.invokevirtual 461, 3) := by decide +kernel
theorem dX12_heldBy_7 : decode cX12_heldBy 7 = .ok (.istore_n 2, 1) := by decide +kernel
theorem dX12_heldBy_8 : decode cX12_heldBy 8 = .ok (.iconst 0, 1) := by decide +kernel
theorem dX12_heldBy_9 : decode cX12_heldBy 9 = .ok (.istore_n 3, 1) := by decide +kernel
theorem dX12_heldBy_10 : decode cX12_heldBy 10 = .ok (.iload_n 3, 1) := by decide +kernel
theorem dX12_heldBy_11 : decode cX12_heldBy 11 = .ok (.bipush 8, 2) := by decide +kernel
theorem dX12_heldBy_13 : decode cX12_heldBy 13 = .ok (.if_icmp .ge 17, 3) := by decide +kernel
theorem dX12_heldBy_16 : decode cX12_heldBy 16 = .ok (.iload_n 2, 1) := by decide +kernel
theorem dX12_heldBy_17 : decode cX12_heldBy 17 = .ok (.aload_n 0, 1) := by decide +kernel
theorem dX12_heldBy_18 : decode cX12_heldBy 18 = .ok (.iload_n 2, 1) := by decide +kernel
theorem dX12_heldBy_19 : decode cX12_heldBy 19 = .ok (.invokevirtual 461, 3) := by decide +kernel
theorem dX12_heldBy_22 : decode cX12_heldBy 22 = .ok (.ior, 1) := by decide +kernel
theorem dX12_heldBy_23 : decode cX12_heldBy 23 = .ok (.istore_n 2, 1) := by decide +kernel
theorem dX12_heldBy_24 : decode cX12_heldBy 24 = .ok (.iinc 3 1, 3) := by decide +kernel
theorem dX12_heldBy_27 : decode cX12_heldBy 27 = .ok (.goto (-17), 3) := by decide +kernel
theorem dX12_heldBy_30 : decode cX12_heldBy 30 = .ok (.iload_n 2, 1) := by decide +kernel
theorem dX12_heldBy_31 : decode cX12_heldBy 31 = .ok (.ireturn, 1) := by decide +kernel
set_option maxRecDepth 100000 in
set_option maxHeartbeats 200000 in
theorem T_X12_heldBy_10_s {X : CX} (hX : Ok X cX12_heldBy 4 RX12 (some .int)) (hdx : dX X = 5) {r : Int32} (h : Hp) (q_10 : Int32 → Int32 → Option Int32) (hq_10 : ∀ (x2 : Int32) (x3 : Int32), q_10 x2 x3 = some r → J X ((.inl (some (.int r)), h)) 10 [(0, .ref 30), (2, .int x2), (3, .int x3)] [] h) (x2 : Int32) (x3 : Int32) (hf : S_X12_heldBy_10 h q_10 x2 x3 = some r) : J X ((.inl (some (.int r)), h)) 10 [(0, .ref 30), (2, .int x2), (3, .int x3)] [] h := by
  unfold S_X12_heldBy_10 at hf
  refine J_iload_n hX 2 dX12_heldBy_10 rfl rfl ?_
  refine J_bipush hX 8 dX12_heldBy_11 rfl ?_
  rcases ifE hf with ⟨c_1, hf⟩ | ⟨c_1, hf⟩
  · refine J_icmp_geF hX 30 dX12_heldBy_13 rfl c_1 ?_
    refine J_iload_n hX 1 dX12_heldBy_16 rfl rfl ?_
    refine J_aload_n hX 0 dX12_heldBy_17 rfl rfl ?_
    refine J_iload_n hX 1 dX12_heldBy_18 rfl rfl ?_
    obtain ⟨r_2, e_3, hf⟩ := bdE hf
    refine V_1 hX [.int x2] dX12_heldBy_19 cw_X12_461 ob_30 rfl (C_X12_onWhom (okG hX) e_3) (ltD hdx rfl) rfl rfl rfl rfl ?_
    refine J_ior hX dX12_heldBy_22 ?_
    obtain ⟨x2_4, e_5, hf⟩ := bndE hf
    refine J_nm e_5 ?_
    refine J_istore_n hX [(2, .int x2_4), (0, .ref 30), (3, .int x3)] dX12_heldBy_23 rfl rfl rfl ?_
    refine J_iinc hX (x3 + 1) 2 [(3, .int (x3 + 1)), (2, .int x2_4), (0, .ref 30)] dX12_heldBy_24 rfl rfl rfl rfl ?_
    refine J_goto hX 10 dX12_heldBy_27 rfl ?_
    refine J_sub [2, 1, 0] [(0, .ref 30), (2, .int x2_4), (3, .int (x3 + 1))] rfl ?_
    exact hq_10 x2_4 (x3 + 1) hf
  · refine J_icmp_geT hX 30 dX12_heldBy_13 rfl c_1 ?_
    refine J_iload_n hX 1 dX12_heldBy_30 rfl rfl ?_
    exact E_Ip hX dX12_heldBy_31 hf
set_option maxRecDepth 100000 in
set_option maxHeartbeats 200000 in
theorem T_X12_heldBy_10 {X : CX} (hX : Ok X cX12_heldBy 4 RX12 (some .int)) (hdx : dX X = 5) {r : Int32} (h : Hp) : ∀ (n : Nat) (x2 : Int32) (x3 : Int32), F_X12_heldBy_10 h n x2 x3 = some r → J X ((.inl (some (.int r)), h)) 10 [(0, .ref 30), (2, .int x2), (3, .int x3)] [] h := by
  intro n
  induction n with
  | zero => intro x2 x3 hf; exact nomatch hf
  | succ n ih => intro x2 x3 hf; exact T_X12_heldBy_10_s hX hdx h _ (fun x2 x3 hf => ih x2 x3 hf) x2 x3 hf
set_option maxRecDepth 100000 in
set_option maxHeartbeats 200000 in
theorem T_X12_heldBy_0 {X : CX} (hX : Ok X cX12_heldBy 4 RX12 (some .int)) (hdx : dX X = 5) {r : Int32} (x1 : Int32) (h : Hp) (hf : f_X12_heldBy x1 h = some r) : J X ((.inl (some (.int r)), h)) 0 [(0, .ref 30), (1, .int x1)] [] h := by
  unfold f_X12_heldBy at hf
  refine J_aload_n hX 0 dX12_heldBy_0 rfl rfl ?_
  refine J_iconst hX 1 dX12_heldBy_1 rfl ?_
  refine J_iload_n hX 1 dX12_heldBy_2 rfl rfl ?_
  refine J_ishl hX dX12_heldBy_3 ?_
  obtain ⟨r_1, e_2, hf⟩ := bdE hf
  refine V_1 hX [.int (shl 1 x1)] dX12_heldBy_4 cw_X12_461 ob_30 rfl (C_X12_onWhom (okG hX) e_2) (ltD hdx rfl) rfl rfl rfl rfl ?_
  refine J_istore_n hX [(2, .int r_1), (0, .ref 30), (1, .int x1)] dX12_heldBy_7 rfl rfl rfl ?_
  refine J_iconst hX 0 dX12_heldBy_8 rfl ?_
  refine J_istore_n hX [(3, .int 0), (2, .int r_1), (0, .ref 30), (1, .int x1)] dX12_heldBy_9 rfl rfl rfl ?_
  refine J_sub [2, 1, 0] [(0, .ref 30), (2, .int r_1), (3, .int 0)] rfl ?_
  exact T_X12_heldBy_10 hX hdx h FU r_1 0 hf
set_option maxRecDepth 100000 in
set_option maxHeartbeats 200000 in
theorem C_X12_heldBy {G : GX} (hG : GOk G) {x1 : Int32} {h : Hp} {r : Int32} (hf : f_X12_heldBy x1 h = some r) : Ctr G 5 yX12_heldBy cX12_heldBy 4 (some .int) [.ref 30, .int x1] h ((.inl (some (.int r)), h)) :=
  Ctr_of hG RX12 rfl (by decide) rfl (fun X _ hdx hX => T_X12_heldBy_0 hX hdx x1 h hf)
theorem dX12_ring_0 : decode cX12_ring 0 = .ok (.aload_n 0, 1) := by decide +kernel
theorem dX12_ring_1 : decode cX12_ring 1 = .ok (.iconst 0, 1) := by decide +kernel
theorem dX12_ring_2 : decode cX12_ring 2 = .ok (.putfield 3, 3) := by decide +kernel
theorem dX12_ring_5 : decode cX12_ring 5 = .ok (.aload_n 0, 1) := by decide +kernel
theorem dX12_ring_6 : decode cX12_ring 6 = .ok (.aload_n 0, 1) := by decide +kernel
theorem dX12_ring_7 : decode cX12_ring 7 = .ok (.iload_n 1, 1) := by decide +kernel
theorem dX12_ring_8 : decode cX12_ring 8 = .ok (.invokevirtual 392, 3) := by decide +kernel
theorem dX12_ring_11 : decode cX12_ring 11 = .ok (.iconst 1, 1) := by decide +kernel
theorem dX12_ring_12 : decode cX12_ring 12 = .ok (.invokevirtual 280, 3) := by decide +kernel
theorem dX12_ring_15 : decode cX12_ring 15 = .ok (.ifCond .ne 19, 3) := by decide +kernel
theorem dX12_ring_18 : decode cX12_ring 18 = .ok (.aload_n 0, 1) := by decide +kernel
theorem dX12_ring_19 : decode cX12_ring 19 = .ok (.iload_n 1, 1) := by decide +kernel
theorem dX12_ring_20 : decode cX12_ring 20 = .ok (.invokevirtual 464, 3) := by decide +kernel
theorem dX12_ring_23 : decode cX12_ring 23 = .ok (.iload_n 1, 1) := by decide +kernel
theorem dX12_ring_24 : decode cX12_ring 24 = .ok (.invokestatic 289, 3) := by decide +kernel
theorem dX12_ring_27 : decode cX12_ring 27 = .ok (.ifCond .eq 7, 3) := by decide +kernel
theorem dX12_ring_30 : decode cX12_ring 30 = .ok (.iconst 1, 1) := by decide +kernel
theorem dX12_ring_31 : decode cX12_ring 31 = .ok (.goto 4, 3) := by decide +kernel
theorem dX12_ring_34 : decode cX12_ring 34 = .ok (.iconst 0, 1) := by decide +kernel
theorem dX12_ring_35 : decode cX12_ring 35 = .ok (.ireturn, 1) := by decide +kernel
set_option maxRecDepth 100000 in
set_option maxHeartbeats 200000 in
theorem T_X12_ring_0 {X : CX} (hX : Ok X cX12_ring 2 RX12 (some .boolean)) (hdx : dX X = 6) {r : Bool × Hp} (x1 : Int32) (h : Hp) (hf : f_X12_ring x1 h = some r) : J X ((.inl (some (.int (b2i r.1))), r.2)) 0 [(0, .ref 30), (1, .int x1)] [] h := by
  unfold f_X12_ring at hf
  refine J_aload_n hX 0 dX12_ring_0 rfl rfl ?_
  refine J_iconst hX 0 dX12_ring_1 rfl ?_
  obtain ⟨h_1, e_2, hf⟩ := bndE hf
  refine J_putI hX dX12_ring_2 fl_X12_3 fw_10_0 ob_30 rfl rfl rfl ?_
  refine J_nmh e_2 ?_
  refine J_aload_n hX 0 dX12_ring_5 rfl rfl ?_
  refine J_aload_n hX 0 dX12_ring_6 rfl rfl ?_
  refine J_iload_n hX 1 dX12_ring_7 rfl rfl ?_
  refine V_1 hX [.int x1] dX12_ring_8 cw_X12_392 ob_30 rfl (C_X12_noHouse (okG hX) rfl) (ltD hdx rfl) rfl rfl rfl rfl ?_
  refine J_iconst hX 1 dX12_ring_11 rfl ?_
  obtain ⟨r_3, e_4, hf⟩ := bdE hf
  refine V_1 hX [.int (b2i (f_X12_noHouse x1 h_1)), .int 1] dX12_ring_12 cw_X12_280 ob_30 rfl (C_X12_throwsIf (okG hX) e_4) (ltD hdx rfl) rfl rfl rfl rfl ?_
  rcases ifE hf with ⟨c_5, hf⟩ | ⟨c_5, hf⟩
  · refine J_if_neT hX 34 dX12_ring_15 rfl (b2iT c_5) ?_
    refine J_iconst hX 0 dX12_ring_34 rfl ?_
    exact E_Zi hX dX12_ring_35 rfl hf
  · refine J_if_neF hX 34 dX12_ring_15 rfl (b2iF c_5) ?_
    refine J_aload_n hX 0 dX12_ring_18 rfl rfl ?_
    refine J_iload_n hX 1 dX12_ring_19 rfl rfl ?_
    obtain ⟨r_6, e_7, hf⟩ := bdE hf
    refine V_1 hX [.int x1] dX12_ring_20 cw_X12_464 ob_30 rfl (C_X12_heldBy (okG hX) e_7) (ltD hdx rfl) rfl rfl rfl rfl ?_
    refine J_iload_n hX 1 dX12_ring_23 rfl rfl ?_
    refine S_1 hX [.int r_6, .int x1] dX12_ring_24 cw_X12_289 (C_X12_has (okG hX) rfl) (ltD hdx rfl) rfl rfl rfl rfl ?_
    rcases ifE hf with ⟨c_8, hf⟩ | ⟨c_8, hf⟩
    · refine J_if_eqF hX 34 dX12_ring_27 rfl (b2iT c_8) ?_
      refine J_iconst hX 1 dX12_ring_30 rfl ?_
      refine J_goto hX 35 dX12_ring_31 rfl ?_
      exact E_Zi hX dX12_ring_35 rfl hf
    · refine J_if_eqT hX 34 dX12_ring_27 rfl (b2iF c_8) ?_
      refine J_iconst hX 0 dX12_ring_34 rfl ?_
      exact E_Zi hX dX12_ring_35 rfl hf
set_option maxRecDepth 100000 in
set_option maxHeartbeats 200000 in
theorem C_X12_ring {G : GX} (hG : GOk G) {x1 : Int32} {h : Hp} {r : Bool × Hp} (hf : f_X12_ring x1 h = some r) : Ctr G 6 yX12_ring cX12_ring 2 (some .boolean) [.ref 30, .int x1] h ((.inl (some (.int (b2i r.1))), r.2)) :=
  Ctr_of hG RX12 rfl (by decide) rfl (fun X _ hdx hX => T_X12_ring_0 hX hdx x1 h hf)
theorem dX12_held_0 : decode cX12_held 0 = .ok (.aload_n 0, 1) := by decide +kernel
theorem dX12_held_1 : decode cX12_held 1 = .ok (.iconst 0, 1) := by decide +kernel
theorem dX12_held_2 : decode cX12_held 2 = .ok (.putfield 3, 3) := by decide +kernel
theorem dX12_held_5 : decode cX12_held 5 = .ok (.aload_n 0, 1) := by decide +kernel
theorem dX12_held_6 : decode cX12_held 6 = .ok (.aload_n 0, 1) := by decide +kernel
theorem dX12_held_7 : decode cX12_held 7 = .ok (.iload_n 1, 1) := by decide +kernel
theorem dX12_held_8 : decode cX12_held 8 = .ok (.invokevirtual 392, 3) := by decide +kernel
theorem dX12_held_11 : decode cX12_held 11 = .ok (.iconst 1, 1) := by decide +kernel
theorem dX12_held_12 : decode cX12_held 12 = .ok (.invokevirtual 280, 3) := by decide +kernel
theorem dX12_held_15 : decode cX12_held 15 = .ok (.ifCond .eq 7, 3) := by decide +kernel
theorem dX12_held_18 : decode cX12_held 18 = .ok (.iconst 0, 1) := by decide +kernel
theorem dX12_held_19 : decode cX12_held 19 = .ok (.goto 8, 3) := by decide +kernel
theorem dX12_held_22 : decode cX12_held 22 = .ok (.aload_n 0, 1) := by decide +kernel
theorem dX12_held_23 : decode cX12_held 23 = .ok (.iload_n 1, 1) := by decide +kernel
theorem dX12_held_24 : decode cX12_held 24 = .ok (.invokevirtual 464, 3) := by decide +kernel
theorem dX12_held_27 : decode cX12_held 27 = .ok (.ireturn, 1) := by decide +kernel
set_option maxRecDepth 100000 in
set_option maxHeartbeats 200000 in
theorem T_X12_held_0 {X : CX} (hX : Ok X cX12_held 2 RX12 (some .int)) (hdx : dX X = 6) {r : Int32 × Hp} (x1 : Int32) (h : Hp) (hf : f_X12_held x1 h = some r) : J X ((.inl (some (.int r.1)), r.2)) 0 [(0, .ref 30), (1, .int x1)] [] h := by
  unfold f_X12_held at hf
  refine J_aload_n hX 0 dX12_held_0 rfl rfl ?_
  refine J_iconst hX 0 dX12_held_1 rfl ?_
  obtain ⟨h_1, e_2, hf⟩ := bndE hf
  refine J_putI hX dX12_held_2 fl_X12_3 fw_10_0 ob_30 rfl rfl rfl ?_
  refine J_nmh e_2 ?_
  refine J_aload_n hX 0 dX12_held_5 rfl rfl ?_
  refine J_aload_n hX 0 dX12_held_6 rfl rfl ?_
  refine J_iload_n hX 1 dX12_held_7 rfl rfl ?_
  refine V_1 hX [.int x1] dX12_held_8 cw_X12_392 ob_30 rfl (C_X12_noHouse (okG hX) rfl) (ltD hdx rfl) rfl rfl rfl rfl ?_
  refine J_iconst hX 1 dX12_held_11 rfl ?_
  obtain ⟨r_3, e_4, hf⟩ := bdE hf
  refine V_1 hX [.int (b2i (f_X12_noHouse x1 h_1)), .int 1] dX12_held_12 cw_X12_280 ob_30 rfl (C_X12_throwsIf (okG hX) e_4) (ltD hdx rfl) rfl rfl rfl rfl ?_
  rcases ifE hf with ⟨c_5, hf⟩ | ⟨c_5, hf⟩
  · refine J_if_eqF hX 22 dX12_held_15 rfl (b2iT c_5) ?_
    refine J_iconst hX 0 dX12_held_18 rfl ?_
    refine J_goto hX 27 dX12_held_19 rfl ?_
    exact E_Ii hX dX12_held_27 hf
  · refine J_if_eqT hX 22 dX12_held_15 rfl (b2iF c_5) ?_
    refine J_aload_n hX 0 dX12_held_22 rfl rfl ?_
    refine J_iload_n hX 1 dX12_held_23 rfl rfl ?_
    obtain ⟨r_6, e_7, hf⟩ := bdE hf
    refine V_1 hX [.int x1] dX12_held_24 cw_X12_464 ob_30 rfl (C_X12_heldBy (okG hX) e_7) (ltD hdx rfl) rfl rfl rfl rfl ?_
    exact E_Ii hX dX12_held_27 hf
set_option maxRecDepth 100000 in
set_option maxHeartbeats 200000 in
theorem C_X12_held {G : GX} (hG : GOk G) {x1 : Int32} {h : Hp} {r : Int32 × Hp} (hf : f_X12_held x1 h = some r) : Ctr G 6 yX12_held cX12_held 2 (some .int) [.ref 30, .int x1] h ((.inl (some (.int r.1)), r.2)) :=
  Ctr_of hG RX12 rfl (by decide) rfl (fun X _ hdx hX => T_X12_held_0 hX hdx x1 h hf)
theorem dX12_ends_0 : decode cX12_ends 0 = .ok (.aload_n 0, 1) := by decide +kernel
theorem dX12_ends_1 : decode cX12_ends 1 = .ok (.iconst 0, 1) := by decide +kernel
theorem dX12_ends_2 : decode cX12_ends 2 = .ok (.putfield 3, 3) := by decide +kernel
theorem dX12_ends_5 : decode cX12_ends 5 = .ok (.iconst 0, 1) := by decide +kernel
theorem dX12_ends_6 : decode cX12_ends 6 = .ok (.istore_n 1, 1) := by decide +kernel
theorem dX12_ends_7 : decode cX12_ends 7 = .ok (.iconst 0, 1) := by decide +kernel
theorem dX12_ends_8 : decode cX12_ends 8 = .ok (.istore_n 2, 1) := by decide +kernel
theorem dX12_ends_9 : decode cX12_ends 9 = .ok (.iload_n 2, 1) := by decide +kernel
theorem dX12_ends_10 : decode cX12_ends 10 = .ok (.aload_n 0, 1) := by decide +kernel
theorem dX12_ends_11 : decode cX12_ends 11 = .ok (.invokevirtual 87, 3) := by decide +kernel
theorem dX12_ends_14 : decode cX12_ends 14 = .ok (.if_icmp .ge 35, 3) := by decide +kernel
theorem dX12_ends_17 : decode cX12_ends 17 = .ok (.iload_n 1, 1) := by decide +kernel
theorem dX12_ends_18 : decode cX12_ends 18 = .ok (.aload_n 0, 1) := by decide +kernel
theorem dX12_ends_19 : decode cX12_ends 19 = .ok (.iload_n 2, 1) := by decide +kernel
theorem dX12_ends_20 : decode cX12_ends 20 = .ok (.invokevirtual 91, 3) := by decide +kernel
theorem dX12_ends_23 : decode cX12_ends 23 = .ok (.ifCond .ne 17, 3) := by decide +kernel
theorem dX12_ends_26 : decode cX12_ends 26 = .ok (.aload_n 0, 1) := by decide +kernel
theorem dX12_ends_27 : decode cX12_ends 27 = .ok (.iload_n 2, 1) := by decide +kernel
theorem dX12_ends_28 : decode cX12_ends 28 = .ok (.invokevirtual 106, 3) := by decide +kernel
theorem dX12_ends_31 : decode cX12_ends 31 = .ok (.ifCond .ne 9, 3) := by decide +kernel
theorem dX12_ends_34 : decode cX12_ends 34 = .ok (.iconst 1, 1) := by decide +kernel
theorem dX12_ends_35 : decode cX12_ends 35 = .ok (.iload_n 2, 1) := by decide +kernel
theorem dX12_ends_36 : decode cX12_ends 36 = .ok (.ishl, 1) := by decide +kernel
theorem dX12_ends_37 : decode cX12_ends 37 = .ok (.goto 4, 3) := by decide +kernel
theorem dX12_ends_40 : decode cX12_ends 40 = .ok (.iconst 0, 1) := by decide +kernel
theorem dX12_ends_41 : decode cX12_ends 41 = .ok (.ior, 1) := by decide +kernel
theorem dX12_ends_42 : decode cX12_ends 42 = .ok (.istore_n 1, 1) := by decide +kernel
theorem dX12_ends_43 : decode cX12_ends 43 = .ok (.iinc 2 1, 3) := by decide +kernel
theorem dX12_ends_46 : decode cX12_ends 46 = .ok (.goto (-37), 3) := by decide +kernel
theorem dX12_ends_49 : decode cX12_ends 49 = .ok (.iload_n 1, 1) := by decide +kernel
theorem dX12_ends_50 : decode cX12_ends 50 = .ok (.ireturn, 1) := by decide +kernel
set_option maxRecDepth 100000 in
set_option maxHeartbeats 200000 in
theorem T_X12_ends_41 {X : CX} (hX : Ok X cX12_ends 3 RX12 (some .int)) (hdx : dX X = 5) {r : Int32 × Hp} (x2 : Int32) (t0 : Int32) (t1 : Int32) (q_9 : Int32 → Int32 → Hp → Option (Int32 × Hp)) (hq_9 : ∀ (x1 : Int32) (x2 : Int32) (h : Hp), q_9 x1 x2 h = some r → J X ((.inl (some (.int r.1)), r.2)) 9 [(0, .ref 30), (1, .int x1), (2, .int x2)] [] h) (h : Hp) (hf : F_X12_ends_41 q_9 x2 t0 t1 h = some r) : J X ((.inl (some (.int r.1)), r.2)) 41 [(0, .ref 30), (2, .int x2)] [.int t0, .int t1] h := by
  unfold F_X12_ends_41 at hf
  refine J_ior hX dX12_ends_41 ?_
  obtain ⟨x1_1, e_2, hf⟩ := bndE hf
  refine J_nm e_2 ?_
  refine J_istore_n hX [(1, .int x1_1), (0, .ref 30), (2, .int x2)] dX12_ends_42 rfl rfl rfl ?_
  refine J_iinc hX (x2 + 1) 2 [(2, .int (x2 + 1)), (1, .int x1_1), (0, .ref 30)] dX12_ends_43 rfl rfl rfl rfl ?_
  refine J_goto hX 9 dX12_ends_46 rfl ?_
  refine J_sub [2, 1, 0] [(0, .ref 30), (1, .int x1_1), (2, .int (x2 + 1))] rfl ?_
  exact hq_9 x1_1 (x2 + 1) h hf
set_option maxRecDepth 100000 in
set_option maxHeartbeats 200000 in
theorem T_X12_ends_9_s {X : CX} (hX : Ok X cX12_ends 3 RX12 (some .int)) (hdx : dX X = 5) {r : Int32 × Hp} (q_9 : Int32 → Int32 → Hp → Option (Int32 × Hp)) (hq_9 : ∀ (x1 : Int32) (x2 : Int32) (h : Hp), q_9 x1 x2 h = some r → J X ((.inl (some (.int r.1)), r.2)) 9 [(0, .ref 30), (1, .int x1), (2, .int x2)] [] h) (x1 : Int32) (x2 : Int32) (h : Hp) (hf : S_X12_ends_9 q_9 x1 x2 h = some r) : J X ((.inl (some (.int r.1)), r.2)) 9 [(0, .ref 30), (1, .int x1), (2, .int x2)] [] h := by
  unfold S_X12_ends_9 at hf
  refine J_iload_n hX 2 dX12_ends_9 rfl rfl ?_
  refine J_aload_n hX 0 dX12_ends_10 rfl rfl ?_
  refine V_1 hX [] dX12_ends_11 cw_X12_87 ob_30 rfl (C_X12_houses (okG hX) rfl) (ltD hdx rfl) rfl rfl rfl rfl ?_
  rcases ifE hf with ⟨c_1, hf⟩ | ⟨c_1, hf⟩
  · refine J_icmp_geF hX 49 dX12_ends_14 rfl c_1 ?_
    refine J_iload_n hX 1 dX12_ends_17 rfl rfl ?_
    refine J_aload_n hX 0 dX12_ends_18 rfl rfl ?_
    refine J_iload_n hX 2 dX12_ends_19 rfl rfl ?_
    obtain ⟨r_2, e_3, hf⟩ := bdE hf
    refine V_1 hX [.int x2] dX12_ends_20 cw_X12_91 ob_30 rfl (C_X12_isFallen (okG hX) e_3) (ltD hdx rfl) rfl rfl rfl rfl ?_
    rcases ifE hf with ⟨c_4, hf⟩ | ⟨c_4, hf⟩
    · refine J_if_neT hX 40 dX12_ends_23 rfl (b2iT c_4) ?_
      refine J_iconst hX 0 dX12_ends_40 rfl ?_
      refine J_sub [0, 2] [(0, .ref 30), (2, .int x2)] rfl ?_
      exact T_X12_ends_41 hX hdx x2 0 x1 q_9 hq_9 h hf
    · refine J_if_neF hX 40 dX12_ends_23 rfl (b2iF c_4) ?_
      refine J_aload_n hX 0 dX12_ends_26 rfl rfl ?_
      refine J_iload_n hX 2 dX12_ends_27 rfl rfl ?_
      obtain ⟨r_5, e_6, hf⟩ := bdE hf
      refine V_1 hX [.int x2] dX12_ends_28 cw_X12_106 ob_30 rfl (C_X12_partsOf (okG hX) e_6) (ltD hdx rfl) rfl rfl rfl rfl ?_
      rcases ifE hf with ⟨c_7, hf⟩ | ⟨c_7, hf⟩
      · refine J_if_neF hX 40 dX12_ends_31 rfl c_7 ?_
        refine J_iconst hX 1 dX12_ends_34 rfl ?_
        refine J_iload_n hX 2 dX12_ends_35 rfl rfl ?_
        refine J_ishl hX dX12_ends_36 ?_
        refine J_goto hX 41 dX12_ends_37 rfl ?_
        refine J_sub [0, 2] [(0, .ref 30), (2, .int x2)] rfl ?_
        exact T_X12_ends_41 hX hdx x2 (shl 1 x2) x1 q_9 hq_9 h hf
      · refine J_if_neT hX 40 dX12_ends_31 rfl c_7 ?_
        refine J_iconst hX 0 dX12_ends_40 rfl ?_
        refine J_sub [0, 2] [(0, .ref 30), (2, .int x2)] rfl ?_
        exact T_X12_ends_41 hX hdx x2 0 x1 q_9 hq_9 h hf
  · refine J_icmp_geT hX 49 dX12_ends_14 rfl c_1 ?_
    refine J_iload_n hX 1 dX12_ends_49 rfl rfl ?_
    exact E_Ii hX dX12_ends_50 hf
set_option maxRecDepth 100000 in
set_option maxHeartbeats 200000 in
theorem T_X12_ends_9 {X : CX} (hX : Ok X cX12_ends 3 RX12 (some .int)) (hdx : dX X = 5) {r : Int32 × Hp} : ∀ (n : Nat) (x1 : Int32) (x2 : Int32) (h : Hp), F_X12_ends_9 n x1 x2 h = some r → J X ((.inl (some (.int r.1)), r.2)) 9 [(0, .ref 30), (1, .int x1), (2, .int x2)] [] h := by
  intro n
  induction n with
  | zero => intro x1 x2 h hf; exact nomatch hf
  | succ n ih => intro x1 x2 h hf; exact T_X12_ends_9_s hX hdx _ (fun x1 x2 h hf => ih x1 x2 h hf) x1 x2 h hf
set_option maxRecDepth 100000 in
set_option maxHeartbeats 200000 in
theorem T_X12_ends_0 {X : CX} (hX : Ok X cX12_ends 3 RX12 (some .int)) (hdx : dX X = 5) {r : Int32 × Hp} (h : Hp) (hf : f_X12_ends h = some r) : J X ((.inl (some (.int r.1)), r.2)) 0 [(0, .ref 30)] [] h := by
  unfold f_X12_ends at hf
  refine J_aload_n hX 0 dX12_ends_0 rfl rfl ?_
  refine J_iconst hX 0 dX12_ends_1 rfl ?_
  obtain ⟨h_1, e_2, hf⟩ := bndE hf
  refine J_putI hX dX12_ends_2 fl_X12_3 fw_10_0 ob_30 rfl rfl rfl ?_
  refine J_nmh e_2 ?_
  refine J_iconst hX 0 dX12_ends_5 rfl ?_
  refine J_istore_n hX [(1, .int 0), (0, .ref 30)] dX12_ends_6 rfl rfl rfl ?_
  refine J_iconst hX 0 dX12_ends_7 rfl ?_
  refine J_istore_n hX [(2, .int 0), (1, .int 0), (0, .ref 30)] dX12_ends_8 rfl rfl rfl ?_
  refine J_sub [2, 1, 0] [(0, .ref 30), (1, .int 0), (2, .int 0)] rfl ?_
  exact T_X12_ends_9 hX hdx FU 0 0 h_1 hf
set_option maxRecDepth 100000 in
set_option maxHeartbeats 200000 in
theorem C_X12_ends {G : GX} (hG : GOk G) {h : Hp} {r : Int32 × Hp} (hf : f_X12_ends h = some r) : Ctr G 5 yX12_ends cX12_ends 3 (some .int) [.ref 30] h ((.inl (some (.int r.1)), r.2)) :=
  Ctr_of hG RX12 rfl (by decide) rfl (fun X _ hdx hX => T_X12_ends_0 hX hdx h hf)
theorem dX12_pieceOf_0 : decode cX12_pieceOf 0 = .ok (.iconst 1, 1) := by decide +kernel
theorem dX12_pieceOf_1 : decode cX12_pieceOf 1 = .ok (.iload_n 1, 1) := by decide +kernel
theorem dX12_pieceOf_2 : decode cX12_pieceOf 2 = .ok (.ishl, 1) := by decide +kernel
theorem dX12_pieceOf_3 : decode cX12_pieceOf 3 = .ok (.iload_n 2, 1) := by decide +kernel
theorem dX12_pieceOf_4 : decode cX12_pieceOf 4 = .ok (.iand, 1) := by decide +kernel
theorem dX12_pieceOf_5 : decode cX12_pieceOf 5 = .ok (.istore_n 3, 1) := by decide +kernel
theorem dX12_pieceOf_6 : decode cX12_pieceOf 6 = .ok (.iconst 0, 1) := by decide +kernel
theorem dX12_pieceOf_7 : decode cX12_pieceOf 7 = .ok (.istore 4, 2) := by decide +kernel
theorem dX12_pieceOf_9 : decode cX12_pieceOf 9 = .ok (.iload 4, 2) := by decide +kernel
theorem dX12_pieceOf_11 : decode cX12_pieceOf 11 = .ok (.bipush 8, 2) := by decide +kernel
theorem dX12_pieceOf_13 : decode cX12_pieceOf 13 = .ok (.if_icmp .ge 92, 3) := by decide +kernel
theorem dX12_pieceOf_16 : decode cX12_pieceOf 16 = .ok (.iconst 0, 1) := by decide +kernel
theorem dX12_pieceOf_17 : decode cX12_pieceOf 17 = .ok (.istore 5, 2) := by decide +kernel
theorem dX12_pieceOf_19 : decode cX12_pieceOf 19 = .ok (.iload 5, 2) := by decide +kernel
theorem dX12_pieceOf_21 : decode cX12_pieceOf 21 = .ok (.aload_n 0, 1) := by decide +kernel
theorem dX12_pieceOf_22 : decode cX12_pieceOf 22 = .ok (.invokevirtual 87, 3) := by decide +kernel
theorem dX12_pieceOf_25 : decode cX12_pieceOf 25 = .ok (.if_icmp .ge 74, 3) := by decide +kernel
theorem dX12_pieceOf_28 : decode cX12_pieceOf 28 = .ok (.iconst 0, 1) := by decide +kernel
theorem dX12_pieceOf_29 : decode cX12_pieceOf 29 = .ok (.istore 6, 2) := by decide +kernel
theorem dX12_pieceOf_31 : decode cX12_pieceOf 31 = .ok (.iload 6, 2) := by decide +kernel
theorem dX12_pieceOf_33 : decode cX12_pieceOf 33 = .ok (.aload_n 0, 1) := by decide +kernel
theorem dX12_pieceOf_34 : decode cX12_pieceOf 34 = .ok (.invokevirtual 87, 3) := by decide +kernel
theorem dX12_pieceOf_37 : decode cX12_pieceOf 37 = .ok (.if_icmp .ge 56, 3) := by decide +kernel
theorem dX12_pieceOf_40 : decode cX12_pieceOf 40 = .ok (.iload_n 3, 1) := by decide +kernel
theorem dX12_pieceOf_41 : decode cX12_pieceOf 41 = .ok (.iload 5, 2) := by decide +kernel
theorem dX12_pieceOf_43 : decode cX12_pieceOf 43 = .ok (.invokestatic 289, 3) := by decide +kernel
theorem dX12_pieceOf_46 : decode cX12_pieceOf 46 = .ok (.ifCond .eq 41, 3) := by decide +kernel
theorem dX12_pieceOf_49 : decode cX12_pieceOf 49 = .ok (.iload_n 2, 1) := by decide +kernel
theorem dX12_pieceOf_50 : decode cX12_pieceOf 50 = .ok (.iload 6, 2) := by decide +kernel
theorem dX12_pieceOf_52 : decode cX12_pieceOf 52 = .ok (.invokestatic 289, 3) := by decide +kernel
theorem dX12_pieceOf_55 : decode cX12_pieceOf 55 = .ok (.ifCond .eq 32, 3) := by decide +kernel
theorem dX12_pieceOf_58 : decode cX12_pieceOf 58 = .ok (.aload_n 0, 1) := by decide +kernel
theorem dX12_pieceOf_59 : decode cX12_pieceOf 59 = .ok (.iload 5, 2) := by decide +kernel
theorem dX12_pieceOf_61 : decode cX12_pieceOf 61 = .ok (.iload 6, 2) := by decide +kernel
theorem dX12_pieceOf_63 : decode cX12_pieceOf 63 = .ok (.invokevirtual 103, 3) := by decide +kernel
theorem dX12_pieceOf_66 : decode cX12_pieceOf 66 = .ok (.ifCond .gt 14, 3) := by decide +kernel
theorem dX12_pieceOf_69 : decode cX12_pieceOf 69 = .ok (.aload_n 0, 1) := by decide +kernel
theorem dX12_pieceOf_70 : decode cX12_pieceOf 70 = .ok (.iload 6, 2) := by decide +kernel
theorem dX12_pieceOf_72 : decode cX12_pieceOf 72 = .ok (.iload 5, 2) := by decide +kernel
theorem dX12_pieceOf_74 : decode cX12_pieceOf 74 = .ok (.invokevirtual 103, 3) := by decide +kernel
theorem dX12_pieceOf_77 : decode cX12_pieceOf 77 = .ok (.ifCond .le 10, 3) := by decide +kernel
theorem dX12_pieceOf_80 : decode cX12_pieceOf 80 = .ok (.iload_n 3, 1) := by decide +kernel
theorem dX12_pieceOf_81 : decode cX12_pieceOf 81 = .ok (.iconst 1, 1) := by decide +kernel
theorem dX12_pieceOf_82 : decode cX12_pieceOf 82 = .ok (.iload 6, 2) := by decide +kernel
theorem dX12_pieceOf_84 : decode cX12_pieceOf 84 = .ok (.ishl, 1) := by decide +kernel
theorem dX12_pieceOf_85 : decode cX12_pieceOf 85 = .ok (.ior, 1) := by decide +kernel
theorem dX12_pieceOf_86 : decode cX12_pieceOf 86 = .ok (.istore_n 3, 1) := by decide +kernel
theorem dX12_pieceOf_87 : decode cX12_pieceOf 87 = .ok (.iinc 6 1, 3) := by decide +kernel
theorem dX12_pieceOf_90 : decode cX12_pieceOf 90 = .ok (.goto (-59), 3) := by decide +kernel
theorem dX12_pieceOf_93 : decode cX12_pieceOf 93 = .ok (.iinc 5 1, 3) := by decide +kernel
theorem dX12_pieceOf_96 : decode cX12_pieceOf 96 = .ok (.goto (-77), 3) := by decide +kernel
theorem dX12_pieceOf_99 : decode cX12_pieceOf 99 = .ok (.iinc 4 1, 3) := by decide +kernel
theorem dX12_pieceOf_102 : decode cX12_pieceOf 102 = .ok (.goto (-93), 3) := by decide +kernel
theorem dX12_pieceOf_105 : decode cX12_pieceOf 105 = .ok (.iload_n 3, 1) := by decide +kernel
theorem dX12_pieceOf_106 : decode cX12_pieceOf 106 = .ok (.ireturn, 1) := by decide +kernel
set_option maxRecDepth 100000 in
set_option maxHeartbeats 200000 in
theorem T_X12_pieceOf_80 {X : CX} (hX : Ok X cX12_pieceOf 7 RX12 (some .int)) (hdx : dX X = 4) {r : Int32} (h : Hp) (x2 : Int32) (x3 : Int32) (x4 : Int32) (x5 : Int32) (x6 : Int32) (q_9 : Int32 → Int32 → Option Int32) (hq_9 : ∀ (x3 : Int32) (x4 : Int32), q_9 x3 x4 = some r → J X ((.inl (some (.int r)), h)) 9 [(0, .ref 30), (2, .int x2), (3, .int x3), (4, .int x4)] [] h) (q_19 : Int32 → Int32 → Option Int32) (hq_19 : ∀ (x3 : Int32) (x5 : Int32), q_19 x3 x5 = some r → J X ((.inl (some (.int r)), h)) 19 [(0, .ref 30), (2, .int x2), (3, .int x3), (4, .int x4), (5, .int x5)] [] h) (q_31 : Int32 → Int32 → Option Int32) (hq_31 : ∀ (x3 : Int32) (x6 : Int32), q_31 x3 x6 = some r → J X ((.inl (some (.int r)), h)) 31 [(0, .ref 30), (2, .int x2), (3, .int x3), (4, .int x4), (5, .int x5), (6, .int x6)] [] h) (hf : F_X12_pieceOf_80 q_9 q_19 q_31 h x2 x3 x4 x5 x6 = some r) : J X ((.inl (some (.int r)), h)) 80 [(0, .ref 30), (2, .int x2), (3, .int x3), (4, .int x4), (5, .int x5), (6, .int x6)] [] h := by
  unfold F_X12_pieceOf_80 at hf
  refine J_iload_n hX 2 dX12_pieceOf_80 rfl rfl ?_
  refine J_iconst hX 1 dX12_pieceOf_81 rfl ?_
  refine J_iload hX 5 dX12_pieceOf_82 rfl ?_
  refine J_ishl hX dX12_pieceOf_84 ?_
  refine J_ior hX dX12_pieceOf_85 ?_
  obtain ⟨x3_1, e_2, hf⟩ := bndE hf
  refine J_nm e_2 ?_
  refine J_istore_n hX [(3, .int x3_1), (0, .ref 30), (2, .int x2), (4, .int x4), (5, .int x5), (6, .int x6)] dX12_pieceOf_86 rfl rfl rfl ?_
  refine J_iinc hX (x6 + 1) 5 [(6, .int (x6 + 1)), (3, .int x3_1), (0, .ref 30), (2, .int x2), (4, .int x4), (5, .int x5)] dX12_pieceOf_87 rfl rfl rfl rfl ?_
  refine J_goto hX 31 dX12_pieceOf_90 rfl ?_
  refine J_sub [2, 3, 1, 4, 5, 0] [(0, .ref 30), (2, .int x2), (3, .int x3_1), (4, .int x4), (5, .int x5), (6, .int (x6 + 1))] rfl ?_
  exact hq_31 x3_1 (x6 + 1) hf
set_option maxRecDepth 100000 in
set_option maxHeartbeats 200000 in
theorem T_X12_pieceOf_31_s {X : CX} (hX : Ok X cX12_pieceOf 7 RX12 (some .int)) (hdx : dX X = 4) {r : Int32} (h : Hp) (x2 : Int32) (x4 : Int32) (x5 : Int32) (q_9 : Int32 → Int32 → Option Int32) (hq_9 : ∀ (x3 : Int32) (x4 : Int32), q_9 x3 x4 = some r → J X ((.inl (some (.int r)), h)) 9 [(0, .ref 30), (2, .int x2), (3, .int x3), (4, .int x4)] [] h) (q_19 : Int32 → Int32 → Option Int32) (hq_19 : ∀ (x3 : Int32) (x5 : Int32), q_19 x3 x5 = some r → J X ((.inl (some (.int r)), h)) 19 [(0, .ref 30), (2, .int x2), (3, .int x3), (4, .int x4), (5, .int x5)] [] h) (q_31 : Int32 → Int32 → Option Int32) (hq_31 : ∀ (x3 : Int32) (x6 : Int32), q_31 x3 x6 = some r → J X ((.inl (some (.int r)), h)) 31 [(0, .ref 30), (2, .int x2), (3, .int x3), (4, .int x4), (5, .int x5), (6, .int x6)] [] h) (x3 : Int32) (x6 : Int32) (hf : S_X12_pieceOf_31 q_9 q_19 h x2 x4 x5 q_31 x3 x6 = some r) : J X ((.inl (some (.int r)), h)) 31 [(0, .ref 30), (2, .int x2), (3, .int x3), (4, .int x4), (5, .int x5), (6, .int x6)] [] h := by
  unfold S_X12_pieceOf_31 at hf
  refine J_iload hX 5 dX12_pieceOf_31 rfl ?_
  refine J_aload_n hX 0 dX12_pieceOf_33 rfl rfl ?_
  refine V_1 hX [] dX12_pieceOf_34 cw_X12_87 ob_30 rfl (C_X12_houses (okG hX) rfl) (ltD hdx rfl) rfl rfl rfl rfl ?_
  rcases ifE hf with ⟨c_1, hf⟩ | ⟨c_1, hf⟩
  · refine J_icmp_geF hX 93 dX12_pieceOf_37 rfl c_1 ?_
    refine J_iload_n hX 2 dX12_pieceOf_40 rfl rfl ?_
    refine J_iload hX 4 dX12_pieceOf_41 rfl ?_
    refine S_1 hX [.int x3, .int x5] dX12_pieceOf_43 cw_X12_289 (C_X12_has (okG hX) rfl) (ltD hdx rfl) rfl rfl rfl rfl ?_
    rcases ifE hf with ⟨c_2, hf⟩ | ⟨c_2, hf⟩
    · refine J_if_eqF hX 87 dX12_pieceOf_46 rfl (b2iT c_2) ?_
      refine J_iload_n hX 1 dX12_pieceOf_49 rfl rfl ?_
      refine J_iload hX 5 dX12_pieceOf_50 rfl ?_
      refine S_1 hX [.int x2, .int x6] dX12_pieceOf_52 cw_X12_289 (C_X12_has (okG hX) rfl) (ltD hdx rfl) rfl rfl rfl rfl ?_
      rcases ifE hf with ⟨c_3, hf⟩ | ⟨c_3, hf⟩
      · refine J_if_eqF hX 87 dX12_pieceOf_55 rfl (b2iT c_3) ?_
        refine J_aload_n hX 0 dX12_pieceOf_58 rfl rfl ?_
        refine J_iload hX 4 dX12_pieceOf_59 rfl ?_
        refine J_iload hX 5 dX12_pieceOf_61 rfl ?_
        obtain ⟨r_4, e_5, hf⟩ := bdE hf
        refine V_1 hX [.int x5, .int x6] dX12_pieceOf_63 cw_X12_103 ob_30 rfl (C_X12_partOf (okG hX) e_5) (ltD hdx rfl) rfl rfl rfl rfl ?_
        rcases ifE hf with ⟨c_6, hf⟩ | ⟨c_6, hf⟩
        · refine J_if_gtT hX 80 dX12_pieceOf_66 rfl c_6 ?_
          exact T_X12_pieceOf_80 hX hdx h x2 x3 x4 x5 x6 q_9 hq_9 q_19 hq_19 q_31 hq_31 hf
        · refine J_if_gtF hX 80 dX12_pieceOf_66 rfl c_6 ?_
          refine J_aload_n hX 0 dX12_pieceOf_69 rfl rfl ?_
          refine J_iload hX 5 dX12_pieceOf_70 rfl ?_
          refine J_iload hX 4 dX12_pieceOf_72 rfl ?_
          obtain ⟨r_7, e_8, hf⟩ := bdE hf
          refine V_1 hX [.int x6, .int x5] dX12_pieceOf_74 cw_X12_103 ob_30 rfl (C_X12_partOf (okG hX) e_8) (ltD hdx rfl) rfl rfl rfl rfl ?_
          rcases ifE hf with ⟨c_9, hf⟩ | ⟨c_9, hf⟩
          · refine J_if_leF hX 87 dX12_pieceOf_77 rfl c_9 ?_
            exact T_X12_pieceOf_80 hX hdx h x2 x3 x4 x5 x6 q_9 hq_9 q_19 hq_19 q_31 hq_31 hf
          · refine J_if_leT hX 87 dX12_pieceOf_77 rfl c_9 ?_
            refine J_iinc hX (x6 + 1) 5 [(6, .int (x6 + 1)), (0, .ref 30), (2, .int x2), (3, .int x3), (4, .int x4), (5, .int x5)] dX12_pieceOf_87 rfl rfl rfl rfl ?_
            refine J_goto hX 31 dX12_pieceOf_90 rfl ?_
            refine J_sub [1, 2, 3, 4, 5, 0] [(0, .ref 30), (2, .int x2), (3, .int x3), (4, .int x4), (5, .int x5), (6, .int (x6 + 1))] rfl ?_
            exact hq_31 x3 (x6 + 1) hf
      · refine J_if_eqT hX 87 dX12_pieceOf_55 rfl (b2iF c_3) ?_
        refine J_iinc hX (x6 + 1) 5 [(6, .int (x6 + 1)), (0, .ref 30), (2, .int x2), (3, .int x3), (4, .int x4), (5, .int x5)] dX12_pieceOf_87 rfl rfl rfl rfl ?_
        refine J_goto hX 31 dX12_pieceOf_90 rfl ?_
        refine J_sub [1, 2, 3, 4, 5, 0] [(0, .ref 30), (2, .int x2), (3, .int x3), (4, .int x4), (5, .int x5), (6, .int (x6 + 1))] rfl ?_
        exact hq_31 x3 (x6 + 1) hf
    · refine J_if_eqT hX 87 dX12_pieceOf_46 rfl (b2iF c_2) ?_
      refine J_iinc hX (x6 + 1) 5 [(6, .int (x6 + 1)), (0, .ref 30), (2, .int x2), (3, .int x3), (4, .int x4), (5, .int x5)] dX12_pieceOf_87 rfl rfl rfl rfl ?_
      refine J_goto hX 31 dX12_pieceOf_90 rfl ?_
      refine J_sub [1, 2, 3, 4, 5, 0] [(0, .ref 30), (2, .int x2), (3, .int x3), (4, .int x4), (5, .int x5), (6, .int (x6 + 1))] rfl ?_
      exact hq_31 x3 (x6 + 1) hf
  · refine J_icmp_geT hX 93 dX12_pieceOf_37 rfl c_1 ?_
    refine J_iinc hX (x5 + 1) 4 [(5, .int (x5 + 1)), (0, .ref 30), (2, .int x2), (3, .int x3), (4, .int x4), (6, .int x6)] dX12_pieceOf_93 rfl rfl rfl rfl ?_
    refine J_goto hX 19 dX12_pieceOf_96 rfl ?_
    refine J_sub [1, 2, 3, 4, 0] [(0, .ref 30), (2, .int x2), (3, .int x3), (4, .int x4), (5, .int (x5 + 1))] rfl ?_
    exact hq_19 x3 (x5 + 1) hf
set_option maxRecDepth 100000 in
set_option maxHeartbeats 200000 in
theorem T_X12_pieceOf_31 {X : CX} (hX : Ok X cX12_pieceOf 7 RX12 (some .int)) (hdx : dX X = 4) {r : Int32} (h : Hp) (x2 : Int32) (x4 : Int32) (x5 : Int32) (q_9 : Int32 → Int32 → Option Int32) (hq_9 : ∀ (x3 : Int32) (x4 : Int32), q_9 x3 x4 = some r → J X ((.inl (some (.int r)), h)) 9 [(0, .ref 30), (2, .int x2), (3, .int x3), (4, .int x4)] [] h) (q_19 : Int32 → Int32 → Option Int32) (hq_19 : ∀ (x3 : Int32) (x5 : Int32), q_19 x3 x5 = some r → J X ((.inl (some (.int r)), h)) 19 [(0, .ref 30), (2, .int x2), (3, .int x3), (4, .int x4), (5, .int x5)] [] h) : ∀ (n : Nat) (x3 : Int32) (x6 : Int32), F_X12_pieceOf_31 q_9 q_19 h x2 x4 x5 n x3 x6 = some r → J X ((.inl (some (.int r)), h)) 31 [(0, .ref 30), (2, .int x2), (3, .int x3), (4, .int x4), (5, .int x5), (6, .int x6)] [] h := by
  intro n
  induction n with
  | zero => intro x3 x6 hf; exact nomatch hf
  | succ n ih => intro x3 x6 hf; exact T_X12_pieceOf_31_s hX hdx h x2 x4 x5 q_9 hq_9 q_19 hq_19 _ (fun x3 x6 hf => ih x3 x6 hf) x3 x6 hf
set_option maxRecDepth 100000 in
set_option maxHeartbeats 200000 in
theorem T_X12_pieceOf_19_s {X : CX} (hX : Ok X cX12_pieceOf 7 RX12 (some .int)) (hdx : dX X = 4) {r : Int32} (h : Hp) (x2 : Int32) (x4 : Int32) (q_9 : Int32 → Int32 → Option Int32) (hq_9 : ∀ (x3 : Int32) (x4 : Int32), q_9 x3 x4 = some r → J X ((.inl (some (.int r)), h)) 9 [(0, .ref 30), (2, .int x2), (3, .int x3), (4, .int x4)] [] h) (q_19 : Int32 → Int32 → Option Int32) (hq_19 : ∀ (x3 : Int32) (x5 : Int32), q_19 x3 x5 = some r → J X ((.inl (some (.int r)), h)) 19 [(0, .ref 30), (2, .int x2), (3, .int x3), (4, .int x4), (5, .int x5)] [] h) (x3 : Int32) (x5 : Int32) (hf : S_X12_pieceOf_19 q_9 h x2 x4 q_19 x3 x5 = some r) : J X ((.inl (some (.int r)), h)) 19 [(0, .ref 30), (2, .int x2), (3, .int x3), (4, .int x4), (5, .int x5)] [] h := by
  unfold S_X12_pieceOf_19 at hf
  refine J_iload hX 4 dX12_pieceOf_19 rfl ?_
  refine J_aload_n hX 0 dX12_pieceOf_21 rfl rfl ?_
  refine V_1 hX [] dX12_pieceOf_22 cw_X12_87 ob_30 rfl (C_X12_houses (okG hX) rfl) (ltD hdx rfl) rfl rfl rfl rfl ?_
  rcases ifE hf with ⟨c_1, hf⟩ | ⟨c_1, hf⟩
  · refine J_icmp_geF hX 99 dX12_pieceOf_25 rfl c_1 ?_
    refine J_iconst hX 0 dX12_pieceOf_28 rfl ?_
    refine J_istore hX [(6, .int 0), (0, .ref 30), (2, .int x2), (3, .int x3), (4, .int x4), (5, .int x5)] dX12_pieceOf_29 rfl rfl ?_
    refine J_sub [1, 2, 3, 4, 5, 0] [(0, .ref 30), (2, .int x2), (3, .int x3), (4, .int x4), (5, .int x5), (6, .int 0)] rfl ?_
    exact T_X12_pieceOf_31 hX hdx h x2 x4 x5 q_9 hq_9 q_19 hq_19 FU x3 0 hf
  · refine J_icmp_geT hX 99 dX12_pieceOf_25 rfl c_1 ?_
    refine J_iinc hX (x4 + 1) 3 [(4, .int (x4 + 1)), (0, .ref 30), (2, .int x2), (3, .int x3), (5, .int x5)] dX12_pieceOf_99 rfl rfl rfl rfl ?_
    refine J_goto hX 9 dX12_pieceOf_102 rfl ?_
    refine J_sub [1, 2, 3, 0] [(0, .ref 30), (2, .int x2), (3, .int x3), (4, .int (x4 + 1))] rfl ?_
    exact hq_9 x3 (x4 + 1) hf
set_option maxRecDepth 100000 in
set_option maxHeartbeats 200000 in
theorem T_X12_pieceOf_19 {X : CX} (hX : Ok X cX12_pieceOf 7 RX12 (some .int)) (hdx : dX X = 4) {r : Int32} (h : Hp) (x2 : Int32) (x4 : Int32) (q_9 : Int32 → Int32 → Option Int32) (hq_9 : ∀ (x3 : Int32) (x4 : Int32), q_9 x3 x4 = some r → J X ((.inl (some (.int r)), h)) 9 [(0, .ref 30), (2, .int x2), (3, .int x3), (4, .int x4)] [] h) : ∀ (n : Nat) (x3 : Int32) (x5 : Int32), F_X12_pieceOf_19 q_9 h x2 x4 n x3 x5 = some r → J X ((.inl (some (.int r)), h)) 19 [(0, .ref 30), (2, .int x2), (3, .int x3), (4, .int x4), (5, .int x5)] [] h := by
  intro n
  induction n with
  | zero => intro x3 x5 hf; exact nomatch hf
  | succ n ih => intro x3 x5 hf; exact T_X12_pieceOf_19_s hX hdx h x2 x4 q_9 hq_9 _ (fun x3 x5 hf => ih x3 x5 hf) x3 x5 hf
set_option maxRecDepth 100000 in
set_option maxHeartbeats 200000 in
theorem T_X12_pieceOf_9_s {X : CX} (hX : Ok X cX12_pieceOf 7 RX12 (some .int)) (hdx : dX X = 4) {r : Int32} (h : Hp) (x2 : Int32) (q_9 : Int32 → Int32 → Option Int32) (hq_9 : ∀ (x3 : Int32) (x4 : Int32), q_9 x3 x4 = some r → J X ((.inl (some (.int r)), h)) 9 [(0, .ref 30), (2, .int x2), (3, .int x3), (4, .int x4)] [] h) (x3 : Int32) (x4 : Int32) (hf : S_X12_pieceOf_9 h x2 q_9 x3 x4 = some r) : J X ((.inl (some (.int r)), h)) 9 [(0, .ref 30), (2, .int x2), (3, .int x3), (4, .int x4)] [] h := by
  unfold S_X12_pieceOf_9 at hf
  refine J_iload hX 3 dX12_pieceOf_9 rfl ?_
  refine J_bipush hX 8 dX12_pieceOf_11 rfl ?_
  rcases ifE hf with ⟨c_1, hf⟩ | ⟨c_1, hf⟩
  · refine J_icmp_geF hX 105 dX12_pieceOf_13 rfl c_1 ?_
    refine J_iconst hX 0 dX12_pieceOf_16 rfl ?_
    refine J_istore hX [(5, .int 0), (0, .ref 30), (2, .int x2), (3, .int x3), (4, .int x4)] dX12_pieceOf_17 rfl rfl ?_
    refine J_sub [1, 2, 3, 4, 0] [(0, .ref 30), (2, .int x2), (3, .int x3), (4, .int x4), (5, .int 0)] rfl ?_
    exact T_X12_pieceOf_19 hX hdx h x2 x4 q_9 hq_9 FU x3 0 hf
  · refine J_icmp_geT hX 105 dX12_pieceOf_13 rfl c_1 ?_
    refine J_iload_n hX 2 dX12_pieceOf_105 rfl rfl ?_
    exact E_Ip hX dX12_pieceOf_106 hf
set_option maxRecDepth 100000 in
set_option maxHeartbeats 200000 in
theorem T_X12_pieceOf_9 {X : CX} (hX : Ok X cX12_pieceOf 7 RX12 (some .int)) (hdx : dX X = 4) {r : Int32} (h : Hp) (x2 : Int32) : ∀ (n : Nat) (x3 : Int32) (x4 : Int32), F_X12_pieceOf_9 h x2 n x3 x4 = some r → J X ((.inl (some (.int r)), h)) 9 [(0, .ref 30), (2, .int x2), (3, .int x3), (4, .int x4)] [] h := by
  intro n
  induction n with
  | zero => intro x3 x4 hf; exact nomatch hf
  | succ n ih => intro x3 x4 hf; exact T_X12_pieceOf_9_s hX hdx h x2 _ (fun x3 x4 hf => ih x3 x4 hf) x3 x4 hf
set_option maxRecDepth 100000 in
set_option maxHeartbeats 200000 in
theorem T_X12_pieceOf_0 {X : CX} (hX : Ok X cX12_pieceOf 7 RX12 (some .int)) (hdx : dX X = 4) {r : Int32} (x1 : Int32) (x2 : Int32) (h : Hp) (hf : f_X12_pieceOf x1 x2 h = some r) : J X ((.inl (some (.int r)), h)) 0 [(0, .ref 30), (1, .int x1), (2, .int x2)] [] h := by
  unfold f_X12_pieceOf at hf
  refine J_iconst hX 1 dX12_pieceOf_0 rfl ?_
  refine J_iload_n hX 1 dX12_pieceOf_1 rfl rfl ?_
  refine J_ishl hX dX12_pieceOf_2 ?_
  refine J_iload_n hX 2 dX12_pieceOf_3 rfl rfl ?_
  refine J_iand hX dX12_pieceOf_4 ?_
  obtain ⟨x3_1, e_2, hf⟩ := bndE hf
  refine J_nm e_2 ?_
  refine J_istore_n hX [(3, .int x3_1), (0, .ref 30), (1, .int x1), (2, .int x2)] dX12_pieceOf_5 rfl rfl rfl ?_
  refine J_iconst hX 0 dX12_pieceOf_6 rfl ?_
  refine J_istore hX [(4, .int 0), (3, .int x3_1), (0, .ref 30), (1, .int x1), (2, .int x2)] dX12_pieceOf_7 rfl rfl ?_
  refine J_sub [2, 4, 1, 0] [(0, .ref 30), (2, .int x2), (3, .int x3_1), (4, .int 0)] rfl ?_
  exact T_X12_pieceOf_9 hX hdx h x2 FU x3_1 0 hf
set_option maxRecDepth 100000 in
set_option maxHeartbeats 200000 in
theorem C_X12_pieceOf {G : GX} (hG : GOk G) {x1 : Int32} {x2 : Int32} {h : Hp} {r : Int32} (hf : f_X12_pieceOf x1 x2 h = some r) : Ctr G 4 yX12_pieceOf cX12_pieceOf 7 (some .int) [.ref 30, .int x1, .int x2] h ((.inl (some (.int r)), h)) :=
  Ctr_of hG RX12 rfl (by decide) rfl (fun X _ hdx hX => T_X12_pieceOf_0 hX hdx x1 x2 h hf)
theorem dX12_pairsAmong_0 : decode cX12_pairsAmong 0 = .ok (.iconst 0, 1) := by decide +kernel
theorem dX12_pairsAmong_1 : decode cX12_pairsAmong 1 = .ok (.istore_n 3, 1) := by decide +kernel
theorem dX12_pairsAmong_2 : decode cX12_pairsAmong 2 = .ok (.iconst 0, 1) := by decide +kernel
theorem dX12_pairsAmong_3 : decode cX12_pairsAmong 3 = .ok (.istore 4, 2) := by decide +kernel
theorem dX12_pairsAmong_5 : decode cX12_pairsAmong 5 = .ok (.iload 4, 2) := by decide +kernel
theorem dX12_pairsAmong_7 : decode cX12_pairsAmong 7 = .ok (.aload_n 0, 1) := by decide +kernel
theorem dX12_pairsAmong_8 : decode cX12_pairsAmong 8 = .ok (.invokevirtual 87, 3) := by decide +kernel
theorem dX12_pairsAmong_11 : decode cX12_pairsAmong 11 = .ok (.if_icmp .ge 50, 3) := by decide +kernel
theorem dX12_pairsAmong_14 : decode cX12_pairsAmong 14 = .ok (.iload 4, 2) := by decide +kernel
theorem dX12_pairsAmong_16 : decode cX12_pairsAmong 16 = .ok (.iload_n 2, 1) := by decide +kernel
theorem dX12_pairsAmong_17 : decode cX12_pairsAmong 17 = .ok (.if_icmp .eq 38, 3) := by decide +kernel
theorem dX12_pairsAmong_20 : decode cX12_pairsAmong 20 = .ok (.iload_n 1, 1) := by decide +kernel
theorem dX12_pairsAmong_21 : decode cX12_pairsAmong 21 = .ok (.iload 4, 2) := by decide +kernel
theorem dX12_pairsAmong_23 : decode cX12_pairsAmong 23 = .ok (.invokestatic 289, 3) := by decide +kernel
theorem dX12_pairsAmong_26 : decode cX12_pairsAmong 26 = .ok (.ifCond .eq 29, 3) := by decide +kernel
theorem dX12_pairsAmong_29 : decode cX12_pairsAmong 29 = .ok (.iload_n 3, 1) := by decide +kernel
theorem dX12_pairsAmong_30 : decode cX12_pairsAmong 30 = .ok (.aload_n 0, 1) := by decide +kernel
theorem dX12_pairsAmong_31 : decode cX12_pairsAmong 31 = .ok (.iload 4, 2) := by decide +kernel
theorem dX12_pairsAmong_33 : decode cX12_pairsAmong 33 = .ok (.iload_n 1, 1) := by decide +kernel
theorem dX12_pairsAmong_34 : decode cX12_pairsAmong 34 = .ok (.invokevirtual 467, 3) := by decide +kernel
theorem dX12_pairsAmong_37 : decode cX12_pairsAmong 37 = .ok (.iconst 1, 1) := by decide +kernel
theorem dX12_pairsAmong_38 : decode cX12_pairsAmong 38 = .ok (.iload 4, 2) := by decide +kernel
theorem dX12_pairsAmong_40 : decode cX12_pairsAmong 40 = .ok (.ishl, 1) := by decide +kernel
theorem dX12_pairsAmong_41 : decode cX12_pairsAmong 41 = .ok (.iconst (-1), 1) := by decide +kernel
theorem dX12_pairsAmong_42 : decode cX12_pairsAmong 42 = .ok (.ixor, 1) := by decide +kernel
theorem dX12_pairsAmong_43 : decode cX12_pairsAmong 43 = .ok (.iand, 1) := by decide +kernel
theorem dX12_pairsAmong_44 : decode cX12_pairsAmong 44 = .ok (.iconst 1, 1) := by decide +kernel
theorem dX12_pairsAmong_45 : decode cX12_pairsAmong 45 = .ok (.iload_n 2, 1) := by decide +kernel
theorem dX12_pairsAmong_46 : decode cX12_pairsAmong 46 = .ok (.ishl, 1) := by decide +kernel
theorem dX12_pairsAmong_47 : decode cX12_pairsAmong 47 = .ok (.iconst (-1), 1) := by decide +kernel
theorem dX12_pairsAmong_48 : decode cX12_pairsAmong 48 = .ok (.ixor, 1) := by decide +kernel
theorem dX12_pairsAmong_49 : decode cX12_pairsAmong 49 = .ok (.iand, 1) := by decide +kernel
theorem dX12_pairsAmong_50 : decode cX12_pairsAmong 50 = .ok (.invokestatic 368, 3) := by decide +kernel
theorem dX12_pairsAmong_53 : decode cX12_pairsAmong 53 = .ok (.iadd, 1) := by decide +kernel
theorem dX12_pairsAmong_54 : decode cX12_pairsAmong 54 = .ok (.istore_n 3, 1) := by decide +kernel
theorem dX12_pairsAmong_55 : decode cX12_pairsAmong 55 = .ok (.iinc 4 1, 3) := by decide +kernel
theorem dX12_pairsAmong_58 : decode cX12_pairsAmong 58 = .ok (.goto (-53), 3) := by decide +kernel
theorem dX12_pairsAmong_61 : decode cX12_pairsAmong 61 = .ok (.iload_n 3, 1) := by decide +kernel
theorem dX12_pairsAmong_62 : decode cX12_pairsAmong 62 = .ok (.iconst 2, 1) := by decide +kernel
theorem dX12_pairsAmong_63 : decode cX12_pairsAmong 63 = .ok (.idiv, 1) := by decide +kernel
theorem dX12_pairsAmong_64 : decode cX12_pairsAmong 64 = .ok (.ireturn, 1) := by decide +kernel
set_option maxRecDepth 100000 in
set_option maxHeartbeats 200000 in
theorem T_X12_pairsAmong_5_s {X : CX} (hX : Ok X cX12_pairsAmong 5 RX12 (some .int)) (hdx : dX X = 5) {r : Int32} (h : Hp) (x1 : Int32) (x2 : Int32) (q_5 : Int32 → Int32 → Option Int32) (hq_5 : ∀ (x3 : Int32) (x4 : Int32), q_5 x3 x4 = some r → J X ((.inl (some (.int r)), h)) 5 [(0, .ref 30), (1, .int x1), (2, .int x2), (3, .int x3), (4, .int x4)] [] h) (x3 : Int32) (x4 : Int32) (hf : S_X12_pairsAmong_5 h x1 x2 q_5 x3 x4 = some r) : J X ((.inl (some (.int r)), h)) 5 [(0, .ref 30), (1, .int x1), (2, .int x2), (3, .int x3), (4, .int x4)] [] h := by
  unfold S_X12_pairsAmong_5 at hf
  refine J_iload hX 4 dX12_pairsAmong_5 rfl ?_
  refine J_aload_n hX 0 dX12_pairsAmong_7 rfl rfl ?_
  refine V_1 hX [] dX12_pairsAmong_8 cw_X12_87 ob_30 rfl (C_X12_houses (okG hX) rfl) (ltD hdx rfl) rfl rfl rfl rfl ?_
  rcases ifE hf with ⟨c_1, hf⟩ | ⟨c_1, hf⟩
  · refine J_icmp_geF hX 61 dX12_pairsAmong_11 rfl c_1 ?_
    refine J_iload hX 4 dX12_pairsAmong_14 rfl ?_
    refine J_iload_n hX 2 dX12_pairsAmong_16 rfl rfl ?_
    rcases ifE hf with ⟨c_2, hf⟩ | ⟨c_2, hf⟩
    · refine J_icmp_eqT hX 55 dX12_pairsAmong_17 rfl c_2 ?_
      refine J_iinc hX (x4 + 1) 4 [(4, .int (x4 + 1)), (0, .ref 30), (1, .int x1), (2, .int x2), (3, .int x3)] dX12_pairsAmong_55 rfl rfl rfl rfl ?_
      refine J_goto hX 5 dX12_pairsAmong_58 rfl ?_
      refine J_sub [1, 2, 3, 4, 0] [(0, .ref 30), (1, .int x1), (2, .int x2), (3, .int x3), (4, .int (x4 + 1))] rfl ?_
      exact hq_5 x3 (x4 + 1) hf
    · refine J_icmp_eqF hX 55 dX12_pairsAmong_17 rfl c_2 ?_
      refine J_iload_n hX 1 dX12_pairsAmong_20 rfl rfl ?_
      refine J_iload hX 4 dX12_pairsAmong_21 rfl ?_
      refine S_1 hX [.int x1, .int x4] dX12_pairsAmong_23 cw_X12_289 (C_X12_has (okG hX) rfl) (ltD hdx rfl) rfl rfl rfl rfl ?_
      rcases ifE hf with ⟨c_3, hf⟩ | ⟨c_3, hf⟩
      · refine J_if_eqF hX 55 dX12_pairsAmong_26 rfl (b2iT c_3) ?_
        refine J_iload_n hX 3 dX12_pairsAmong_29 rfl rfl ?_
        refine J_aload_n hX 0 dX12_pairsAmong_30 rfl rfl ?_
        refine J_iload hX 4 dX12_pairsAmong_31 rfl ?_
        refine J_iload_n hX 1 dX12_pairsAmong_33 rfl rfl ?_
        obtain ⟨r_4, e_5, hf⟩ := bdE hf
        refine V_1 hX [.int x4, .int x1] dX12_pairsAmong_34 cw_X12_467 ob_30 rfl (C_X12_pieceOf (okG hX) e_5) (ltD hdx rfl) rfl rfl rfl rfl ?_
        refine J_iconst hX 1 dX12_pairsAmong_37 rfl ?_
        refine J_iload hX 4 dX12_pairsAmong_38 rfl ?_
        refine J_ishl hX dX12_pairsAmong_40 ?_
        refine J_iconst hX (-1) dX12_pairsAmong_41 rfl ?_
        refine J_ixor hX dX12_pairsAmong_42 ?_
        refine J_iand hX dX12_pairsAmong_43 ?_
        refine J_iconst hX 1 dX12_pairsAmong_44 rfl ?_
        refine J_iload_n hX 2 dX12_pairsAmong_45 rfl rfl ?_
        refine J_ishl hX dX12_pairsAmong_46 ?_
        refine J_iconst hX (-1) dX12_pairsAmong_47 rfl ?_
        refine J_ixor hX dX12_pairsAmong_48 ?_
        refine J_iand hX dX12_pairsAmong_49 ?_
        refine S_1 hX [.int ((r_4 &&& ((shl 1 x4) ^^^ (-1))) &&& ((shl 1 x2) ^^^ (-1)))] dX12_pairsAmong_50 cw_X12_368 (C_J6_bitCount_0f7a4 (okG hX) rfl) (ltD hdx rfl) rfl rfl rfl rfl ?_
        refine J_iadd hX dX12_pairsAmong_53 ?_
        obtain ⟨x3_6, e_7, hf⟩ := bndE hf
        refine J_nm e_7 ?_
        refine J_istore_n hX [(3, .int x3_6), (0, .ref 30), (1, .int x1), (2, .int x2), (4, .int x4)] dX12_pairsAmong_54 rfl rfl rfl ?_
        refine J_iinc hX (x4 + 1) 4 [(4, .int (x4 + 1)), (3, .int x3_6), (0, .ref 30), (1, .int x1), (2, .int x2)] dX12_pairsAmong_55 rfl rfl rfl rfl ?_
        refine J_goto hX 5 dX12_pairsAmong_58 rfl ?_
        refine J_sub [2, 3, 4, 1, 0] [(0, .ref 30), (1, .int x1), (2, .int x2), (3, .int x3_6), (4, .int (x4 + 1))] rfl ?_
        exact hq_5 x3_6 (x4 + 1) hf
      · refine J_if_eqT hX 55 dX12_pairsAmong_26 rfl (b2iF c_3) ?_
        refine J_iinc hX (x4 + 1) 4 [(4, .int (x4 + 1)), (0, .ref 30), (1, .int x1), (2, .int x2), (3, .int x3)] dX12_pairsAmong_55 rfl rfl rfl rfl ?_
        refine J_goto hX 5 dX12_pairsAmong_58 rfl ?_
        refine J_sub [1, 2, 3, 4, 0] [(0, .ref 30), (1, .int x1), (2, .int x2), (3, .int x3), (4, .int (x4 + 1))] rfl ?_
        exact hq_5 x3 (x4 + 1) hf
  · refine J_icmp_geT hX 61 dX12_pairsAmong_11 rfl c_1 ?_
    refine J_iload_n hX 3 dX12_pairsAmong_61 rfl rfl ?_
    refine J_iconst hX 2 dX12_pairsAmong_62 rfl ?_
    refine J_idiv hX (by decide) dX12_pairsAmong_63 ?_
    exact E_Ip hX dX12_pairsAmong_64 hf
set_option maxRecDepth 100000 in
set_option maxHeartbeats 200000 in
theorem T_X12_pairsAmong_5 {X : CX} (hX : Ok X cX12_pairsAmong 5 RX12 (some .int)) (hdx : dX X = 5) {r : Int32} (h : Hp) (x1 : Int32) (x2 : Int32) : ∀ (n : Nat) (x3 : Int32) (x4 : Int32), F_X12_pairsAmong_5 h x1 x2 n x3 x4 = some r → J X ((.inl (some (.int r)), h)) 5 [(0, .ref 30), (1, .int x1), (2, .int x2), (3, .int x3), (4, .int x4)] [] h := by
  intro n
  induction n with
  | zero => intro x3 x4 hf; exact nomatch hf
  | succ n ih => intro x3 x4 hf; exact T_X12_pairsAmong_5_s hX hdx h x1 x2 _ (fun x3 x4 hf => ih x3 x4 hf) x3 x4 hf
set_option maxRecDepth 100000 in
set_option maxHeartbeats 200000 in
theorem T_X12_pairsAmong_0 {X : CX} (hX : Ok X cX12_pairsAmong 5 RX12 (some .int)) (hdx : dX X = 5) {r : Int32} (x1 : Int32) (x2 : Int32) (h : Hp) (hf : f_X12_pairsAmong x1 x2 h = some r) : J X ((.inl (some (.int r)), h)) 0 [(0, .ref 30), (1, .int x1), (2, .int x2)] [] h := by
  unfold f_X12_pairsAmong at hf
  refine J_iconst hX 0 dX12_pairsAmong_0 rfl ?_
  refine J_istore_n hX [(3, .int 0), (0, .ref 30), (1, .int x1), (2, .int x2)] dX12_pairsAmong_1 rfl rfl rfl ?_
  refine J_iconst hX 0 dX12_pairsAmong_2 rfl ?_
  refine J_istore hX [(4, .int 0), (3, .int 0), (0, .ref 30), (1, .int x1), (2, .int x2)] dX12_pairsAmong_3 rfl rfl ?_
  refine J_sub [2, 3, 4, 1, 0] [(0, .ref 30), (1, .int x1), (2, .int x2), (3, .int 0), (4, .int 0)] rfl ?_
  exact T_X12_pairsAmong_5 hX hdx h x1 x2 FU 0 0 hf
set_option maxRecDepth 100000 in
set_option maxHeartbeats 200000 in
theorem C_X12_pairsAmong {G : GX} (hG : GOk G) {x1 : Int32} {x2 : Int32} {h : Hp} {r : Int32} (hf : f_X12_pairsAmong x1 x2 h = some r) : Ctr G 5 yX12_pairsAmong cX12_pairsAmong 5 (some .int) [.ref 30, .int x1, .int x2] h ((.inl (some (.int r)), h)) :=
  Ctr_of hG RX12 rfl (by decide) rfl (fun X _ hdx hX => T_X12_pairsAmong_0 hX hdx x1 x2 h hf)
theorem dX12_apart_0 : decode cX12_apart 0 = .ok (.aload_n 0, 1) := by decide +kernel
theorem dX12_apart_1 : decode cX12_apart 1 = .ok (.iconst 0, 1) := by decide +kernel
theorem dX12_apart_2 : decode cX12_apart 2 = .ok (.putfield 3, 3) := by decide +kernel
theorem dX12_apart_5 : decode cX12_apart 5 = .ok (.aload_n 0, 1) := by decide +kernel
theorem dX12_apart_6 : decode cX12_apart 6 = .ok (.aload_n 0, 1) := by decide +kernel
theorem dX12_apart_7 : decode cX12_apart 7 = .ok (.iload_n 1, 1) := by decide +kernel
theorem dX12_apart_8 : decode cX12_apart 8 = .ok (.invokevirtual 392, 3) := by decide +kernel
theorem dX12_apart_11 : decode cX12_apart 11 = .ok (.iconst 1, 1) := by decide +kernel
theorem dX12_apart_12 : decode cX12_apart 12 = .ok (.invokevirtual 280, 3) := by decide +kernel
theorem dX12_apart_15 : decode cX12_apart 15 = .ok (.ifCond .ne 11, 3) := by decide +kernel
theorem dX12_apart_18 : decode cX12_apart 18 = .ok (.aload_n 0, 1) := by decide +kernel
theorem dX12_apart_19 : decode cX12_apart 19 = .ok (.iload_n 1, 1) := by decide +kernel
theorem dX12_apart_20 : decode cX12_apart 20 = .ok (.invokevirtual 91, 3) := by decide +kernel
theorem dX12_apart_23 : decode cX12_apart 23 = .ok (.ifCond .eq 5, 3) := by decide +kernel
theorem dX12_apart_26 : decode cX12_apart 26 = .ok (.iconst 0, 1) := by decide +kernel
theorem dX12_apart_27 : decode cX12_apart 27 = .ok (.ireturn, 1) := by decide +kernel
theorem dX12_apart_28 : decode cX12_apart 28 = .ok (.aload_n 0, 1) := by decide +kernel
theorem dX12_apart_29 : decode cX12_apart 29 = .ok (.aload_n 0, 1) := by decide +kernel
theorem dX12_apart_30 : decode cX12_apart 30 = .ok (.invokevirtual 362, 3) := by decide +kernel
theorem dX12_apart_33 : decode cX12_apart 33 = .ok (.iload_n 1, 1) := by decide +kernel
theorem dX12_apart_34 : decode cX12_apart 34 = .ok (.invokevirtual 470, 3) := by decide +kernel
theorem dX12_apart_37 : decode cX12_apart 37 = .ok (.aload_n 0, 1) := by decide +kernel
theorem dX12_apart_38 : decode cX12_apart 38 = .ok (.aload_n 0, 1) := by decide +kernel
theorem dX12_apart_39 : decode cX12_apart 39 = .ok (.invokevirtual 362, 3) := by decide +kernel
theorem dX12_apart_42 : decode cX12_apart 42 = .ok (.iconst 1, 1) := by decide +kernel
theorem dX12_apart_43 : decode cX12_apart 43 = .ok (.iload_n 1, 1) := by decide +kernel
theorem dX12_apart_44 : decode cX12_apart 44 = .ok (.ishl, 1) := by decide +kernel
theorem dX12_apart_45 : decode cX12_apart 45 = .ok (.iconst (-1), 1) := by decide +kernel
theorem dX12_apart_46 : decode cX12_apart 46 = .ok (.ixor, 1) := by decide +kernel
theorem dX12_apart_47 : decode cX12_apart 47 = .ok (.iand, 1) := by decide +kernel
theorem dX12_apart_48 : decode cX12_apart 48 = .ok (.iload_n 1, 1) := by decide +kernel
theorem dX12_apart_49 : decode cX12_apart 49 = .ok (.invokevirtual 470, 3) := by decide +kernel
theorem dX12_apart_52 : decode cX12_apart 52 = .ok (.isub, 1) := by decide +kernel
theorem dX12_apart_53 : decode cX12_apart 53 = .ok (.ireturn, 1) := by decide +kernel
set_option maxRecDepth 100000 in
set_option maxHeartbeats 200000 in
theorem T_X12_apart_0 {X : CX} (hX : Ok X cX12_apart 2 RX12 (some .int)) (hdx : dX X = 6) {r : Int32 × Hp} (x1 : Int32) (h : Hp) (hf : f_X12_apart x1 h = some r) : J X ((.inl (some (.int r.1)), r.2)) 0 [(0, .ref 30), (1, .int x1)] [] h := by
  unfold f_X12_apart at hf
  refine J_aload_n hX 0 dX12_apart_0 rfl rfl ?_
  refine J_iconst hX 0 dX12_apart_1 rfl ?_
  obtain ⟨h_1, e_2, hf⟩ := bndE hf
  refine J_putI hX dX12_apart_2 fl_X12_3 fw_10_0 ob_30 rfl rfl rfl ?_
  refine J_nmh e_2 ?_
  refine J_aload_n hX 0 dX12_apart_5 rfl rfl ?_
  refine J_aload_n hX 0 dX12_apart_6 rfl rfl ?_
  refine J_iload_n hX 1 dX12_apart_7 rfl rfl ?_
  refine V_1 hX [.int x1] dX12_apart_8 cw_X12_392 ob_30 rfl (C_X12_noHouse (okG hX) rfl) (ltD hdx rfl) rfl rfl rfl rfl ?_
  refine J_iconst hX 1 dX12_apart_11 rfl ?_
  obtain ⟨r_3, e_4, hf⟩ := bdE hf
  refine V_1 hX [.int (b2i (f_X12_noHouse x1 h_1)), .int 1] dX12_apart_12 cw_X12_280 ob_30 rfl (C_X12_throwsIf (okG hX) e_4) (ltD hdx rfl) rfl rfl rfl rfl ?_
  rcases ifE hf with ⟨c_5, hf⟩ | ⟨c_5, hf⟩
  · refine J_if_neT hX 26 dX12_apart_15 rfl (b2iT c_5) ?_
    refine J_iconst hX 0 dX12_apart_26 rfl ?_
    exact E_Ii hX dX12_apart_27 hf
  · refine J_if_neF hX 26 dX12_apart_15 rfl (b2iF c_5) ?_
    refine J_aload_n hX 0 dX12_apart_18 rfl rfl ?_
    refine J_iload_n hX 1 dX12_apart_19 rfl rfl ?_
    obtain ⟨r_6, e_7, hf⟩ := bdE hf
    refine V_1 hX [.int x1] dX12_apart_20 cw_X12_91 ob_30 rfl (C_X12_isFallen (okG hX) e_7) (ltD hdx rfl) rfl rfl rfl rfl ?_
    rcases ifE hf with ⟨c_8, hf⟩ | ⟨c_8, hf⟩
    · refine J_if_eqF hX 28 dX12_apart_23 rfl (b2iT c_8) ?_
      refine J_iconst hX 0 dX12_apart_26 rfl ?_
      exact E_Ii hX dX12_apart_27 hf
    · refine J_if_eqT hX 28 dX12_apart_23 rfl (b2iF c_8) ?_
      refine J_aload_n hX 0 dX12_apart_28 rfl rfl ?_
      refine J_aload_n hX 0 dX12_apart_29 rfl rfl ?_
      obtain ⟨r_9, e_10, hf⟩ := bdE hf
      refine V_1 hX [] dX12_apart_30 cw_X12_362 ob_30 rfl (C_X12_standing (okG hX) e_10) (ltD hdx rfl) rfl rfl rfl rfl ?_
      refine J_iload_n hX 1 dX12_apart_33 rfl rfl ?_
      obtain ⟨r_11, e_12, hf⟩ := bdE hf
      refine V_1 hX [.int r_9, .int x1] dX12_apart_34 cw_X12_470 ob_30 rfl (C_X12_pairsAmong (okG hX) e_12) (ltD hdx rfl) rfl rfl rfl rfl ?_
      refine J_aload_n hX 0 dX12_apart_37 rfl rfl ?_
      refine J_aload_n hX 0 dX12_apart_38 rfl rfl ?_
      obtain ⟨r_13, e_14, hf⟩ := bdE hf
      refine V_1 hX [] dX12_apart_39 cw_X12_362 ob_30 rfl (C_X12_standing (okG hX) e_14) (ltD hdx rfl) rfl rfl rfl rfl ?_
      refine J_iconst hX 1 dX12_apart_42 rfl ?_
      refine J_iload_n hX 1 dX12_apart_43 rfl rfl ?_
      refine J_ishl hX dX12_apart_44 ?_
      refine J_iconst hX (-1) dX12_apart_45 rfl ?_
      refine J_ixor hX dX12_apart_46 ?_
      refine J_iand hX dX12_apart_47 ?_
      refine J_iload_n hX 1 dX12_apart_48 rfl rfl ?_
      obtain ⟨r_15, e_16, hf⟩ := bdE hf
      refine V_1 hX [.int (r_13 &&& ((shl 1 x1) ^^^ (-1))), .int x1] dX12_apart_49 cw_X12_470 ob_30 rfl (C_X12_pairsAmong (okG hX) e_16) (ltD hdx rfl) rfl rfl rfl rfl ?_
      refine J_isub hX dX12_apart_52 ?_
      exact E_Ii hX dX12_apart_53 hf
set_option maxRecDepth 100000 in
set_option maxHeartbeats 200000 in
theorem C_X12_apart {G : GX} (hG : GOk G) {x1 : Int32} {h : Hp} {r : Int32 × Hp} (hf : f_X12_apart x1 h = some r) : Ctr G 6 yX12_apart cX12_apart 2 (some .int) [.ref 30, .int x1] h ((.inl (some (.int r.1)), r.2)) :=
  Ctr_of hG RX12 rfl (by decide) rfl (fun X _ hdx hX => T_X12_apart_0 hX hdx x1 h hf)
theorem dJ6_numberOfTrailingZeros_0f7a4_0 : decode cJ6_numberOfTrailingZeros_0f7a4 0 = .ok (.iload_n 0, 1) := by decide +kernel
theorem dJ6_numberOfTrailingZeros_0f7a4_1 : decode cJ6_numberOfTrailingZeros_0f7a4 1 = .ok (.iconst (-1), 1) := by decide +kernel
theorem dJ6_numberOfTrailingZeros_0f7a4_2 : decode cJ6_numberOfTrailingZeros_0f7a4 2 = .ok (.ixor, 1) := by decide +kernel
theorem dJ6_numberOfTrailingZeros_0f7a4_3 : decode cJ6_numberOfTrailingZeros_0f7a4 3 = .ok (.iload_n 0, 1) := by decide +kernel
theorem dJ6_numberOfTrailingZeros_0f7a4_4 : decode cJ6_numberOfTrailingZeros_0f7a4 4 = .ok (.iconst 1, 1) := by decide +kernel
theorem dJ6_numberOfTrailingZeros_0f7a4_5 : decode cJ6_numberOfTrailingZeros_0f7a4 5 = .ok (.isub, 1) := by decide +kernel
theorem dJ6_numberOfTrailingZeros_0f7a4_6 : decode cJ6_numberOfTrailingZeros_0f7a4 6 = .ok (.iand, 1) := by decide +kernel
theorem dJ6_numberOfTrailingZeros_0f7a4_7 : decode cJ6_numberOfTrailingZeros_0f7a4 7 = .ok (.istore_n 0, 1) := by decide +kernel
theorem dJ6_numberOfTrailingZeros_0f7a4_8 : decode cJ6_numberOfTrailingZeros_0f7a4 8 = .ok (.iload_n 0, 1) := by decide +kernel
theorem dJ6_numberOfTrailingZeros_0f7a4_9 : decode cJ6_numberOfTrailingZeros_0f7a4 9 = .ok (.ifCond .gt 8, 3) := by decide +kernel
theorem dJ6_numberOfTrailingZeros_0f7a4_12 : decode cJ6_numberOfTrailingZeros_0f7a4 12 = .ok (.iload_n 0, 1) := by decide +kernel
theorem dJ6_numberOfTrailingZeros_0f7a4_13 : decode cJ6_numberOfTrailingZeros_0f7a4 13 = .ok (.bipush 32, 2) := by decide +kernel
theorem dJ6_numberOfTrailingZeros_0f7a4_15 : decode cJ6_numberOfTrailingZeros_0f7a4 15 = .ok (.iand, 1) := by decide +kernel
theorem dJ6_numberOfTrailingZeros_0f7a4_16 : decode cJ6_numberOfTrailingZeros_0f7a4 16 = .ok (.ireturn, 1) := by decide +kernel
theorem dJ6_numberOfTrailingZeros_0f7a4_17 : decode cJ6_numberOfTrailingZeros_0f7a4 17 = .ok (.iconst 1, 1) := by decide +kernel
theorem dJ6_numberOfTrailingZeros_0f7a4_18 : decode cJ6_numberOfTrailingZeros_0f7a4 18 = .ok (.istore_n 1, 1) := by decide +kernel
theorem dJ6_numberOfTrailingZeros_0f7a4_19 : decode cJ6_numberOfTrailingZeros_0f7a4 19 = .ok (.iload_n 0, 1) := by decide +kernel
theorem dJ6_numberOfTrailingZeros_0f7a4_20 : decode cJ6_numberOfTrailingZeros_0f7a4 20 = .ok (.ldc_w 264, 3) := by decide +kernel
theorem dJ6_numberOfTrailingZeros_0f7a4_23 : decode cJ6_numberOfTrailingZeros_0f7a4 23 = .ok (.if_icmp .le 11, 3) := by decide +kernel
theorem dJ6_numberOfTrailingZeros_0f7a4_26 : decode cJ6_numberOfTrailingZeros_0f7a4 26 = .ok (.iinc 1 16, 3) := by decide +kernel
theorem dJ6_numberOfTrailingZeros_0f7a4_29 : decode cJ6_numberOfTrailingZeros_0f7a4 29 = .ok (.iload_n 0, 1) := by decide +kernel
theorem dJ6_numberOfTrailingZeros_0f7a4_30 : decode cJ6_numberOfTrailingZeros_0f7a4 30 = .ok (.bipush 16, 2) := by decide +kernel
theorem dJ6_numberOfTrailingZeros_0f7a4_32 : decode cJ6_numberOfTrailingZeros_0f7a4 32 = .ok (.iushr, 1) := by decide +kernel
theorem dJ6_numberOfTrailingZeros_0f7a4_33 : decode cJ6_numberOfTrailingZeros_0f7a4 33 = .ok (.istore_n 0, 1) := by decide +kernel
theorem dJ6_numberOfTrailingZeros_0f7a4_34 : decode cJ6_numberOfTrailingZeros_0f7a4 34 = .ok (.iload_n 0, 1) := by decide +kernel
theorem dJ6_numberOfTrailingZeros_0f7a4_35 : decode cJ6_numberOfTrailingZeros_0f7a4 35 = .ok (.sipush 256, 3) := by decide +kernel
theorem dJ6_numberOfTrailingZeros_0f7a4_38 : decode cJ6_numberOfTrailingZeros_0f7a4 38 = .ok (.if_icmp .le 11, 3) := by decide +kernel
theorem dJ6_numberOfTrailingZeros_0f7a4_41 : decode cJ6_numberOfTrailingZeros_0f7a4 41 = .ok (.iinc 1 8, 3) := by decide +kernel
theorem dJ6_numberOfTrailingZeros_0f7a4_44 : decode cJ6_numberOfTrailingZeros_0f7a4 44 = .ok (.iload_n 0, 1) := by decide +kernel
theorem dJ6_numberOfTrailingZeros_0f7a4_45 : decode cJ6_numberOfTrailingZeros_0f7a4 45 = .ok (.bipush 8, 2) := by decide +kernel
theorem dJ6_numberOfTrailingZeros_0f7a4_47 : decode cJ6_numberOfTrailingZeros_0f7a4 47 = .ok (.iushr, 1) := by decide +kernel
theorem dJ6_numberOfTrailingZeros_0f7a4_48 : decode cJ6_numberOfTrailingZeros_0f7a4 48 = .ok (.istore_n 0, 1) := by decide +kernel
theorem dJ6_numberOfTrailingZeros_0f7a4_49 : decode cJ6_numberOfTrailingZeros_0f7a4 49 = .ok (.iload_n 0, 1) := by decide +kernel
theorem dJ6_numberOfTrailingZeros_0f7a4_50 : decode cJ6_numberOfTrailingZeros_0f7a4 50 = .ok (.bipush 16, 2) := by decide +kernel
theorem dJ6_numberOfTrailingZeros_0f7a4_52 : decode cJ6_numberOfTrailingZeros_0f7a4 52 = .ok (.if_icmp .le 10, 3) := by decide +kernel
theorem dJ6_numberOfTrailingZeros_0f7a4_55 : decode cJ6_numberOfTrailingZeros_0f7a4 55 = .ok (.iinc 1 4, 3) := by decide +kernel
theorem dJ6_numberOfTrailingZeros_0f7a4_58 : decode cJ6_numberOfTrailingZeros_0f7a4 58 = .ok (.iload_n 0, 1) := by decide +kernel
theorem dJ6_numberOfTrailingZeros_0f7a4_59 : decode cJ6_numberOfTrailingZeros_0f7a4 59 = .ok (.iconst 4, 1) := by decide +kernel
theorem dJ6_numberOfTrailingZeros_0f7a4_60 : decode cJ6_numberOfTrailingZeros_0f7a4 60 = .ok (.iushr, 1) := by decide +kernel
theorem dJ6_numberOfTrailingZeros_0f7a4_61 : decode cJ6_numberOfTrailingZeros_0f7a4 61 = .ok (.istore_n 0, 1) := by decide +kernel
theorem dJ6_numberOfTrailingZeros_0f7a4_62 : decode cJ6_numberOfTrailingZeros_0f7a4 62 = .ok (.iload_n 0, 1) := by decide +kernel
theorem dJ6_numberOfTrailingZeros_0f7a4_63 : decode cJ6_numberOfTrailingZeros_0f7a4 63 = .ok (.iconst 4, 1) := by decide +kernel
theorem dJ6_numberOfTrailingZeros_0f7a4_64 : decode cJ6_numberOfTrailingZeros_0f7a4 64 = .ok (.if_icmp .le 10, 3) := by decide +kernel
theorem dJ6_numberOfTrailingZeros_0f7a4_67 : decode cJ6_numberOfTrailingZeros_0f7a4 67 = .ok (.iinc 1 2, 3) := by decide +kernel
theorem dJ6_numberOfTrailingZeros_0f7a4_70 : decode cJ6_numberOfTrailingZeros_0f7a4 70 = .ok (.iload_n 0, 1) := by decide +kernel
theorem dJ6_numberOfTrailingZeros_0f7a4_71 : decode cJ6_numberOfTrailingZeros_0f7a4 71 = .ok (.iconst 2, 1) := by decide +kernel
theorem dJ6_numberOfTrailingZeros_0f7a4_72 : decode cJ6_numberOfTrailingZeros_0f7a4 72 = .ok (.iushr, 1) := by decide +kernel
theorem dJ6_numberOfTrailingZeros_0f7a4_73 : decode cJ6_numberOfTrailingZeros_0f7a4 73 = .ok (.istore_n 0, 1) := by decide +kernel
theorem dJ6_numberOfTrailingZeros_0f7a4_74 : decode cJ6_numberOfTrailingZeros_0f7a4 74 = .ok (.iload_n 1, 1) := by decide +kernel
theorem dJ6_numberOfTrailingZeros_0f7a4_75 : decode cJ6_numberOfTrailingZeros_0f7a4 75 = .ok (.iload_n 0, 1) := by decide +kernel
theorem dJ6_numberOfTrailingZeros_0f7a4_76 : decode cJ6_numberOfTrailingZeros_0f7a4 76 = .ok (.iconst 1, 1) := by decide +kernel
theorem dJ6_numberOfTrailingZeros_0f7a4_77 : decode cJ6_numberOfTrailingZeros_0f7a4 77 = .ok (.iushr, 1) := by decide +kernel
theorem dJ6_numberOfTrailingZeros_0f7a4_78 : decode cJ6_numberOfTrailingZeros_0f7a4 78 = .ok (.iadd, 1) := by decide +kernel
theorem dJ6_numberOfTrailingZeros_0f7a4_79 : decode cJ6_numberOfTrailingZeros_0f7a4 79 = .ok (.ireturn, 1) := by decide +kernel
set_option maxRecDepth 100000 in
set_option maxHeartbeats 200000 in
theorem T_J6_numberOfTrailingZeros_0f7a4_74 {X : CX} (hX : Ok X cJ6_numberOfTrailingZeros_0f7a4 2 RJ6 (some .int)) (hdx : dX X = 2) {r : Int32} (h : Hp) (x0 : Int32) (x1 : Int32) (hf : F_J6_numberOfTrailingZeros_0f7a4_74 h x0 x1 = r) : J X ((.inl (some (.int r)), h)) 74 [(0, .int x0), (1, .int x1)] [] h := by
  unfold F_J6_numberOfTrailingZeros_0f7a4_74 at hf
  refine J_iload_n hX 1 dJ6_numberOfTrailingZeros_0f7a4_74 rfl rfl ?_
  refine J_iload_n hX 0 dJ6_numberOfTrailingZeros_0f7a4_75 rfl rfl ?_
  refine J_iconst hX 1 dJ6_numberOfTrailingZeros_0f7a4_76 rfl ?_
  refine J_iushr hX dJ6_numberOfTrailingZeros_0f7a4_77 ?_
  refine J_iadd hX dJ6_numberOfTrailingZeros_0f7a4_78 ?_
  exact E_It hX dJ6_numberOfTrailingZeros_0f7a4_79 hf
set_option maxRecDepth 100000 in
set_option maxHeartbeats 200000 in
theorem T_J6_numberOfTrailingZeros_0f7a4_62 {X : CX} (hX : Ok X cJ6_numberOfTrailingZeros_0f7a4 2 RJ6 (some .int)) (hdx : dX X = 2) {r : Int32} (h : Hp) (x0 : Int32) (x1 : Int32) (hf : F_J6_numberOfTrailingZeros_0f7a4_62 h x0 x1 = r) : J X ((.inl (some (.int r)), h)) 62 [(0, .int x0), (1, .int x1)] [] h := by
  unfold F_J6_numberOfTrailingZeros_0f7a4_62 at hf
  refine J_iload_n hX 0 dJ6_numberOfTrailingZeros_0f7a4_62 rfl rfl ?_
  refine J_iconst hX 4 dJ6_numberOfTrailingZeros_0f7a4_63 rfl ?_
  rcases ifE hf with ⟨c_1, hf⟩ | ⟨c_1, hf⟩
  · refine J_icmp_leF hX 74 dJ6_numberOfTrailingZeros_0f7a4_64 rfl c_1 ?_
    refine J_iinc hX (x1 + 2) 1 [(1, .int (x1 + 2)), (0, .int x0)] dJ6_numberOfTrailingZeros_0f7a4_67 rfl rfl rfl rfl ?_
    refine J_iload_n hX 1 dJ6_numberOfTrailingZeros_0f7a4_70 rfl rfl ?_
    refine J_iconst hX 2 dJ6_numberOfTrailingZeros_0f7a4_71 rfl ?_
    refine J_iushr hX dJ6_numberOfTrailingZeros_0f7a4_72 ?_
    obtain ⟨x0_2, e_3, hf⟩ := bndE hf
    refine J_nm e_3 ?_
    refine J_istore_n hX [(0, .int x0_2), (1, .int (x1 + 2))] dJ6_numberOfTrailingZeros_0f7a4_73 rfl rfl rfl ?_
    exact T_J6_numberOfTrailingZeros_0f7a4_74 hX hdx h x0_2 (x1 + 2) hf
  · refine J_icmp_leT hX 74 dJ6_numberOfTrailingZeros_0f7a4_64 rfl c_1 ?_
    exact T_J6_numberOfTrailingZeros_0f7a4_74 hX hdx h x0 x1 hf
set_option maxRecDepth 100000 in
set_option maxHeartbeats 200000 in
theorem T_J6_numberOfTrailingZeros_0f7a4_49 {X : CX} (hX : Ok X cJ6_numberOfTrailingZeros_0f7a4 2 RJ6 (some .int)) (hdx : dX X = 2) {r : Int32} (h : Hp) (x0 : Int32) (x1 : Int32) (hf : F_J6_numberOfTrailingZeros_0f7a4_49 h x0 x1 = r) : J X ((.inl (some (.int r)), h)) 49 [(0, .int x0), (1, .int x1)] [] h := by
  unfold F_J6_numberOfTrailingZeros_0f7a4_49 at hf
  refine J_iload_n hX 0 dJ6_numberOfTrailingZeros_0f7a4_49 rfl rfl ?_
  refine J_bipush hX 16 dJ6_numberOfTrailingZeros_0f7a4_50 rfl ?_
  rcases ifE hf with ⟨c_1, hf⟩ | ⟨c_1, hf⟩
  · refine J_icmp_leF hX 62 dJ6_numberOfTrailingZeros_0f7a4_52 rfl c_1 ?_
    refine J_iinc hX (x1 + 4) 1 [(1, .int (x1 + 4)), (0, .int x0)] dJ6_numberOfTrailingZeros_0f7a4_55 rfl rfl rfl rfl ?_
    refine J_iload_n hX 1 dJ6_numberOfTrailingZeros_0f7a4_58 rfl rfl ?_
    refine J_iconst hX 4 dJ6_numberOfTrailingZeros_0f7a4_59 rfl ?_
    refine J_iushr hX dJ6_numberOfTrailingZeros_0f7a4_60 ?_
    obtain ⟨x0_2, e_3, hf⟩ := bndE hf
    refine J_nm e_3 ?_
    refine J_istore_n hX [(0, .int x0_2), (1, .int (x1 + 4))] dJ6_numberOfTrailingZeros_0f7a4_61 rfl rfl rfl ?_
    exact T_J6_numberOfTrailingZeros_0f7a4_62 hX hdx h x0_2 (x1 + 4) hf
  · refine J_icmp_leT hX 62 dJ6_numberOfTrailingZeros_0f7a4_52 rfl c_1 ?_
    exact T_J6_numberOfTrailingZeros_0f7a4_62 hX hdx h x0 x1 hf
set_option maxRecDepth 100000 in
set_option maxHeartbeats 200000 in
theorem T_J6_numberOfTrailingZeros_0f7a4_34 {X : CX} (hX : Ok X cJ6_numberOfTrailingZeros_0f7a4 2 RJ6 (some .int)) (hdx : dX X = 2) {r : Int32} (h : Hp) (x0 : Int32) (x1 : Int32) (hf : F_J6_numberOfTrailingZeros_0f7a4_34 h x0 x1 = r) : J X ((.inl (some (.int r)), h)) 34 [(0, .int x0), (1, .int x1)] [] h := by
  unfold F_J6_numberOfTrailingZeros_0f7a4_34 at hf
  refine J_iload_n hX 0 dJ6_numberOfTrailingZeros_0f7a4_34 rfl rfl ?_
  refine J_sipush hX 256 dJ6_numberOfTrailingZeros_0f7a4_35 rfl ?_
  rcases ifE hf with ⟨c_1, hf⟩ | ⟨c_1, hf⟩
  · refine J_icmp_leF hX 49 dJ6_numberOfTrailingZeros_0f7a4_38 rfl c_1 ?_
    refine J_iinc hX (x1 + 8) 1 [(1, .int (x1 + 8)), (0, .int x0)] dJ6_numberOfTrailingZeros_0f7a4_41 rfl rfl rfl rfl ?_
    refine J_iload_n hX 1 dJ6_numberOfTrailingZeros_0f7a4_44 rfl rfl ?_
    refine J_bipush hX 8 dJ6_numberOfTrailingZeros_0f7a4_45 rfl ?_
    refine J_iushr hX dJ6_numberOfTrailingZeros_0f7a4_47 ?_
    obtain ⟨x0_2, e_3, hf⟩ := bndE hf
    refine J_nm e_3 ?_
    refine J_istore_n hX [(0, .int x0_2), (1, .int (x1 + 8))] dJ6_numberOfTrailingZeros_0f7a4_48 rfl rfl rfl ?_
    exact T_J6_numberOfTrailingZeros_0f7a4_49 hX hdx h x0_2 (x1 + 8) hf
  · refine J_icmp_leT hX 49 dJ6_numberOfTrailingZeros_0f7a4_38 rfl c_1 ?_
    exact T_J6_numberOfTrailingZeros_0f7a4_49 hX hdx h x0 x1 hf
set_option maxRecDepth 100000 in
set_option maxHeartbeats 200000 in
theorem T_J6_numberOfTrailingZeros_0f7a4_0 {X : CX} (hX : Ok X cJ6_numberOfTrailingZeros_0f7a4 2 RJ6 (some .int)) (hdx : dX X = 2) {r : Int32} (x0 : Int32) (h : Hp) (hf : f_J6_numberOfTrailingZeros_0f7a4 x0 h = r) : J X ((.inl (some (.int r)), h)) 0 [(0, .int x0)] [] h := by
  unfold f_J6_numberOfTrailingZeros_0f7a4 at hf
  refine J_iload_n hX 0 dJ6_numberOfTrailingZeros_0f7a4_0 rfl rfl ?_
  refine J_iconst hX (-1) dJ6_numberOfTrailingZeros_0f7a4_1 rfl ?_
  refine J_ixor hX dJ6_numberOfTrailingZeros_0f7a4_2 ?_
  refine J_iload_n hX 0 dJ6_numberOfTrailingZeros_0f7a4_3 rfl rfl ?_
  refine J_iconst hX 1 dJ6_numberOfTrailingZeros_0f7a4_4 rfl ?_
  refine J_isub hX dJ6_numberOfTrailingZeros_0f7a4_5 ?_
  refine J_iand hX dJ6_numberOfTrailingZeros_0f7a4_6 ?_
  obtain ⟨x0_1, e_2, hf⟩ := bndE hf
  refine J_nm e_2 ?_
  refine J_istore_n hX [(0, .int x0_1)] dJ6_numberOfTrailingZeros_0f7a4_7 rfl rfl rfl ?_
  refine J_iload_n hX 0 dJ6_numberOfTrailingZeros_0f7a4_8 rfl rfl ?_
  rcases ifE hf with ⟨c_3, hf⟩ | ⟨c_3, hf⟩
  · refine J_if_gtT hX 17 dJ6_numberOfTrailingZeros_0f7a4_9 rfl c_3 ?_
    refine J_iconst hX 1 dJ6_numberOfTrailingZeros_0f7a4_17 rfl ?_
    refine J_istore_n hX [(1, .int 1), (0, .int x0_1)] dJ6_numberOfTrailingZeros_0f7a4_18 rfl rfl rfl ?_
    refine J_iload_n hX 1 dJ6_numberOfTrailingZeros_0f7a4_19 rfl rfl ?_
    refine J_ldcw hX 65536 dJ6_numberOfTrailingZeros_0f7a4_20 kw_J6_264 ?_
    rcases ifE hf with ⟨c_4, hf⟩ | ⟨c_4, hf⟩
    · refine J_icmp_leF hX 34 dJ6_numberOfTrailingZeros_0f7a4_23 rfl c_4 ?_
      refine J_iinc hX (1 + 16) 0 [(1, .int (1 + 16)), (0, .int x0_1)] dJ6_numberOfTrailingZeros_0f7a4_26 rfl rfl rfl rfl ?_
      refine J_iload_n hX 1 dJ6_numberOfTrailingZeros_0f7a4_29 rfl rfl ?_
      refine J_bipush hX 16 dJ6_numberOfTrailingZeros_0f7a4_30 rfl ?_
      refine J_iushr hX dJ6_numberOfTrailingZeros_0f7a4_32 ?_
      obtain ⟨x0_5, e_6, hf⟩ := bndE hf
      refine J_nm e_6 ?_
      refine J_istore_n hX [(0, .int x0_5), (1, .int (1 + 16))] dJ6_numberOfTrailingZeros_0f7a4_33 rfl rfl rfl ?_
      exact T_J6_numberOfTrailingZeros_0f7a4_34 hX hdx h x0_5 (1 + 16) hf
    · refine J_icmp_leT hX 34 dJ6_numberOfTrailingZeros_0f7a4_23 rfl c_4 ?_
      refine J_sub [1, 0] [(0, .int x0_1), (1, .int 1)] rfl ?_
      exact T_J6_numberOfTrailingZeros_0f7a4_34 hX hdx h x0_1 1 hf
  · refine J_if_gtF hX 17 dJ6_numberOfTrailingZeros_0f7a4_9 rfl c_3 ?_
    refine J_iload_n hX 0 dJ6_numberOfTrailingZeros_0f7a4_12 rfl rfl ?_
    refine J_bipush hX 32 dJ6_numberOfTrailingZeros_0f7a4_13 rfl ?_
    refine J_iand hX dJ6_numberOfTrailingZeros_0f7a4_15 ?_
    exact E_It hX dJ6_numberOfTrailingZeros_0f7a4_16 hf
set_option maxRecDepth 100000 in
set_option maxHeartbeats 200000 in
theorem C_J6_numberOfTrailingZeros_0f7a4 {G : GX} (hG : GOk G) {x0 : Int32} {h : Hp} {r : Int32} (hf : f_J6_numberOfTrailingZeros_0f7a4 x0 h = r) : Ctr G 2 yJ6_numberOfTrailingZeros_0f7a4 cJ6_numberOfTrailingZeros_0f7a4 2 (some .int) [.int x0] h ((.inl (some (.int r)), h)) :=
  Ctr_of hG RJ6 rfl (by decide) rfl (fun X _ hdx hX => T_J6_numberOfTrailingZeros_0f7a4_0 hX hdx x0 h hf)
theorem dX12_pieces_0 : decode cX12_pieces 0 = .ok (.aload_n 0, 1) := by decide +kernel
theorem dX12_pieces_1 : decode cX12_pieces 1 = .ok (.iconst 0, 1) := by decide +kernel
theorem dX12_pieces_2 : decode cX12_pieces 2 = .ok (.putfield 3, 3) := by decide +kernel
theorem dX12_pieces_5 : decode cX12_pieces 5 = .ok (.aload_n 0, 1) := by decide +kernel
theorem dX12_pieces_6 : decode cX12_pieces 6 = .ok (.invokevirtual 362, 3) := by decide +kernel
theorem dX12_pieces_9 : decode cX12_pieces 9 = .ok (.istore_n 1, 1) := by decide +kernel
theorem dX12_pieces_10 : decode cX12_pieces 10 = .ok (.iconst 0, 1) := by decide +kernel
theorem dX12_pieces_11 : decode cX12_pieces 11 = .ok (.istore_n 2, 1) := by decide +kernel
theorem dX12_pieces_12 : decode cX12_pieces 12 = .ok (.iload_n 1, 1) := by decide +kernel
theorem dX12_pieces_13 : decode cX12_pieces 13 = .ok (.ifCond .eq 26, 3) := by decide +kernel
theorem dX12_pieces_16 : decode cX12_pieces 16 = .ok (.iload_n 1, 1) := by decide +kernel
theorem dX12_pieces_17 : decode cX12_pieces 17 = .ok (.aload_n 0, 1) := by decide +kernel
theorem dX12_pieces_18 : decode cX12_pieces 18 = .ok (.iload_n 1, 1) := by decide +kernel
theorem dX12_pieces_19 : decode cX12_pieces 19 = .ok (.invokestatic 473, 3) := by decide +kernel
theorem dX12_pieces_22 : decode cX12_pieces 22 = .ok (.aload_n 0, 1) := by decide +kernel
theorem dX12_pieces_23 : decode cX12_pieces 23 = .ok (.invokevirtual 362, 3) := by decide +kernel
theorem dX12_pieces_26 : decode cX12_pieces 26 = .ok (.invokevirtual 467, 3) := by decide +kernel
theorem dX12_pieces_29 : decode cX12_pieces 29 = .ok (.iconst (-1), 1) := by decide +kernel
theorem dX12_pieces_30 : decode cX12_pieces 30 = .ok (.ixor, 1) := by decide +kernel
theorem dX12_pieces_31 : decode cX12_pieces 31 = .ok (.iand, 1) := by decide +kernel
theorem dX12_pieces_32 : decode cX12_pieces 32 = .ok (.istore_n 1, 1) := by decide +kernel
theorem dX12_pieces_33 : decode cX12_pieces 33 = .ok (.iinc 2 1, 3) := by decide +kernel
theorem dX12_pieces_36 : decode cX12_pieces 36 = .ok (.goto (-24), 3) := by decide +kernel
theorem dX12_pieces_39 : decode cX12_pieces 39 = .ok (.iload_n 2, 1) := by decide +kernel
theorem dX12_pieces_40 : decode cX12_pieces 40 = .ok (.ireturn, 1) := by decide +kernel
set_option maxRecDepth 100000 in
set_option maxHeartbeats 200000 in
theorem T_X12_pieces_12_s {X : CX} (hX : Ok X cX12_pieces 3 RX12 (some .int)) (hdx : dX X = 6) {r : Int32 × Hp} (q_12 : Int32 → Int32 → Hp → Option (Int32 × Hp)) (hq_12 : ∀ (x1 : Int32) (x2 : Int32) (h : Hp), q_12 x1 x2 h = some r → J X ((.inl (some (.int r.1)), r.2)) 12 [(0, .ref 30), (1, .int x1), (2, .int x2)] [] h) (x1 : Int32) (x2 : Int32) (h : Hp) (hf : S_X12_pieces_12 q_12 x1 x2 h = some r) : J X ((.inl (some (.int r.1)), r.2)) 12 [(0, .ref 30), (1, .int x1), (2, .int x2)] [] h := by
  unfold S_X12_pieces_12 at hf
  refine J_iload_n hX 1 dX12_pieces_12 rfl rfl ?_
  rcases ifE hf with ⟨c_1, hf⟩ | ⟨c_1, hf⟩
  · refine J_if_eqT hX 39 dX12_pieces_13 rfl c_1 ?_
    refine J_iload_n hX 2 dX12_pieces_39 rfl rfl ?_
    exact E_Ii hX dX12_pieces_40 hf
  · refine J_if_eqF hX 39 dX12_pieces_13 rfl c_1 ?_
    refine J_iload_n hX 1 dX12_pieces_16 rfl rfl ?_
    refine J_aload_n hX 0 dX12_pieces_17 rfl rfl ?_
    refine J_iload_n hX 1 dX12_pieces_18 rfl rfl ?_
    refine S_1 hX [.int x1] dX12_pieces_19 cw_X12_473 (C_J6_numberOfTrailingZeros_0f7a4 (okG hX) rfl) (ltD hdx rfl) rfl rfl rfl rfl ?_
    refine J_aload_n hX 0 dX12_pieces_22 rfl rfl ?_
    obtain ⟨r_2, e_3, hf⟩ := bdE hf
    refine V_1 hX [] dX12_pieces_23 cw_X12_362 ob_30 rfl (C_X12_standing (okG hX) e_3) (ltD hdx rfl) rfl rfl rfl rfl ?_
    obtain ⟨r_4, e_5, hf⟩ := bdE hf
    refine V_1 hX [.int (f_J6_numberOfTrailingZeros_0f7a4 x1 h), .int r_2] dX12_pieces_26 cw_X12_467 ob_30 rfl (C_X12_pieceOf (okG hX) e_5) (ltD hdx rfl) rfl rfl rfl rfl ?_
    refine J_iconst hX (-1) dX12_pieces_29 rfl ?_
    refine J_ixor hX dX12_pieces_30 ?_
    refine J_iand hX dX12_pieces_31 ?_
    obtain ⟨x1_6, e_7, hf⟩ := bndE hf
    refine J_nm e_7 ?_
    refine J_istore_n hX [(1, .int x1_6), (0, .ref 30), (2, .int x2)] dX12_pieces_32 rfl rfl rfl ?_
    refine J_iinc hX (x2 + 1) 2 [(2, .int (x2 + 1)), (1, .int x1_6), (0, .ref 30)] dX12_pieces_33 rfl rfl rfl rfl ?_
    refine J_goto hX 12 dX12_pieces_36 rfl ?_
    refine J_sub [2, 1, 0] [(0, .ref 30), (1, .int x1_6), (2, .int (x2 + 1))] rfl ?_
    exact hq_12 x1_6 (x2 + 1) h hf
set_option maxRecDepth 100000 in
set_option maxHeartbeats 200000 in
theorem T_X12_pieces_12 {X : CX} (hX : Ok X cX12_pieces 3 RX12 (some .int)) (hdx : dX X = 6) {r : Int32 × Hp} : ∀ (n : Nat) (x1 : Int32) (x2 : Int32) (h : Hp), F_X12_pieces_12 n x1 x2 h = some r → J X ((.inl (some (.int r.1)), r.2)) 12 [(0, .ref 30), (1, .int x1), (2, .int x2)] [] h := by
  intro n
  induction n with
  | zero => intro x1 x2 h hf; exact nomatch hf
  | succ n ih => intro x1 x2 h hf; exact T_X12_pieces_12_s hX hdx _ (fun x1 x2 h hf => ih x1 x2 h hf) x1 x2 h hf
set_option maxRecDepth 100000 in
set_option maxHeartbeats 200000 in
theorem T_X12_pieces_0 {X : CX} (hX : Ok X cX12_pieces 3 RX12 (some .int)) (hdx : dX X = 6) {r : Int32 × Hp} (h : Hp) (hf : f_X12_pieces h = some r) : J X ((.inl (some (.int r.1)), r.2)) 0 [(0, .ref 30)] [] h := by
  unfold f_X12_pieces at hf
  refine J_aload_n hX 0 dX12_pieces_0 rfl rfl ?_
  refine J_iconst hX 0 dX12_pieces_1 rfl ?_
  obtain ⟨h_1, e_2, hf⟩ := bndE hf
  refine J_putI hX dX12_pieces_2 fl_X12_3 fw_10_0 ob_30 rfl rfl rfl ?_
  refine J_nmh e_2 ?_
  refine J_aload_n hX 0 dX12_pieces_5 rfl rfl ?_
  obtain ⟨r_3, e_4, hf⟩ := bdE hf
  refine V_1 hX [] dX12_pieces_6 cw_X12_362 ob_30 rfl (C_X12_standing (okG hX) e_4) (ltD hdx rfl) rfl rfl rfl rfl ?_
  refine J_istore_n hX [(1, .int r_3), (0, .ref 30)] dX12_pieces_9 rfl rfl rfl ?_
  refine J_iconst hX 0 dX12_pieces_10 rfl ?_
  refine J_istore_n hX [(2, .int 0), (1, .int r_3), (0, .ref 30)] dX12_pieces_11 rfl rfl rfl ?_
  refine J_sub [2, 1, 0] [(0, .ref 30), (1, .int r_3), (2, .int 0)] rfl ?_
  exact T_X12_pieces_12 hX hdx FU r_3 0 h_1 hf
set_option maxRecDepth 100000 in
set_option maxHeartbeats 200000 in
theorem C_X12_pieces {G : GX} (hG : GOk G) {h : Hp} {r : Int32 × Hp} (hf : f_X12_pieces h = some r) : Ctr G 6 yX12_pieces cX12_pieces 3 (some .int) [.ref 30] h ((.inl (some (.int r.1)), r.2)) :=
  Ctr_of hG RX12 rfl (by decide) rfl (fun X _ hdx hX => T_X12_pieces_0 hX hdx h hf)
theorem dX12_heldAt_0 : decode cX12_heldAt 0 = .ok (.iload_n 0, 1) := by decide +kernel
theorem dX12_heldAt_1 : decode cX12_heldAt 1 = .ok (.bipush 8, 2) := by decide +kernel
theorem dX12_heldAt_3 : decode cX12_heldAt 3 = .ok (.ishl, 1) := by decide +kernel
theorem dX12_heldAt_4 : decode cX12_heldAt 4 = .ok (.iload_n 1, 1) := by decide +kernel
theorem dX12_heldAt_5 : decode cX12_heldAt 5 = .ok (.iadd, 1) := by decide +kernel
theorem dX12_heldAt_6 : decode cX12_heldAt 6 = .ok (.ireturn, 1) := by decide +kernel
set_option maxRecDepth 100000 in
set_option maxHeartbeats 200000 in
theorem T_X12_heldAt_0 {X : CX} (hX : Ok X cX12_heldAt 2 RX12 (some .int)) (hdx : dX X = 2) {r : Int32} (x0 : Int32) (x1 : Int32) (h : Hp) (hf : f_X12_heldAt x0 x1 h = r) : J X ((.inl (some (.int r)), h)) 0 [(0, .int x0), (1, .int x1)] [] h := by
  unfold f_X12_heldAt at hf
  refine J_iload_n hX 0 dX12_heldAt_0 rfl rfl ?_
  refine J_bipush hX 8 dX12_heldAt_1 rfl ?_
  refine J_ishl hX dX12_heldAt_3 ?_
  refine J_iload_n hX 1 dX12_heldAt_4 rfl rfl ?_
  refine J_iadd hX dX12_heldAt_5 ?_
  exact E_It hX dX12_heldAt_6 hf
set_option maxRecDepth 100000 in
set_option maxHeartbeats 200000 in
theorem C_X12_heldAt {G : GX} (hG : GOk G) {x0 : Int32} {x1 : Int32} {h : Hp} {r : Int32} (hf : f_X12_heldAt x0 x1 h = r) : Ctr G 2 yX12_heldAt cX12_heldAt 2 (some .int) [.int x0, .int x1] h ((.inl (some (.int r)), h)) :=
  Ctr_of hG RX12 rfl (by decide) rfl (fun X _ hdx hX => T_X12_heldAt_0 hX hdx x0 x1 h hf)
theorem dX12_heldIf_0 : decode cX12_heldIf 0 = .ok (.iload_n 3, 1) := by decide +kernel
theorem dX12_heldIf_1 : decode cX12_heldIf 1 = .ok (.iconst (-1), 1) := by decide +kernel
theorem dX12_heldIf_2 : decode cX12_heldIf 2 = .ok (.if_icmp .ne 16, 3) := by decide +kernel
theorem dX12_heldIf_5 : decode cX12_heldIf 5 = .ok (.aload_n 0, 1) := by decide +kernel
theorem dX12_heldIf_6 : decode cX12_heldIf 6 = .ok (.getfield 64, 3) := by decide +kernel
theorem dX12_heldIf_9 : decode cX12_heldIf 9 = .ok (.iload_n 1, 1) := by decide +kernel
theorem dX12_heldIf_10 : decode cX12_heldIf 10 = .ok (.iconst 1, 1) := by decide +kernel
theorem dX12_heldIf_11 : decode cX12_heldIf 11 = .ok (.iadd, 1) := by decide +kernel
theorem dX12_heldIf_12 : decode cX12_heldIf 12 = .ok (.iload_n 2, 1) := by decide +kernel
theorem dX12_heldIf_13 : decode cX12_heldIf 13 = .ok (.invokestatic 476, 3) := by decide +kernel
theorem dX12_heldIf_16 : decode cX12_heldIf 16 = .ok (.iaload, 1) := by decide +kernel
theorem dX12_heldIf_17 : decode cX12_heldIf 17 = .ok (.ireturn, 1) := by decide +kernel
theorem dX12_heldIf_18 : decode cX12_heldIf 18 = .ok (.aload_n 0, 1) := by decide +kernel
theorem dX12_heldIf_19 : decode cX12_heldIf 19 = .ok (.iload_n 3, 1) := by decide +kernel
theorem dX12_heldIf_20 : decode cX12_heldIf 20 = .ok (.invokevirtual 91, 3) := by decide +kernel
theorem dX12_heldIf_23 : decode cX12_heldIf 23 = .ok (.ifCond .ne 11, 3) := by decide +kernel
theorem dX12_heldIf_26 : decode cX12_heldIf 26 = .ok (.iload_n 2, 1) := by decide +kernel
theorem dX12_heldIf_27 : decode cX12_heldIf 27 = .ok (.iload_n 3, 1) := by decide +kernel
theorem dX12_heldIf_28 : decode cX12_heldIf 28 = .ok (.invokestatic 289, 3) := by decide +kernel
theorem dX12_heldIf_31 : decode cX12_heldIf 31 = .ok (.ifCond .eq 5, 3) := by decide +kernel
theorem dX12_heldIf_34 : decode cX12_heldIf 34 = .ok (.iconst (-1), 1) := by decide +kernel
theorem dX12_heldIf_35 : decode cX12_heldIf 35 = .ok (.ireturn, 1) := by decide +kernel
theorem dX12_heldIf_36 : decode cX12_heldIf 36 = .ok (.aload_n 0, 1) := by decide +kernel
theorem dX12_heldIf_37 : decode cX12_heldIf 37 = .ok (.iload_n 1, 1) := by decide +kernel
theorem dX12_heldIf_38 : decode cX12_heldIf 38 = .ok (.iconst 2, 1) := by decide +kernel
theorem dX12_heldIf_39 : decode cX12_heldIf 39 = .ok (.invokevirtual 283, 3) := by decide +kernel
theorem dX12_heldIf_42 : decode cX12_heldIf 42 = .ok (.aload_n 0, 1) := by decide +kernel
theorem dX12_heldIf_43 : decode cX12_heldIf 43 = .ok (.getfield 13, 3) := by decide +kernel
theorem dX12_heldIf_46 : decode cX12_heldIf 46 = .ok (.iconst 4, 1) := by decide +kernel
theorem dX12_heldIf_47 : decode cX12_heldIf 47 = .ok (.iaload, 1) := by decide +kernel
theorem dX12_heldIf_48 : decode cX12_heldIf 48 = .ok (.invokestatic 289, 3) := by decide +kernel
theorem dX12_heldIf_51 : decode cX12_heldIf 51 = .ok (.ifCond .eq 25, 3) := by decide +kernel
theorem dX12_heldIf_54 : decode cX12_heldIf 54 = .ok (.iconst 0, 1) := by decide +kernel
theorem dX12_heldIf_55 : decode cX12_heldIf 55 = .ok (.aload_n 0, 1) := by decide +kernel
theorem dX12_heldIf_56 : decode cX12_heldIf 56 = .ok (.iload_n 1, 1) := by decide +kernel
theorem dX12_heldIf_57 : decode cX12_heldIf 57 = .ok (.iconst 1, 1) := by decide +kernel
theorem dX12_heldIf_58 : decode cX12_heldIf 58 = .ok (.invokevirtual 283, 3) := by decide +kernel
theorem dX12_heldIf_61 : decode cX12_heldIf 61 = .ok (.aload_n 0, 1) := by decide +kernel
theorem dX12_heldIf_62 : decode cX12_heldIf 62 = .ok (.getfield 61, 3) := by decide +kernel
theorem dX12_heldIf_65 : decode cX12_heldIf 65 = .ok (.iload_n 3, 1) := by decide +kernel
theorem dX12_heldIf_66 : decode cX12_heldIf 66 = .ok (.iaload, 1) := by decide +kernel
theorem dX12_heldIf_67 : decode cX12_heldIf 67 = .ok (.invokestatic 328, 3) := by decide +kernel
theorem dX12_heldIf_70 : decode cX12_heldIf 70 = .ok (.invokestatic 314, 3) := by decide +kernel
theorem dX12_heldIf_73 : decode cX12_heldIf 73 = .ok (.goto 4, 3) := by decide +kernel
theorem dX12_heldIf_76 : decode cX12_heldIf 76 = .ok (.iconst 0, 1) := by decide +kernel
theorem dX12_heldIf_77 : decode cX12_heldIf 77 = .ok (.istore 4, 2) := by decide +kernel
theorem dX12_heldIf_79 : decode cX12_heldIf 79 = .ok (.iload 4, 2) := by decide +kernel
theorem dX12_heldIf_81 : decode cX12_heldIf 81 = .ok (.aload_n 0, 1) := by decide +kernel
theorem dX12_heldIf_82 : decode cX12_heldIf 82 = .ok (.getfield 64, 3) := by decide +kernel
theorem dX12_heldIf_85 : decode cX12_heldIf 85 = .ok (.iload_n 1, 1) := by decide +kernel
theorem dX12_heldIf_86 : decode cX12_heldIf 86 = .ok (.iconst 1, 1) := by decide +kernel
theorem dX12_heldIf_87 : decode cX12_heldIf 87 = .ok (.iadd, 1) := by decide +kernel
theorem dX12_heldIf_88 : decode cX12_heldIf 88 = .ok (.iload_n 2, 1) := by decide +kernel
theorem dX12_heldIf_89 : decode cX12_heldIf 89 = .ok (.iconst 1, 1) := by decide +kernel
theorem dX12_heldIf_90 : decode cX12_heldIf 90 = .ok (.iload_n 3, 1) := by decide +kernel
theorem dX12_heldIf_91 : decode cX12_heldIf 91 = .ok (.ishl, 1) := by decide +kernel
theorem dX12_heldIf_92 : decode cX12_heldIf 92 = .ok (.ior, 1) := by decide +kernel
theorem dX12_heldIf_93 : decode cX12_heldIf 93 = .ok (.invokestatic 476, 3) := by decide +kernel
theorem dX12_heldIf_96 : decode cX12_heldIf 96 = .ok (.iaload, 1) := by decide +kernel
theorem dX12_heldIf_97 : decode cX12_heldIf 97 = .ok (.iadd, 1) := by decide +kernel
theorem dX12_heldIf_98 : decode cX12_heldIf 98 = .ok (.ireturn, 1) := by decide +kernel
set_option maxRecDepth 100000 in
set_option maxHeartbeats 200000 in
theorem T_X12_heldIf_77 {X : CX} (hX : Ok X cX12_heldIf 5 RX12 (some .int)) (hdx : dX X = 5) {r : Int32} (h : Hp) (x1 : Int32) (x2 : Int32) (x3 : Int32) (t0 : Int32) (hf : F_X12_heldIf_77 h x1 x2 x3 t0 = some r) : J X ((.inl (some (.int r)), h)) 77 [(0, .ref 30), (1, .int x1), (2, .int x2), (3, .int x3)] [.int t0] h := by
  unfold F_X12_heldIf_77 at hf
  refine J_istore hX [(4, .int t0), (0, .ref 30), (1, .int x1), (2, .int x2), (3, .int x3)] dX12_heldIf_77 rfl rfl ?_
  refine J_iload hX 0 dX12_heldIf_79 rfl ?_
  refine J_aload_n hX 1 dX12_heldIf_81 rfl rfl ?_
  refine J_getR hX 46 dX12_heldIf_82 fl_X12_64 ob_30 rfl rfl ?_
  refine J_iload_n hX 2 dX12_heldIf_85 rfl rfl ?_
  refine J_iconst hX 1 dX12_heldIf_86 rfl ?_
  refine J_iadd hX dX12_heldIf_87 ?_
  refine J_iload_n hX 3 dX12_heldIf_88 rfl rfl ?_
  refine J_iconst hX 1 dX12_heldIf_89 rfl ?_
  refine J_iload_n hX 4 dX12_heldIf_90 rfl rfl ?_
  refine J_ishl hX dX12_heldIf_91 ?_
  refine J_ior hX dX12_heldIf_92 ?_
  refine S_1 hX [.int (x1 + 1), .int (x2 ||| (shl 1 x3))] dX12_heldIf_93 cw_X12_476 (C_X12_heldAt (okG hX) rfl) (ltD hdx rfl) rfl rfl rfl rfl ?_
  obtain ⟨g_1, hf⟩ := gdE hf
  refine J_ald hX ((f_X12_heldAt (x1 + 1) (x2 ||| (shl 1 x3)) h).toNatClampNeg) dX12_heldIf_96 ar_46 (Or.inl ⟨rfl, rfl⟩) g_1 rfl ?_
  refine J_iadd hX dX12_heldIf_97 ?_
  exact E_Ip hX dX12_heldIf_98 hf
set_option maxRecDepth 100000 in
set_option maxHeartbeats 200000 in
theorem T_X12_heldIf_0 {X : CX} (hX : Ok X cX12_heldIf 5 RX12 (some .int)) (hdx : dX X = 5) {r : Int32} (x1 : Int32) (x2 : Int32) (x3 : Int32) (h : Hp) (hf : f_X12_heldIf x1 x2 x3 h = some r) : J X ((.inl (some (.int r)), h)) 0 [(0, .ref 30), (1, .int x1), (2, .int x2), (3, .int x3)] [] h := by
  unfold f_X12_heldIf at hf
  refine J_iload_n hX 3 dX12_heldIf_0 rfl rfl ?_
  refine J_iconst hX (-1) dX12_heldIf_1 rfl ?_
  rcases ifE hf with ⟨c_1, hf⟩ | ⟨c_1, hf⟩
  · refine J_icmp_neF hX 18 dX12_heldIf_2 rfl c_1 ?_
    refine J_aload_n hX 0 dX12_heldIf_5 rfl rfl ?_
    refine J_getR hX 46 dX12_heldIf_6 fl_X12_64 ob_30 rfl rfl ?_
    refine J_iload_n hX 1 dX12_heldIf_9 rfl rfl ?_
    refine J_iconst hX 1 dX12_heldIf_10 rfl ?_
    refine J_iadd hX dX12_heldIf_11 ?_
    refine J_iload_n hX 2 dX12_heldIf_12 rfl rfl ?_
    refine S_1 hX [.int (x1 + 1), .int x2] dX12_heldIf_13 cw_X12_476 (C_X12_heldAt (okG hX) rfl) (ltD hdx rfl) rfl rfl rfl rfl ?_
    obtain ⟨g_2, hf⟩ := gdE hf
    refine J_ald hX ((f_X12_heldAt (x1 + 1) x2 h).toNatClampNeg) dX12_heldIf_16 ar_46 (Or.inl ⟨rfl, rfl⟩) g_2 rfl ?_
    exact E_Ip hX dX12_heldIf_17 hf
  · refine J_icmp_neT hX 18 dX12_heldIf_2 rfl c_1 ?_
    refine J_aload_n hX 0 dX12_heldIf_18 rfl rfl ?_
    refine J_iload_n hX 3 dX12_heldIf_19 rfl rfl ?_
    obtain ⟨r_3, e_4, hf⟩ := bdE hf
    refine V_1 hX [.int x3] dX12_heldIf_20 cw_X12_91 ob_30 rfl (C_X12_isFallen (okG hX) e_4) (ltD hdx rfl) rfl rfl rfl rfl ?_
    rcases ifE hf with ⟨c_5, hf⟩ | ⟨c_5, hf⟩
    · refine J_if_neT hX 34 dX12_heldIf_23 rfl (b2iT c_5) ?_
      refine J_iconst hX (-1) dX12_heldIf_34 rfl ?_
      exact E_Ip hX dX12_heldIf_35 hf
    · refine J_if_neF hX 34 dX12_heldIf_23 rfl (b2iF c_5) ?_
      refine J_iload_n hX 2 dX12_heldIf_26 rfl rfl ?_
      refine J_iload_n hX 3 dX12_heldIf_27 rfl rfl ?_
      refine S_1 hX [.int x2, .int x3] dX12_heldIf_28 cw_X12_289 (C_X12_has (okG hX) rfl) (ltD hdx rfl) rfl rfl rfl rfl ?_
      rcases ifE hf with ⟨c_6, hf⟩ | ⟨c_6, hf⟩
      · refine J_if_eqF hX 36 dX12_heldIf_31 rfl (b2iT c_6) ?_
        refine J_iconst hX (-1) dX12_heldIf_34 rfl ?_
        exact E_Ip hX dX12_heldIf_35 hf
      · refine J_if_eqT hX 36 dX12_heldIf_31 rfl (b2iF c_6) ?_
        refine J_aload_n hX 0 dX12_heldIf_36 rfl rfl ?_
        refine J_iload_n hX 1 dX12_heldIf_37 rfl rfl ?_
        refine J_iconst hX 2 dX12_heldIf_38 rfl ?_
        obtain ⟨r_7, e_8, hf⟩ := bdE hf
        refine V_1 hX [.int x1, .int 2] dX12_heldIf_39 cw_X12_283 ob_30 rfl (C_X12_ofPerson (okG hX) e_8) (ltD hdx rfl) rfl rfl rfl rfl ?_
        refine J_aload_n hX 0 dX12_heldIf_42 rfl rfl ?_
        refine J_getR hX 31 dX12_heldIf_43 fl_X12_13 ob_30 rfl rfl ?_
        refine J_iconst hX 4 dX12_heldIf_46 rfl ?_
        refine J_ald hX 4 dX12_heldIf_47 ar_31 (Or.inl ⟨rfl, rfl⟩) (by decide) (by decide) ?_
        refine S_1 hX [.int r_7, .int (h 31 4)] dX12_heldIf_48 cw_X12_289 (C_X12_has (okG hX) rfl) (ltD hdx rfl) rfl rfl rfl rfl ?_
        rcases ifE hf with ⟨c_9, hf⟩ | ⟨c_9, hf⟩
        · refine J_if_eqF hX 76 dX12_heldIf_51 rfl (b2iT c_9) ?_
          refine J_iconst hX 0 dX12_heldIf_54 rfl ?_
          refine J_aload_n hX 0 dX12_heldIf_55 rfl rfl ?_
          refine J_iload_n hX 1 dX12_heldIf_56 rfl rfl ?_
          refine J_iconst hX 1 dX12_heldIf_57 rfl ?_
          obtain ⟨r_10, e_11, hf⟩ := bdE hf
          refine V_1 hX [.int x1, .int 1] dX12_heldIf_58 cw_X12_283 ob_30 rfl (C_X12_ofPerson (okG hX) e_11) (ltD hdx rfl) rfl rfl rfl rfl ?_
          refine J_aload_n hX 0 dX12_heldIf_61 rfl rfl ?_
          refine J_getR hX 45 dX12_heldIf_62 fl_X12_61 ob_30 rfl rfl ?_
          refine J_iload_n hX 3 dX12_heldIf_65 rfl rfl ?_
          obtain ⟨g_12, hf⟩ := gdE hf
          refine J_ald hX x3.toNatClampNeg dX12_heldIf_66 ar_45 (Or.inl ⟨rfl, rfl⟩) g_12 rfl ?_
          refine J_min hX dX12_heldIf_67 mw_X12_328 (ltD hdx rfl) rfl ?_
          refine J_max hX dX12_heldIf_70 mw_X12_314 (ltD hdx rfl) rfl ?_
          refine J_goto hX 77 dX12_heldIf_73 rfl ?_
          exact T_X12_heldIf_77 hX hdx h x1 x2 x3 (imax 0 (imin r_10 (h 45 x3.toNatClampNeg))) hf
        · refine J_if_eqT hX 76 dX12_heldIf_51 rfl (b2iF c_9) ?_
          refine J_iconst hX 0 dX12_heldIf_76 rfl ?_
          exact T_X12_heldIf_77 hX hdx h x1 x2 x3 0 hf
set_option maxRecDepth 100000 in
set_option maxHeartbeats 200000 in
theorem C_X12_heldIf {G : GX} (hG : GOk G) {x1 : Int32} {x2 : Int32} {x3 : Int32} {h : Hp} {r : Int32} (hf : f_X12_heldIf x1 x2 x3 h = some r) : Ctr G 5 yX12_heldIf cX12_heldIf 5 (some .int) [.ref 30, .int x1, .int x2, .int x3] h ((.inl (some (.int r)), h)) :=
  Ctr_of hG RX12 rfl (by decide) rfl (fun X _ hdx hX => T_X12_heldIf_0 hX hdx x1 x2 x3 h hf)
theorem dX12_laysGates_0 : decode cX12_laysGates 0 = .ok (.aload_n 0, 1) := by decide +kernel
theorem dX12_laysGates_1 : decode cX12_laysGates 1 = .ok (.invokevirtual 356, 3) := by decide +kernel
theorem dX12_laysGates_4 : decode cX12_laysGates 4 = .ok (.iconst 0, 1) := by decide +kernel
theorem dX12_laysGates_5 : decode cX12_laysGates 5 = .ok (.istore_n 1, 1) := by decide +kernel
theorem dX12_laysGates_6 : decode cX12_laysGates 6 = .ok (.iload_n 1, 1) := by decide +kernel
theorem dX12_laysGates_7 : decode cX12_laysGates 7 = .ok (.aload_n 0, 1) := by decide +kernel
theorem dX12_laysGates_8 : decode cX12_laysGates 8 = .ok (.invokevirtual 99, 3) := by decide +kernel
theorem dX12_laysGates_11 : decode cX12_laysGates 11 = .ok (.if_icmp .ge 20, 3) := by decide +kernel
theorem dX12_laysGates_14 : decode cX12_laysGates 14 = .ok (.aload_n 0, 1) := by decide +kernel
theorem dX12_laysGates_15 : decode cX12_laysGates 15 = .ok (.getfield 13, 3) := by decide +kernel
theorem dX12_laysGates_18 : decode cX12_laysGates 18 = .ok (.iload_n 1, 1) := by decide +kernel
theorem dX12_laysGates_19 : decode cX12_laysGates 19 = .ok (.iconst 0, 1) := by decide +kernel
theorem dX12_laysGates_20 : decode cX12_laysGates 20 = .ok (.invokestatic 81, 3) := by decide +kernel
theorem dX12_laysGates_23 : decode cX12_laysGates 23 = .ok (.iconst (-1), 1) := by decide +kernel
theorem dX12_laysGates_24 : decode cX12_laysGates 24 = .ok (.iastore, 1) := by decide +kernel
theorem dX12_laysGates_25 : decode cX12_laysGates 25 = .ok (.iinc 1 1, 3) := by decide +kernel
theorem dX12_laysGates_28 : decode cX12_laysGates 28 = .ok (.goto (-22), 3) := by decide +kernel
theorem dX12_laysGates_31 : decode cX12_laysGates 31 = .ok (.aload_n 0, 1) := by decide +kernel
theorem dX12_laysGates_32 : decode cX12_laysGates 32 = .ok (.invokevirtual 395, 3) := by decide +kernel
theorem dX12_laysGates_35 : decode cX12_laysGates 35 = .ok (.iconst 0, 1) := by decide +kernel
theorem dX12_laysGates_36 : decode cX12_laysGates 36 = .ok (.istore_n 1, 1) := by decide +kernel
theorem dX12_laysGates_37 : decode cX12_laysGates 37 = .ok (.iload_n 1, 1) := by decide +kernel
theorem dX12_laysGates_38 : decode cX12_laysGates 38 = .ok (.aload_n 0, 1) := by decide +kernel
theorem dX12_laysGates_39 : decode cX12_laysGates 39 = .ok (.invokevirtual 87, 3) := by decide +kernel
theorem dX12_laysGates_42 : decode cX12_laysGates 42 = .ok (.if_icmp .ge 20, 3) := by decide +kernel
theorem dX12_laysGates_45 : decode cX12_laysGates 45 = .ok (.aload_n 0, 1) := by decide +kernel
theorem dX12_laysGates_46 : decode cX12_laysGates 46 = .ok (.getfield 61, 3) := by decide +kernel
theorem dX12_laysGates_49 : decode cX12_laysGates 49 = .ok (.iload_n 1, 1) := by decide +kernel
theorem dX12_laysGates_50 : decode cX12_laysGates 50 = .ok (.aload_n 0, 1) := by decide +kernel
theorem dX12_laysGates_51 : decode cX12_laysGates 51 = .ok (.iload_n 1, 1) := by decide +kernel
theorem dX12_laysGates_52 : decode cX12_laysGates 52 = .ok (.invokevirtual 337, 3) := by decide +kernel
theorem dX12_laysGates_55 : decode cX12_laysGates 55 = .ok (.iastore, 1) := by decide +kernel
theorem dX12_laysGates_56 : decode cX12_laysGates 56 = .ok (.iinc 1 1, 3) := by decide +kernel
theorem dX12_laysGates_59 : decode cX12_laysGates 59 = .ok (.goto (-22), 3) := by decide +kernel
theorem dX12_laysGates_62 : decode cX12_laysGates 62 = .ok (.aload_n 0, 1) := by decide +kernel
theorem dX12_laysGates_63 : decode cX12_laysGates 63 = .ok (.invokevirtual 353, 3) := by decide +kernel
theorem dX12_laysGates_66 : decode cX12_laysGates 66 = .ok (.iconst 0, 1) := by decide +kernel
theorem dX12_laysGates_67 : decode cX12_laysGates 67 = .ok (.istore_n 1, 1) := by decide +kernel
theorem dX12_laysGates_68 : decode cX12_laysGates 68 = .ok (.iload_n 1, 1) := by decide +kernel
theorem dX12_laysGates_69 : decode cX12_laysGates 69 = .ok (.sipush 256, 3) := by decide +kernel
theorem dX12_laysGates_72 : decode cX12_laysGates 72 = .ok (.if_icmp .ge 23, 3) := by decide +kernel
theorem dX12_laysGates_75 : decode cX12_laysGates 75 = .ok (.aload_n 0, 1) := by decide +kernel
theorem dX12_laysGates_76 : decode cX12_laysGates 76 = .ok (.getfield 64, 3) := by decide +kernel
theorem dX12_laysGates_79 : decode cX12_laysGates 79 = .ok (.aload_n 0, 1) := by decide +kernel
theorem dX12_laysGates_80 : decode cX12_laysGates 80 = .ok (.invokevirtual 99, 3) := by decide +kernel
theorem dX12_laysGates_83 : decode cX12_laysGates 83 = .ok (.iload_n 1, 1) := by decide +kernel
theorem dX12_laysGates_84 : decode cX12_laysGates 84 = .ok (.invokestatic 476, 3) := by decide +kernel
theorem dX12_laysGates_87 : decode cX12_laysGates 87 = .ok (.iconst 0, 1) := by decide +kernel
theorem dX12_laysGates_88 : decode cX12_laysGates 88 = .ok (.iastore, 1) := by decide +kernel
theorem dX12_laysGates_89 : decode cX12_laysGates 89 = .ok (.iinc 1 1, 3) := by decide +kernel
theorem dX12_laysGates_92 : decode cX12_laysGates 92 = .ok (.goto (-24), 3) := by decide +kernel
theorem dX12_laysGates_95 : decode cX12_laysGates 95 = .ok (.aload_n 0, 1) := by decide +kernel
theorem dX12_laysGates_96 : decode cX12_laysGates 96 = .ok (.invokevirtual 99, 3) := by decide +kernel
theorem dX12_laysGates_99 : decode cX12_laysGates 99 = .ok (.iconst 1, 1) := by decide +kernel
theorem dX12_laysGates_100 : decode cX12_laysGates 100 = .ok (.isub, 1) := by decide +kernel
theorem dX12_laysGates_101 : decode cX12_laysGates 101 = .ok (.istore_n 1, 1) := by decide +kernel
theorem dX12_laysGates_102 : decode cX12_laysGates 102 = .ok (.iload_n 1, 1) := by decide +kernel
theorem dX12_laysGates_103 : decode cX12_laysGates 103 = .ok (.ifCond .lt 68, 3) := by decide +kernel
theorem dX12_laysGates_106 : decode cX12_laysGates 106 = .ok (.iconst 0, 1) := by decide +kernel
theorem dX12_laysGates_107 : decode cX12_laysGates 107 = .ok (.istore_n 2, 1) := by decide +kernel
theorem dX12_laysGates_108 : decode cX12_laysGates 108 = .ok (.iload_n 2, 1) := by decide +kernel
theorem dX12_laysGates_109 : decode cX12_laysGates 109 = .ok (.sipush 256, 3) := by decide +kernel
theorem dX12_laysGates_112 : decode cX12_laysGates 112 = .ok (.if_icmp .ge 53, 3) := by decide +kernel
theorem dX12_laysGates_115 : decode cX12_laysGates 115 = .ok (.iconst 0, 1) := by decide +kernel
theorem dX12_laysGates_116 : decode cX12_laysGates 116 = .ok (.istore_n 3, 1) := by decide +kernel
theorem dX12_laysGates_117 : decode cX12_laysGates 117 = .ok (.iconst (-1), 1) := by decide +kernel
theorem dX12_laysGates_118 : decode cX12_laysGates 118 = .ok (.istore 4, 2) := by decide +kernel
theorem dX12_laysGates_120 : decode cX12_laysGates 120 = .ok (.iload 4, 2) := by decide +kernel
theorem dX12_laysGates_122 : decode cX12_laysGates 122 = .ok (.aload_n 0, 1) := by decide +kernel
theorem dX12_laysGates_123 : decode cX12_laysGates 123 = .ok (.invokevirtual 87, 3) := by decide +kernel
theorem dX12_laysGates_126 : decode cX12_laysGates 126 = .ok (.if_icmp .ge 22, 3) := by decide +kernel
theorem dX12_laysGates_129 : decode cX12_laysGates 129 = .ok (.iload_n 3, 1) := by decide +kernel
theorem dX12_laysGates_130 : decode cX12_laysGates 130 = .ok (.aload_n 0, 1) := by decide +kernel
theorem dX12_laysGates_131 : decode cX12_laysGates 131 = .ok (.iload_n 1, 1) := by decide +kernel
theorem dX12_laysGates_132 : decode cX12_laysGates 132 = .ok (.iload_n 2, 1) := by decide +kernel
theorem dX12_laysGates_133 : decode cX12_laysGates 133 = .ok (.iload 4, 2) := by decide +kernel
theorem dX12_laysGates_135 : decode cX12_laysGates 135 = .ok (.invokevirtual 479, 3) := by decide +kernel
theorem dX12_laysGates_138 : decode cX12_laysGates 138 = .ok (.invokestatic 314, 3) := by decide +kernel
theorem dX12_laysGates_141 : decode cX12_laysGates 141 = .ok (.istore_n 3, 1) := by decide +kernel
theorem dX12_laysGates_142 : decode cX12_laysGates 142 = .ok (.iinc 4 1, 3) := by decide +kernel
theorem dX12_laysGates_145 : decode cX12_laysGates 145 = .ok (.goto (-25), 3) := by decide +kernel
theorem dX12_laysGates_148 : decode cX12_laysGates 148 = .ok (.aload_n 0, 1) := by decide +kernel
theorem dX12_laysGates_149 : decode cX12_laysGates 149 = .ok (.getfield 64, 3) := by decide +kernel
theorem dX12_laysGates_152 : decode cX12_laysGates 152 = .ok (.iload_n 1, 1) := by decide +kernel
theorem dX12_laysGates_153 : decode cX12_laysGates 153 = .ok (.iload_n 2, 1) := by decide +kernel
theorem dX12_laysGates_154 : decode cX12_laysGates 154 = .ok (.invokestatic 476, 3) := by decide +kernel
theorem dX12_laysGates_157 : decode cX12_laysGates 157 = .ok (.iload_n 3, 1) := by decide +kernel
theorem dX12_laysGates_158 : decode cX12_laysGates 158 = .ok (.iastore, 1) := by decide +kernel
theorem dX12_laysGates_159 : decode cX12_laysGates 159 = .ok (.iinc 2 1, 3) := by decide +kernel
theorem dX12_laysGates_162 : decode cX12_laysGates 162 = .ok (.goto (-54), 3) := by decide +kernel
theorem dX12_laysGates_165 : decode cX12_laysGates 165 = .ok (.iinc 1 (-1), 3) := by decide +kernel
theorem dX12_laysGates_168 : decode cX12_laysGates 168 = .ok (.goto (-66), 3) := by decide +kernel
theorem dX12_laysGates_171 : decode cX12_laysGates 171 = .ok (.return_, 1) := by decide +kernel
set_option maxRecDepth 100000 in
set_option maxHeartbeats 200000 in
theorem T_X12_laysGates_120_s {X : CX} (hX : Ok X cX12_laysGates 5 RX12 none) (hdx : dX X = 11) {r : Hp} (x1 : Int32) (x2 : Int32) (q_102 : Int32 → Hp → Option Hp) (hq_102 : ∀ (x1 : Int32) (h : Hp), q_102 x1 h = some r → J X ((.inl none, r)) 102 [(0, .ref 30), (1, .int x1)] [] h) (q_108 : Int32 → Hp → Option Hp) (hq_108 : ∀ (x2 : Int32) (h : Hp), q_108 x2 h = some r → J X ((.inl none, r)) 108 [(0, .ref 30), (1, .int x1), (2, .int x2)] [] h) (q_120 : Int32 → Int32 → Hp → Option Hp) (hq_120 : ∀ (x3 : Int32) (x4 : Int32) (h : Hp), q_120 x3 x4 h = some r → J X ((.inl none, r)) 120 [(0, .ref 30), (1, .int x1), (2, .int x2), (3, .int x3), (4, .int x4)] [] h) (x3 : Int32) (x4 : Int32) (h : Hp) (hf : S_X12_laysGates_120 q_102 q_108 x1 x2 q_120 x3 x4 h = some r) : J X ((.inl none, r)) 120 [(0, .ref 30), (1, .int x1), (2, .int x2), (3, .int x3), (4, .int x4)] [] h := by
  unfold S_X12_laysGates_120 at hf
  refine J_iload hX 4 dX12_laysGates_120 rfl ?_
  refine J_aload_n hX 0 dX12_laysGates_122 rfl rfl ?_
  refine V_1 hX [] dX12_laysGates_123 cw_X12_87 ob_30 rfl (C_X12_houses (okG hX) rfl) (ltD hdx rfl) rfl rfl rfl rfl ?_
  rcases ifE hf with ⟨c_1, hf⟩ | ⟨c_1, hf⟩
  · refine J_icmp_geF hX 148 dX12_laysGates_126 rfl c_1 ?_
    refine J_iload_n hX 3 dX12_laysGates_129 rfl rfl ?_
    refine J_aload_n hX 0 dX12_laysGates_130 rfl rfl ?_
    refine J_iload_n hX 1 dX12_laysGates_131 rfl rfl ?_
    refine J_iload_n hX 2 dX12_laysGates_132 rfl rfl ?_
    refine J_iload hX 4 dX12_laysGates_133 rfl ?_
    obtain ⟨r_2, e_3, hf⟩ := bdE hf
    refine V_1 hX [.int x1, .int x2, .int x4] dX12_laysGates_135 cw_X12_479 ob_30 rfl (C_X12_heldIf (okG hX) e_3) (ltD hdx rfl) rfl rfl rfl rfl ?_
    refine J_max hX dX12_laysGates_138 mw_X12_314 (ltD hdx rfl) rfl ?_
    obtain ⟨x3_4, e_5, hf⟩ := bndE hf
    refine J_nm e_5 ?_
    refine J_istore_n hX [(3, .int x3_4), (0, .ref 30), (1, .int x1), (2, .int x2), (4, .int x4)] dX12_laysGates_141 rfl rfl rfl ?_
    refine J_iinc hX (x4 + 1) 4 [(4, .int (x4 + 1)), (3, .int x3_4), (0, .ref 30), (1, .int x1), (2, .int x2)] dX12_laysGates_142 rfl rfl rfl rfl ?_
    refine J_goto hX 120 dX12_laysGates_145 rfl ?_
    refine J_sub [2, 3, 4, 1, 0] [(0, .ref 30), (1, .int x1), (2, .int x2), (3, .int x3_4), (4, .int (x4 + 1))] rfl ?_
    exact hq_120 x3_4 (x4 + 1) h hf
  · refine J_icmp_geT hX 148 dX12_laysGates_126 rfl c_1 ?_
    refine J_aload_n hX 0 dX12_laysGates_148 rfl rfl ?_
    refine J_getR hX 46 dX12_laysGates_149 fl_X12_64 ob_30 rfl rfl ?_
    refine J_iload_n hX 1 dX12_laysGates_152 rfl rfl ?_
    refine J_iload_n hX 2 dX12_laysGates_153 rfl rfl ?_
    refine S_1 hX [.int x1, .int x2] dX12_laysGates_154 cw_X12_476 (C_X12_heldAt (okG hX) rfl) (ltD hdx rfl) rfl rfl rfl rfl ?_
    refine J_iload_n hX 3 dX12_laysGates_157 rfl rfl ?_
    obtain ⟨g_6, hf⟩ := gdE hf
    obtain ⟨h_7, e_8, hf⟩ := bndE hf
    refine J_ast hX ((f_X12_heldAt x1 x2 h).toNatClampNeg) x3 dX12_laysGates_158 ar_46 (Or.inl ⟨rfl, rfl, rfl⟩) g_6 rfl ?_
    refine J_nmh e_8 ?_
    refine J_iinc hX (x2 + 1) 2 [(2, .int (x2 + 1)), (0, .ref 30), (1, .int x1), (3, .int x3), (4, .int x4)] dX12_laysGates_159 rfl rfl rfl rfl ?_
    refine J_goto hX 108 dX12_laysGates_162 rfl ?_
    refine J_sub [1, 2, 0] [(0, .ref 30), (1, .int x1), (2, .int (x2 + 1))] rfl ?_
    exact hq_108 (x2 + 1) h_7 hf
set_option maxRecDepth 100000 in
set_option maxHeartbeats 200000 in
theorem T_X12_laysGates_120 {X : CX} (hX : Ok X cX12_laysGates 5 RX12 none) (hdx : dX X = 11) {r : Hp} (x1 : Int32) (x2 : Int32) (q_102 : Int32 → Hp → Option Hp) (hq_102 : ∀ (x1 : Int32) (h : Hp), q_102 x1 h = some r → J X ((.inl none, r)) 102 [(0, .ref 30), (1, .int x1)] [] h) (q_108 : Int32 → Hp → Option Hp) (hq_108 : ∀ (x2 : Int32) (h : Hp), q_108 x2 h = some r → J X ((.inl none, r)) 108 [(0, .ref 30), (1, .int x1), (2, .int x2)] [] h) : ∀ (n : Nat) (x3 : Int32) (x4 : Int32) (h : Hp), F_X12_laysGates_120 q_102 q_108 x1 x2 n x3 x4 h = some r → J X ((.inl none, r)) 120 [(0, .ref 30), (1, .int x1), (2, .int x2), (3, .int x3), (4, .int x4)] [] h := by
  intro n
  induction n with
  | zero => intro x3 x4 h hf; exact nomatch hf
  | succ n ih => intro x3 x4 h hf; exact T_X12_laysGates_120_s hX hdx x1 x2 q_102 hq_102 q_108 hq_108 _ (fun x3 x4 h hf => ih x3 x4 h hf) x3 x4 h hf
set_option maxRecDepth 100000 in
set_option maxHeartbeats 200000 in
theorem T_X12_laysGates_108_s {X : CX} (hX : Ok X cX12_laysGates 5 RX12 none) (hdx : dX X = 11) {r : Hp} (x1 : Int32) (q_102 : Int32 → Hp → Option Hp) (hq_102 : ∀ (x1 : Int32) (h : Hp), q_102 x1 h = some r → J X ((.inl none, r)) 102 [(0, .ref 30), (1, .int x1)] [] h) (q_108 : Int32 → Hp → Option Hp) (hq_108 : ∀ (x2 : Int32) (h : Hp), q_108 x2 h = some r → J X ((.inl none, r)) 108 [(0, .ref 30), (1, .int x1), (2, .int x2)] [] h) (x2 : Int32) (h : Hp) (hf : S_X12_laysGates_108 q_102 x1 q_108 x2 h = some r) : J X ((.inl none, r)) 108 [(0, .ref 30), (1, .int x1), (2, .int x2)] [] h := by
  unfold S_X12_laysGates_108 at hf
  refine J_iload_n hX 2 dX12_laysGates_108 rfl rfl ?_
  refine J_sipush hX 256 dX12_laysGates_109 rfl ?_
  rcases ifE hf with ⟨c_1, hf⟩ | ⟨c_1, hf⟩
  · refine J_icmp_geF hX 165 dX12_laysGates_112 rfl c_1 ?_
    refine J_iconst hX 0 dX12_laysGates_115 rfl ?_
    refine J_istore_n hX [(3, .int 0), (0, .ref 30), (1, .int x1), (2, .int x2)] dX12_laysGates_116 rfl rfl rfl ?_
    refine J_iconst hX (-1) dX12_laysGates_117 rfl ?_
    refine J_istore hX [(4, .int (-1)), (3, .int 0), (0, .ref 30), (1, .int x1), (2, .int x2)] dX12_laysGates_118 rfl rfl ?_
    refine J_sub [2, 3, 4, 1, 0] [(0, .ref 30), (1, .int x1), (2, .int x2), (3, .int 0), (4, .int (-1))] rfl ?_
    exact T_X12_laysGates_120 hX hdx x1 x2 q_102 hq_102 q_108 hq_108 FU 0 (-1) h hf
  · refine J_icmp_geT hX 165 dX12_laysGates_112 rfl c_1 ?_
    refine J_iinc hX (x1 + (-1)) 1 [(1, .int (x1 + (-1))), (0, .ref 30), (2, .int x2)] dX12_laysGates_165 rfl rfl rfl rfl ?_
    refine J_goto hX 102 dX12_laysGates_168 rfl ?_
    refine J_sub [1, 0] [(0, .ref 30), (1, .int (x1 + (-1)))] rfl ?_
    exact hq_102 (x1 + (-1)) h hf
set_option maxRecDepth 100000 in
set_option maxHeartbeats 200000 in
theorem T_X12_laysGates_108 {X : CX} (hX : Ok X cX12_laysGates 5 RX12 none) (hdx : dX X = 11) {r : Hp} (x1 : Int32) (q_102 : Int32 → Hp → Option Hp) (hq_102 : ∀ (x1 : Int32) (h : Hp), q_102 x1 h = some r → J X ((.inl none, r)) 102 [(0, .ref 30), (1, .int x1)] [] h) : ∀ (n : Nat) (x2 : Int32) (h : Hp), F_X12_laysGates_108 q_102 x1 n x2 h = some r → J X ((.inl none, r)) 108 [(0, .ref 30), (1, .int x1), (2, .int x2)] [] h := by
  intro n
  induction n with
  | zero => intro x2 h hf; exact nomatch hf
  | succ n ih => intro x2 h hf; exact T_X12_laysGates_108_s hX hdx x1 q_102 hq_102 _ (fun x2 h hf => ih x2 h hf) x2 h hf
set_option maxRecDepth 100000 in
set_option maxHeartbeats 200000 in
theorem T_X12_laysGates_102_s {X : CX} (hX : Ok X cX12_laysGates 5 RX12 none) (hdx : dX X = 11) {r : Hp} (q_102 : Int32 → Hp → Option Hp) (hq_102 : ∀ (x1 : Int32) (h : Hp), q_102 x1 h = some r → J X ((.inl none, r)) 102 [(0, .ref 30), (1, .int x1)] [] h) (x1 : Int32) (h : Hp) (hf : S_X12_laysGates_102 q_102 x1 h = some r) : J X ((.inl none, r)) 102 [(0, .ref 30), (1, .int x1)] [] h := by
  unfold S_X12_laysGates_102 at hf
  refine J_iload_n hX 1 dX12_laysGates_102 rfl rfl ?_
  rcases ifE hf with ⟨c_1, hf⟩ | ⟨c_1, hf⟩
  · refine J_if_ltT hX 171 dX12_laysGates_103 rfl c_1 ?_
    exact E_Vi hX dX12_laysGates_171 hf
  · refine J_if_ltF hX 171 dX12_laysGates_103 rfl c_1 ?_
    refine J_iconst hX 0 dX12_laysGates_106 rfl ?_
    refine J_istore_n hX [(2, .int 0), (0, .ref 30), (1, .int x1)] dX12_laysGates_107 rfl rfl rfl ?_
    refine J_sub [1, 2, 0] [(0, .ref 30), (1, .int x1), (2, .int 0)] rfl ?_
    exact T_X12_laysGates_108 hX hdx x1 q_102 hq_102 FU 0 h hf
set_option maxRecDepth 100000 in
set_option maxHeartbeats 200000 in
theorem T_X12_laysGates_102 {X : CX} (hX : Ok X cX12_laysGates 5 RX12 none) (hdx : dX X = 11) {r : Hp} : ∀ (n : Nat) (x1 : Int32) (h : Hp), F_X12_laysGates_102 n x1 h = some r → J X ((.inl none, r)) 102 [(0, .ref 30), (1, .int x1)] [] h := by
  intro n
  induction n with
  | zero => intro x1 h hf; exact nomatch hf
  | succ n ih => intro x1 h hf; exact T_X12_laysGates_102_s hX hdx _ (fun x1 h hf => ih x1 h hf) x1 h hf
set_option maxRecDepth 100000 in
set_option maxHeartbeats 200000 in
theorem T_X12_laysGates_68_s {X : CX} (hX : Ok X cX12_laysGates 5 RX12 none) (hdx : dX X = 11) {r : Hp} (q_68 : Int32 → Hp → Option Hp) (hq_68 : ∀ (x1 : Int32) (h : Hp), q_68 x1 h = some r → J X ((.inl none, r)) 68 [(0, .ref 30), (1, .int x1)] [] h) (x1 : Int32) (h : Hp) (hf : S_X12_laysGates_68 q_68 x1 h = some r) : J X ((.inl none, r)) 68 [(0, .ref 30), (1, .int x1)] [] h := by
  unfold S_X12_laysGates_68 at hf
  refine J_iload_n hX 1 dX12_laysGates_68 rfl rfl ?_
  refine J_sipush hX 256 dX12_laysGates_69 rfl ?_
  rcases ifE hf with ⟨c_1, hf⟩ | ⟨c_1, hf⟩
  · refine J_icmp_geF hX 95 dX12_laysGates_72 rfl c_1 ?_
    refine J_aload_n hX 0 dX12_laysGates_75 rfl rfl ?_
    refine J_getR hX 46 dX12_laysGates_76 fl_X12_64 ob_30 rfl rfl ?_
    refine J_aload_n hX 0 dX12_laysGates_79 rfl rfl ?_
    refine V_1 hX [] dX12_laysGates_80 cw_X12_99 ob_30 rfl (C_X12_people (okG hX) rfl) (ltD hdx rfl) rfl rfl rfl rfl ?_
    refine J_iload_n hX 1 dX12_laysGates_83 rfl rfl ?_
    refine S_1 hX [.int (f_X12_people h), .int x1] dX12_laysGates_84 cw_X12_476 (C_X12_heldAt (okG hX) rfl) (ltD hdx rfl) rfl rfl rfl rfl ?_
    refine J_iconst hX 0 dX12_laysGates_87 rfl ?_
    obtain ⟨g_2, hf⟩ := gdE hf
    obtain ⟨h_3, e_4, hf⟩ := bndE hf
    refine J_ast hX ((f_X12_heldAt (f_X12_people h) x1 h).toNatClampNeg) 0 dX12_laysGates_88 ar_46 (Or.inl ⟨rfl, rfl, rfl⟩) g_2 rfl ?_
    refine J_nmh e_4 ?_
    refine J_iinc hX (x1 + 1) 1 [(1, .int (x1 + 1)), (0, .ref 30)] dX12_laysGates_89 rfl rfl rfl rfl ?_
    refine J_goto hX 68 dX12_laysGates_92 rfl ?_
    refine J_sub [1, 0] [(0, .ref 30), (1, .int (x1 + 1))] rfl ?_
    exact hq_68 (x1 + 1) h_3 hf
  · refine J_icmp_geT hX 95 dX12_laysGates_72 rfl c_1 ?_
    refine J_aload_n hX 0 dX12_laysGates_95 rfl rfl ?_
    refine V_1 hX [] dX12_laysGates_96 cw_X12_99 ob_30 rfl (C_X12_people (okG hX) rfl) (ltD hdx rfl) rfl rfl rfl rfl ?_
    refine J_iconst hX 1 dX12_laysGates_99 rfl ?_
    refine J_isub hX dX12_laysGates_100 ?_
    obtain ⟨x1_5, e_6, hf⟩ := bndE hf
    refine J_nm e_6 ?_
    refine J_istore_n hX [(1, .int x1_5), (0, .ref 30)] dX12_laysGates_101 rfl rfl rfl ?_
    refine J_sub [1, 0] [(0, .ref 30), (1, .int x1_5)] rfl ?_
    exact T_X12_laysGates_102 hX hdx FU x1_5 h hf
set_option maxRecDepth 100000 in
set_option maxHeartbeats 200000 in
theorem T_X12_laysGates_68 {X : CX} (hX : Ok X cX12_laysGates 5 RX12 none) (hdx : dX X = 11) {r : Hp} : ∀ (n : Nat) (x1 : Int32) (h : Hp), F_X12_laysGates_68 n x1 h = some r → J X ((.inl none, r)) 68 [(0, .ref 30), (1, .int x1)] [] h := by
  intro n
  induction n with
  | zero => intro x1 h hf; exact nomatch hf
  | succ n ih => intro x1 h hf; exact T_X12_laysGates_68_s hX hdx _ (fun x1 h hf => ih x1 h hf) x1 h hf
set_option maxRecDepth 100000 in
set_option maxHeartbeats 200000 in
theorem T_X12_laysGates_37_s {X : CX} (hX : Ok X cX12_laysGates 5 RX12 none) (hdx : dX X = 11) {r : Hp} (q_37 : Int32 → Hp → Option Hp) (hq_37 : ∀ (x1 : Int32) (h : Hp), q_37 x1 h = some r → J X ((.inl none, r)) 37 [(0, .ref 30), (1, .int x1)] [] h) (x1 : Int32) (h : Hp) (hf : S_X12_laysGates_37 q_37 x1 h = some r) : J X ((.inl none, r)) 37 [(0, .ref 30), (1, .int x1)] [] h := by
  unfold S_X12_laysGates_37 at hf
  refine J_iload_n hX 1 dX12_laysGates_37 rfl rfl ?_
  refine J_aload_n hX 0 dX12_laysGates_38 rfl rfl ?_
  refine V_1 hX [] dX12_laysGates_39 cw_X12_87 ob_30 rfl (C_X12_houses (okG hX) rfl) (ltD hdx rfl) rfl rfl rfl rfl ?_
  rcases ifE hf with ⟨c_1, hf⟩ | ⟨c_1, hf⟩
  · refine J_icmp_geF hX 62 dX12_laysGates_42 rfl c_1 ?_
    refine J_aload_n hX 0 dX12_laysGates_45 rfl rfl ?_
    refine J_getR hX 45 dX12_laysGates_46 fl_X12_61 ob_30 rfl rfl ?_
    refine J_iload_n hX 1 dX12_laysGates_49 rfl rfl ?_
    refine J_aload_n hX 0 dX12_laysGates_50 rfl rfl ?_
    refine J_iload_n hX 1 dX12_laysGates_51 rfl rfl ?_
    obtain ⟨r_2, e_3, hf⟩ := bdE hf
    refine V_1 hX [.int x1] dX12_laysGates_52 cw_X12_337 ob_30 rfl (C_X12_sagsNow (okG hX) e_3) (ltD hdx rfl) rfl rfl rfl rfl ?_
    obtain ⟨g_4, hf⟩ := gdE hf
    obtain ⟨h_5, e_6, hf⟩ := bndE hf
    refine J_ast hX x1.toNatClampNeg r_2.1 dX12_laysGates_55 ar_45 (Or.inl ⟨rfl, rfl, rfl⟩) g_4 rfl ?_
    refine J_nmh e_6 ?_
    refine J_iinc hX (x1 + 1) 1 [(1, .int (x1 + 1)), (0, .ref 30)] dX12_laysGates_56 rfl rfl rfl rfl ?_
    refine J_goto hX 37 dX12_laysGates_59 rfl ?_
    refine J_sub [1, 0] [(0, .ref 30), (1, .int (x1 + 1))] rfl ?_
    exact hq_37 (x1 + 1) h_5 hf
  · refine J_icmp_geT hX 62 dX12_laysGates_42 rfl c_1 ?_
    refine J_aload_n hX 0 dX12_laysGates_62 rfl rfl ?_
    obtain ⟨r_7, e_8, hf⟩ := bdE hf
    refine V_0 hX [] dX12_laysGates_63 cw_X12_353 ob_30 rfl (C_X12_bringsBack (okG hX) e_8) (ltD hdx rfl) rfl rfl rfl rfl ?_
    refine J_iconst hX 0 dX12_laysGates_66 rfl ?_
    refine J_istore_n hX [(1, .int 0), (0, .ref 30)] dX12_laysGates_67 rfl rfl rfl ?_
    refine J_sub [1, 0] [(0, .ref 30), (1, .int 0)] rfl ?_
    exact T_X12_laysGates_68 hX hdx FU 0 r_7 hf
set_option maxRecDepth 100000 in
set_option maxHeartbeats 200000 in
theorem T_X12_laysGates_37 {X : CX} (hX : Ok X cX12_laysGates 5 RX12 none) (hdx : dX X = 11) {r : Hp} : ∀ (n : Nat) (x1 : Int32) (h : Hp), F_X12_laysGates_37 n x1 h = some r → J X ((.inl none, r)) 37 [(0, .ref 30), (1, .int x1)] [] h := by
  intro n
  induction n with
  | zero => intro x1 h hf; exact nomatch hf
  | succ n ih => intro x1 h hf; exact T_X12_laysGates_37_s hX hdx _ (fun x1 h hf => ih x1 h hf) x1 h hf
set_option maxRecDepth 100000 in
set_option maxHeartbeats 200000 in
theorem T_X12_laysGates_6_s {X : CX} (hX : Ok X cX12_laysGates 5 RX12 none) (hdx : dX X = 11) {r : Hp} (q_6 : Int32 → Hp → Option Hp) (hq_6 : ∀ (x1 : Int32) (h : Hp), q_6 x1 h = some r → J X ((.inl none, r)) 6 [(0, .ref 30), (1, .int x1)] [] h) (x1 : Int32) (h : Hp) (hf : S_X12_laysGates_6 q_6 x1 h = some r) : J X ((.inl none, r)) 6 [(0, .ref 30), (1, .int x1)] [] h := by
  unfold S_X12_laysGates_6 at hf
  refine J_iload_n hX 1 dX12_laysGates_6 rfl rfl ?_
  refine J_aload_n hX 0 dX12_laysGates_7 rfl rfl ?_
  refine V_1 hX [] dX12_laysGates_8 cw_X12_99 ob_30 rfl (C_X12_people (okG hX) rfl) (ltD hdx rfl) rfl rfl rfl rfl ?_
  rcases ifE hf with ⟨c_1, hf⟩ | ⟨c_1, hf⟩
  · refine J_icmp_geF hX 31 dX12_laysGates_11 rfl c_1 ?_
    refine J_aload_n hX 0 dX12_laysGates_14 rfl rfl ?_
    refine J_getR hX 31 dX12_laysGates_15 fl_X12_13 ob_30 rfl rfl ?_
    refine J_iload_n hX 1 dX12_laysGates_18 rfl rfl ?_
    refine J_iconst hX 0 dX12_laysGates_19 rfl ?_
    refine S_1 hX [.int x1, .int 0] dX12_laysGates_20 cw_X12_81 (C_X12_personAt (okG hX) rfl) (ltD hdx rfl) rfl rfl rfl rfl ?_
    refine J_iconst hX (-1) dX12_laysGates_23 rfl ?_
    obtain ⟨g_2, hf⟩ := gdE hf
    obtain ⟨h_3, e_4, hf⟩ := bndE hf
    refine J_ast hX ((f_X12_personAt x1 0 h).toNatClampNeg) (-1) dX12_laysGates_24 ar_31 (Or.inl ⟨rfl, rfl, rfl⟩) g_2 rfl ?_
    refine J_nmh e_4 ?_
    refine J_iinc hX (x1 + 1) 1 [(1, .int (x1 + 1)), (0, .ref 30)] dX12_laysGates_25 rfl rfl rfl rfl ?_
    refine J_goto hX 6 dX12_laysGates_28 rfl ?_
    refine J_sub [1, 0] [(0, .ref 30), (1, .int (x1 + 1))] rfl ?_
    exact hq_6 (x1 + 1) h_3 hf
  · refine J_icmp_geT hX 31 dX12_laysGates_11 rfl c_1 ?_
    refine J_aload_n hX 0 dX12_laysGates_31 rfl rfl ?_
    obtain ⟨r_5, e_6, hf⟩ := bdE hf
    refine V_0 hX [] dX12_laysGates_32 cw_X12_395 ob_30 rfl (C_X12_laysNow (okG hX) e_6) (ltD hdx rfl) rfl rfl rfl rfl ?_
    refine J_iconst hX 0 dX12_laysGates_35 rfl ?_
    refine J_istore_n hX [(1, .int 0), (0, .ref 30)] dX12_laysGates_36 rfl rfl rfl ?_
    refine J_sub [1, 0] [(0, .ref 30), (1, .int 0)] rfl ?_
    exact T_X12_laysGates_37 hX hdx FU 0 r_5 hf
set_option maxRecDepth 100000 in
set_option maxHeartbeats 200000 in
theorem T_X12_laysGates_6 {X : CX} (hX : Ok X cX12_laysGates 5 RX12 none) (hdx : dX X = 11) {r : Hp} : ∀ (n : Nat) (x1 : Int32) (h : Hp), F_X12_laysGates_6 n x1 h = some r → J X ((.inl none, r)) 6 [(0, .ref 30), (1, .int x1)] [] h := by
  intro n
  induction n with
  | zero => intro x1 h hf; exact nomatch hf
  | succ n ih => intro x1 h hf; exact T_X12_laysGates_6_s hX hdx _ (fun x1 h hf => ih x1 h hf) x1 h hf
set_option maxRecDepth 100000 in
set_option maxHeartbeats 200000 in
theorem T_X12_laysGates_0 {X : CX} (hX : Ok X cX12_laysGates 5 RX12 none) (hdx : dX X = 11) {r : Hp} (h : Hp) (hf : f_X12_laysGates h = some r) : J X ((.inl none, r)) 0 [(0, .ref 30)] [] h := by
  unfold f_X12_laysGates at hf
  refine J_aload_n hX 0 dX12_laysGates_0 rfl rfl ?_
  obtain ⟨r_1, e_2, hf⟩ := bdE hf
  refine V_0 hX [] dX12_laysGates_1 cw_X12_356 ob_30 rfl (C_X12_keepsAll (okG hX) e_2) (ltD hdx rfl) rfl rfl rfl rfl ?_
  refine J_iconst hX 0 dX12_laysGates_4 rfl ?_
  refine J_istore_n hX [(1, .int 0), (0, .ref 30)] dX12_laysGates_5 rfl rfl rfl ?_
  refine J_sub [1, 0] [(0, .ref 30), (1, .int 0)] rfl ?_
  exact T_X12_laysGates_6 hX hdx FU 0 r_1 hf
set_option maxRecDepth 100000 in
set_option maxHeartbeats 200000 in
theorem C_X12_laysGates {G : GX} (hG : GOk G) {h : Hp} {r : Hp} (hf : f_X12_laysGates h = some r) : Ctr G 11 yX12_laysGates cX12_laysGates 5 none [.ref 30] h ((.inl none, r)) :=
  Ctr_of hG RX12 rfl (by decide) rfl (fun X _ hdx hX => T_X12_laysGates_0 hX hdx h hf)
theorem dX12_gates_0 : decode cX12_gates 0 = .ok (.aload_n 0, 1) := by decide +kernel
theorem dX12_gates_1 : decode cX12_gates 1 = .ok (.iconst 0, 1) := by decide +kernel
theorem dX12_gates_2 : decode cX12_gates 2 = .ok (.putfield 3, 3) := by decide +kernel
theorem dX12_gates_5 : decode cX12_gates 5 = .ok (.aload_n 0, 1) := by decide +kernel
theorem dX12_gates_6 : decode cX12_gates 6 = .ok (.iload_n 1, 1) := by decide +kernel
theorem dX12_gates_7 : decode cX12_gates 7 = .ok (.iconst (-1), 1) := by decide +kernel
theorem dX12_gates_8 : decode cX12_gates 8 = .ok (.if_icmp .eq 15, 3) := by decide +kernel
theorem dX12_gates_11 : decode cX12_gates 11 = .ok (.aload_n 0, 1) := by decide +kernel
theorem dX12_gates_12 : decode cX12_gates 12 = .ok (.iload_n 1, 1) := by decide +kernel
theorem dX12_gates_13 : decode cX12_gates 13 = .ok (.invokevirtual 407, 3) := by decide +kernel
theorem dX12_gates_16 : decode cX12_gates 16 = .ok (.ifCond .eq 7, 3) := by decide +kernel
theorem dX12_gates_19 : decode cX12_gates 19 = .ok (.iconst 1, 1) := by decide +kernel
theorem dX12_gates_20 : decode cX12_gates 20 = .ok (.goto 4, 3) := by decide +kernel
theorem dX12_gates_23 : decode cX12_gates 23 = .ok (.iconst 0, 1) := by decide +kernel
theorem dX12_gates_24 : decode cX12_gates 24 = .ok (.iconst 1, 1) := by decide +kernel
theorem dX12_gates_25 : decode cX12_gates 25 = .ok (.invokevirtual 280, 3) := by decide +kernel
theorem dX12_gates_28 : decode cX12_gates 28 = .ok (.ifCond .eq 5, 3) := by decide +kernel
theorem dX12_gates_31 : decode cX12_gates 31 = .ok (.iconst 0, 1) := by decide +kernel
theorem dX12_gates_32 : decode cX12_gates 32 = .ok (.ireturn, 1) := by decide +kernel
theorem dX12_gates_33 : decode cX12_gates 33 = .ok (.aload_n 0, 1) := by decide +kernel
theorem dX12_gates_34 : decode cX12_gates 34 = .ok (.invokevirtual 482, 3) := by decide +kernel
theorem dX12_gates_37 : decode cX12_gates 37 = .ok (.iload_n 1, 1) := by decide +kernel
theorem dX12_gates_38 : decode cX12_gates 38 = .ok (.iconst (-1), 1) := by decide +kernel
theorem dX12_gates_39 : decode cX12_gates 39 = .ok (.if_icmp .ne 10, 3) := by decide +kernel
theorem dX12_gates_42 : decode cX12_gates 42 = .ok (.aload_n 0, 1) := by decide +kernel
theorem dX12_gates_43 : decode cX12_gates 43 = .ok (.getfield 64, 3) := by decide +kernel
theorem dX12_gates_46 : decode cX12_gates 46 = .ok (.iconst 0, 1) := by decide +kernel
theorem dX12_gates_47 : decode cX12_gates 47 = .ok (.iaload, 1) := by decide +kernel
theorem dX12_gates_48 : decode cX12_gates 48 = .ok (.ireturn, 1) := by decide +kernel
theorem dX12_gates_49 : decode cX12_gates 49 = .ok (.iconst 0, 1) := by decide +kernel
theorem dX12_gates_50 : decode cX12_gates 50 = .ok (.istore_n 2, 1) := by decide +kernel
theorem dX12_gates_51 : decode cX12_gates 51 = .ok (.iconst (-1), 1) := by decide +kernel
theorem dX12_gates_52 : decode cX12_gates 52 = .ok (.istore_n 3, 1) := by decide +kernel
theorem dX12_gates_53 : decode cX12_gates 53 = .ok (.iconst 0, 1) := by decide +kernel
theorem dX12_gates_54 : decode cX12_gates 54 = .ok (.istore 4, 2) := by decide +kernel
theorem dX12_gates_56 : decode cX12_gates 56 = .ok (.iload 4, 2) := by decide +kernel
theorem dX12_gates_58 : decode cX12_gates 58 = .ok (.iload_n 1, 1) := by decide +kernel
theorem dX12_gates_59 : decode cX12_gates 59 = .ok (.if_icmp .gt 54, 3) := by decide +kernel
theorem dX12_gates_62 : decode cX12_gates 62 = .ok (.iconst (-1), 1) := by decide +kernel
theorem dX12_gates_63 : decode cX12_gates 63 = .ok (.istore_n 3, 1) := by decide +kernel
theorem dX12_gates_64 : decode cX12_gates 64 = .ok (.aload_n 0, 1) := by decide +kernel
theorem dX12_gates_65 : decode cX12_gates 65 = .ok (.iload 4, 2) := by decide +kernel
theorem dX12_gates_67 : decode cX12_gates 67 = .ok (.iload_n 2, 1) := by decide +kernel
theorem dX12_gates_68 : decode cX12_gates 68 = .ok (.iload_n 3, 1) := by decide +kernel
theorem dX12_gates_69 : decode cX12_gates 69 = .ok (.invokevirtual 479, 3) := by decide +kernel
theorem dX12_gates_72 : decode cX12_gates 72 = .ok (.aload_n 0, 1) := by decide +kernel
theorem dX12_gates_73 : decode cX12_gates 73 = .ok (.getfield 64, 3) := by decide +kernel
theorem dX12_gates_76 : decode cX12_gates 76 = .ok (.iload 4, 2) := by decide +kernel
theorem dX12_gates_78 : decode cX12_gates 78 = .ok (.iload_n 2, 1) := by decide +kernel
theorem dX12_gates_79 : decode cX12_gates 79 = .ok (.invokestatic 476, 3) := by decide +kernel
theorem dX12_gates_82 : decode cX12_gates 82 = .ok (.iaload, 1) := by decide +kernel
theorem dX12_gates_83 : decode cX12_gates 83 = .ok (.if_icmp .eq 9, 3) := by decide +kernel
theorem dX12_gates_86 : decode cX12_gates 86 = .ok (.iinc 3 1, 3) := by decide +kernel
theorem dX12_gates_89 : decode cX12_gates 89 = .ok (.goto (-25), 3) := by decide +kernel
theorem dX12_gates_92 : decode cX12_gates 92 = .ok (.iload_n 2, 1) := by decide +kernel
theorem dX12_gates_93 : decode cX12_gates 93 = .ok (.iload_n 3, 1) := by decide +kernel
theorem dX12_gates_94 : decode cX12_gates 94 = .ok (.iconst (-1), 1) := by decide +kernel
theorem dX12_gates_95 : decode cX12_gates 95 = .ok (.if_icmp .ne 7, 3) := by decide +kernel
theorem dX12_gates_98 : decode cX12_gates 98 = .ok (.iconst 0, 1) := by decide +kernel
theorem dX12_gates_99 : decode cX12_gates 99 = .ok (.goto 6, 3) := by decide +kernel
theorem dX12_gates_102 : decode cX12_gates 102 = .ok (.iconst 1, 1) := by decide +kernel
theorem dX12_gates_103 : decode cX12_gates 103 = .ok (.iload_n 3, 1) := by decide +kernel
theorem dX12_gates_104 : decode cX12_gates 104 = .ok (.ishl, 1) := by decide +kernel
theorem dX12_gates_105 : decode cX12_gates 105 = .ok (.ior, 1) := by decide +kernel
theorem dX12_gates_106 : decode cX12_gates 106 = .ok (.istore_n 2, 1) := by decide +kernel
theorem dX12_gates_107 : decode cX12_gates 107 = .ok (.iinc 4 1, 3) := by decide +kernel
theorem dX12_gates_110 : decode cX12_gates 110 = .ok (.goto (-54), 3) := by decide +kernel
theorem dX12_gates_113 : decode cX12_gates 113 = .ok (.iload_n 3, 1) := by decide +kernel
theorem dX12_gates_114 : decode cX12_gates 114 = .ok (.ireturn, 1) := by decide +kernel
set_option maxRecDepth 100000 in
set_option maxHeartbeats 200000 in
theorem T_X12_gates_105 {X : CX} (hX : Ok X cX12_gates 5 RX12 (some .int)) (hdx : dX X = 12) {r : Int32 × Hp} (x1 : Int32) (x3 : Int32) (x4 : Int32) (t0 : Int32) (t1 : Int32) (q_56 : Int32 → Int32 → Int32 → Hp → Option (Int32 × Hp)) (hq_56 : ∀ (x2 : Int32) (x3 : Int32) (x4 : Int32) (h : Hp), q_56 x2 x3 x4 h = some r → J X ((.inl (some (.int r.1)), r.2)) 56 [(0, .ref 30), (1, .int x1), (2, .int x2), (3, .int x3), (4, .int x4)] [] h) (h : Hp) (hf : F_X12_gates_105 q_56 x1 x3 x4 t0 t1 h = some r) : J X ((.inl (some (.int r.1)), r.2)) 105 [(0, .ref 30), (1, .int x1), (3, .int x3), (4, .int x4)] [.int t0, .int t1] h := by
  unfold F_X12_gates_105 at hf
  refine J_ior hX dX12_gates_105 ?_
  obtain ⟨x2_1, e_2, hf⟩ := bndE hf
  refine J_nm e_2 ?_
  refine J_istore_n hX [(2, .int x2_1), (0, .ref 30), (1, .int x1), (3, .int x3), (4, .int x4)] dX12_gates_106 rfl rfl rfl ?_
  refine J_iinc hX (x4 + 1) 4 [(4, .int (x4 + 1)), (2, .int x2_1), (0, .ref 30), (1, .int x1), (3, .int x3)] dX12_gates_107 rfl rfl rfl rfl ?_
  refine J_goto hX 56 dX12_gates_110 rfl ?_
  refine J_sub [2, 3, 1, 4, 0] [(0, .ref 30), (1, .int x1), (2, .int x2_1), (3, .int x3), (4, .int (x4 + 1))] rfl ?_
  exact hq_56 x2_1 x3 (x4 + 1) h hf
set_option maxRecDepth 100000 in
set_option maxHeartbeats 200000 in
theorem T_X12_gates_64_s {X : CX} (hX : Ok X cX12_gates 5 RX12 (some .int)) (hdx : dX X = 12) {r : Int32 × Hp} (x1 : Int32) (x2 : Int32) (x4 : Int32) (q_56 : Int32 → Int32 → Int32 → Hp → Option (Int32 × Hp)) (hq_56 : ∀ (x2 : Int32) (x3 : Int32) (x4 : Int32) (h : Hp), q_56 x2 x3 x4 h = some r → J X ((.inl (some (.int r.1)), r.2)) 56 [(0, .ref 30), (1, .int x1), (2, .int x2), (3, .int x3), (4, .int x4)] [] h) (q_64 : Int32 → Hp → Option (Int32 × Hp)) (hq_64 : ∀ (x3 : Int32) (h : Hp), q_64 x3 h = some r → J X ((.inl (some (.int r.1)), r.2)) 64 [(0, .ref 30), (1, .int x1), (2, .int x2), (3, .int x3), (4, .int x4)] [] h) (x3 : Int32) (h : Hp) (hf : S_X12_gates_64 q_56 x1 x2 x4 q_64 x3 h = some r) : J X ((.inl (some (.int r.1)), r.2)) 64 [(0, .ref 30), (1, .int x1), (2, .int x2), (3, .int x3), (4, .int x4)] [] h := by
  unfold S_X12_gates_64 at hf
  refine J_aload_n hX 0 dX12_gates_64 rfl rfl ?_
  refine J_iload hX 4 dX12_gates_65 rfl ?_
  refine J_iload_n hX 2 dX12_gates_67 rfl rfl ?_
  refine J_iload_n hX 3 dX12_gates_68 rfl rfl ?_
  obtain ⟨r_1, e_2, hf⟩ := bdE hf
  refine V_1 hX [.int x4, .int x2, .int x3] dX12_gates_69 cw_X12_479 ob_30 rfl (C_X12_heldIf (okG hX) e_2) (ltD hdx rfl) rfl rfl rfl rfl ?_
  refine J_aload_n hX 0 dX12_gates_72 rfl rfl ?_
  refine J_getR hX 46 dX12_gates_73 fl_X12_64 ob_30 rfl rfl ?_
  refine J_iload hX 4 dX12_gates_76 rfl ?_
  refine J_iload_n hX 2 dX12_gates_78 rfl rfl ?_
  refine S_1 hX [.int x4, .int x2] dX12_gates_79 cw_X12_476 (C_X12_heldAt (okG hX) rfl) (ltD hdx rfl) rfl rfl rfl rfl ?_
  obtain ⟨g_3, hf⟩ := gdE hf
  refine J_ald hX ((f_X12_heldAt x4 x2 h).toNatClampNeg) dX12_gates_82 ar_46 (Or.inl ⟨rfl, rfl⟩) g_3 rfl ?_
  rcases ifE hf with ⟨c_4, hf⟩ | ⟨c_4, hf⟩
  · refine J_icmp_eqT hX 92 dX12_gates_83 rfl c_4 ?_
    refine J_iload_n hX 2 dX12_gates_92 rfl rfl ?_
    refine J_iload_n hX 3 dX12_gates_93 rfl rfl ?_
    refine J_iconst hX (-1) dX12_gates_94 rfl ?_
    rcases ifE hf with ⟨c_5, hf⟩ | ⟨c_5, hf⟩
    · refine J_icmp_neF hX 102 dX12_gates_95 rfl c_5 ?_
      refine J_iconst hX 0 dX12_gates_98 rfl ?_
      refine J_goto hX 105 dX12_gates_99 rfl ?_
      refine J_sub [0, 1, 3, 4] [(0, .ref 30), (1, .int x1), (3, .int x3), (4, .int x4)] rfl ?_
      exact T_X12_gates_105 hX hdx x1 x3 x4 0 x2 q_56 hq_56 h hf
    · refine J_icmp_neT hX 102 dX12_gates_95 rfl c_5 ?_
      refine J_iconst hX 1 dX12_gates_102 rfl ?_
      refine J_iload_n hX 3 dX12_gates_103 rfl rfl ?_
      refine J_ishl hX dX12_gates_104 ?_
      refine J_sub [0, 1, 3, 4] [(0, .ref 30), (1, .int x1), (3, .int x3), (4, .int x4)] rfl ?_
      exact T_X12_gates_105 hX hdx x1 x3 x4 (shl 1 x3) x2 q_56 hq_56 h hf
  · refine J_icmp_eqF hX 92 dX12_gates_83 rfl c_4 ?_
    refine J_iinc hX (x3 + 1) 3 [(3, .int (x3 + 1)), (0, .ref 30), (1, .int x1), (2, .int x2), (4, .int x4)] dX12_gates_86 rfl rfl rfl rfl ?_
    refine J_goto hX 64 dX12_gates_89 rfl ?_
    refine J_sub [1, 2, 3, 0, 4] [(0, .ref 30), (1, .int x1), (2, .int x2), (3, .int (x3 + 1)), (4, .int x4)] rfl ?_
    exact hq_64 (x3 + 1) h hf
set_option maxRecDepth 100000 in
set_option maxHeartbeats 200000 in
theorem T_X12_gates_64 {X : CX} (hX : Ok X cX12_gates 5 RX12 (some .int)) (hdx : dX X = 12) {r : Int32 × Hp} (x1 : Int32) (x2 : Int32) (x4 : Int32) (q_56 : Int32 → Int32 → Int32 → Hp → Option (Int32 × Hp)) (hq_56 : ∀ (x2 : Int32) (x3 : Int32) (x4 : Int32) (h : Hp), q_56 x2 x3 x4 h = some r → J X ((.inl (some (.int r.1)), r.2)) 56 [(0, .ref 30), (1, .int x1), (2, .int x2), (3, .int x3), (4, .int x4)] [] h) : ∀ (n : Nat) (x3 : Int32) (h : Hp), F_X12_gates_64 q_56 x1 x2 x4 n x3 h = some r → J X ((.inl (some (.int r.1)), r.2)) 64 [(0, .ref 30), (1, .int x1), (2, .int x2), (3, .int x3), (4, .int x4)] [] h := by
  intro n
  induction n with
  | zero => intro x3 h hf; exact nomatch hf
  | succ n ih => intro x3 h hf; exact T_X12_gates_64_s hX hdx x1 x2 x4 q_56 hq_56 _ (fun x3 h hf => ih x3 h hf) x3 h hf
set_option maxRecDepth 100000 in
set_option maxHeartbeats 200000 in
theorem T_X12_gates_56_s {X : CX} (hX : Ok X cX12_gates 5 RX12 (some .int)) (hdx : dX X = 12) {r : Int32 × Hp} (x1 : Int32) (q_56 : Int32 → Int32 → Int32 → Hp → Option (Int32 × Hp)) (hq_56 : ∀ (x2 : Int32) (x3 : Int32) (x4 : Int32) (h : Hp), q_56 x2 x3 x4 h = some r → J X ((.inl (some (.int r.1)), r.2)) 56 [(0, .ref 30), (1, .int x1), (2, .int x2), (3, .int x3), (4, .int x4)] [] h) (x2 : Int32) (x3 : Int32) (x4 : Int32) (h : Hp) (hf : S_X12_gates_56 x1 q_56 x2 x3 x4 h = some r) : J X ((.inl (some (.int r.1)), r.2)) 56 [(0, .ref 30), (1, .int x1), (2, .int x2), (3, .int x3), (4, .int x4)] [] h := by
  unfold S_X12_gates_56 at hf
  refine J_iload hX 4 dX12_gates_56 rfl ?_
  refine J_iload_n hX 1 dX12_gates_58 rfl rfl ?_
  rcases ifE hf with ⟨c_1, hf⟩ | ⟨c_1, hf⟩
  · refine J_icmp_gtT hX 113 dX12_gates_59 rfl c_1 ?_
    refine J_iload_n hX 3 dX12_gates_113 rfl rfl ?_
    exact E_Ii hX dX12_gates_114 hf
  · refine J_icmp_gtF hX 113 dX12_gates_59 rfl c_1 ?_
    refine J_iconst hX (-1) dX12_gates_62 rfl ?_
    refine J_istore_n hX [(3, .int (-1)), (0, .ref 30), (1, .int x1), (2, .int x2), (4, .int x4)] dX12_gates_63 rfl rfl rfl ?_
    refine J_sub [1, 2, 3, 0, 4] [(0, .ref 30), (1, .int x1), (2, .int x2), (3, .int (-1)), (4, .int x4)] rfl ?_
    exact T_X12_gates_64 hX hdx x1 x2 x4 q_56 hq_56 FU (-1) h hf
set_option maxRecDepth 100000 in
set_option maxHeartbeats 200000 in
theorem T_X12_gates_56 {X : CX} (hX : Ok X cX12_gates 5 RX12 (some .int)) (hdx : dX X = 12) {r : Int32 × Hp} (x1 : Int32) : ∀ (n : Nat) (x2 : Int32) (x3 : Int32) (x4 : Int32) (h : Hp), F_X12_gates_56 x1 n x2 x3 x4 h = some r → J X ((.inl (some (.int r.1)), r.2)) 56 [(0, .ref 30), (1, .int x1), (2, .int x2), (3, .int x3), (4, .int x4)] [] h := by
  intro n
  induction n with
  | zero => intro x2 x3 x4 h hf; exact nomatch hf
  | succ n ih => intro x2 x3 x4 h hf; exact T_X12_gates_56_s hX hdx x1 _ (fun x2 x3 x4 h hf => ih x2 x3 x4 h hf) x2 x3 x4 h hf
set_option maxRecDepth 100000 in
set_option maxHeartbeats 200000 in
theorem T_X12_gates_24 {X : CX} (hX : Ok X cX12_gates 5 RX12 (some .int)) (hdx : dX X = 12) {r : Int32 × Hp} (x1 : Int32) (t0 : Int32) (h : Hp) (hf : F_X12_gates_24 x1 t0 h = some r) : J X ((.inl (some (.int r.1)), r.2)) 24 [(0, .ref 30), (1, .int x1)] [.int t0, .ref 30] h := by
  unfold F_X12_gates_24 at hf
  refine J_iconst hX 1 dX12_gates_24 rfl ?_
  obtain ⟨r_1, e_2, hf⟩ := bdE hf
  refine V_1 hX [.int t0, .int 1] dX12_gates_25 cw_X12_280 ob_30 rfl (C_X12_throwsIf (okG hX) e_2) (ltD hdx rfl) rfl rfl rfl rfl ?_
  rcases ifE hf with ⟨c_3, hf⟩ | ⟨c_3, hf⟩
  · refine J_if_eqF hX 33 dX12_gates_28 rfl (b2iT c_3) ?_
    refine J_iconst hX 0 dX12_gates_31 rfl ?_
    exact E_Ii hX dX12_gates_32 hf
  · refine J_if_eqT hX 33 dX12_gates_28 rfl (b2iF c_3) ?_
    refine J_aload_n hX 0 dX12_gates_33 rfl rfl ?_
    obtain ⟨r_4, e_5, hf⟩ := bdE hf
    refine V_0 hX [] dX12_gates_34 cw_X12_482 ob_30 rfl (C_X12_laysGates (okG hX) e_5) (ltD hdx rfl) rfl rfl rfl rfl ?_
    refine J_iload_n hX 1 dX12_gates_37 rfl rfl ?_
    refine J_iconst hX (-1) dX12_gates_38 rfl ?_
    rcases ifE hf with ⟨c_6, hf⟩ | ⟨c_6, hf⟩
    · refine J_icmp_neF hX 49 dX12_gates_39 rfl c_6 ?_
      refine J_aload_n hX 0 dX12_gates_42 rfl rfl ?_
      refine J_getR hX 46 dX12_gates_43 fl_X12_64 ob_30 rfl rfl ?_
      refine J_iconst hX 0 dX12_gates_46 rfl ?_
      refine J_ald hX 0 dX12_gates_47 ar_46 (Or.inl ⟨rfl, rfl⟩) (by decide) (by decide) ?_
      exact E_Ii hX dX12_gates_48 hf
    · refine J_icmp_neT hX 49 dX12_gates_39 rfl c_6 ?_
      refine J_iconst hX 0 dX12_gates_49 rfl ?_
      refine J_istore_n hX [(2, .int 0), (0, .ref 30), (1, .int x1)] dX12_gates_50 rfl rfl rfl ?_
      refine J_iconst hX (-1) dX12_gates_51 rfl ?_
      refine J_istore_n hX [(3, .int (-1)), (2, .int 0), (0, .ref 30), (1, .int x1)] dX12_gates_52 rfl rfl rfl ?_
      refine J_iconst hX 0 dX12_gates_53 rfl ?_
      refine J_istore hX [(4, .int 0), (3, .int (-1)), (2, .int 0), (0, .ref 30), (1, .int x1)] dX12_gates_54 rfl rfl ?_
      refine J_sub [3, 4, 2, 1, 0] [(0, .ref 30), (1, .int x1), (2, .int 0), (3, .int (-1)), (4, .int 0)] rfl ?_
      exact T_X12_gates_56 hX hdx x1 FU 0 (-1) 0 r_4 hf
set_option maxRecDepth 100000 in
set_option maxHeartbeats 200000 in
theorem T_X12_gates_0 {X : CX} (hX : Ok X cX12_gates 5 RX12 (some .int)) (hdx : dX X = 12) {r : Int32 × Hp} (x1 : Int32) (h : Hp) (hf : f_X12_gates x1 h = some r) : J X ((.inl (some (.int r.1)), r.2)) 0 [(0, .ref 30), (1, .int x1)] [] h := by
  unfold f_X12_gates at hf
  refine J_aload_n hX 0 dX12_gates_0 rfl rfl ?_
  refine J_iconst hX 0 dX12_gates_1 rfl ?_
  obtain ⟨h_1, e_2, hf⟩ := bndE hf
  refine J_putI hX dX12_gates_2 fl_X12_3 fw_10_0 ob_30 rfl rfl rfl ?_
  refine J_nmh e_2 ?_
  refine J_aload_n hX 0 dX12_gates_5 rfl rfl ?_
  refine J_iload_n hX 1 dX12_gates_6 rfl rfl ?_
  refine J_iconst hX (-1) dX12_gates_7 rfl ?_
  rcases ifE hf with ⟨c_3, hf⟩ | ⟨c_3, hf⟩
  · refine J_icmp_eqT hX 23 dX12_gates_8 rfl c_3 ?_
    refine J_iconst hX 0 dX12_gates_23 rfl ?_
    exact T_X12_gates_24 hX hdx x1 0 h_1 hf
  · refine J_icmp_eqF hX 23 dX12_gates_8 rfl c_3 ?_
    refine J_aload_n hX 0 dX12_gates_11 rfl rfl ?_
    refine J_iload_n hX 1 dX12_gates_12 rfl rfl ?_
    refine V_1 hX [.int x1] dX12_gates_13 cw_X12_407 ob_30 rfl (C_X12_noPerson (okG hX) rfl) (ltD hdx rfl) rfl rfl rfl rfl ?_
    rcases ifE hf with ⟨c_4, hf⟩ | ⟨c_4, hf⟩
    · refine J_if_eqF hX 23 dX12_gates_16 rfl (b2iT c_4) ?_
      refine J_iconst hX 1 dX12_gates_19 rfl ?_
      refine J_goto hX 24 dX12_gates_20 rfl ?_
      exact T_X12_gates_24 hX hdx x1 1 h_1 hf
    · refine J_if_eqT hX 23 dX12_gates_16 rfl (b2iF c_4) ?_
      refine J_iconst hX 0 dX12_gates_23 rfl ?_
      exact T_X12_gates_24 hX hdx x1 0 h_1 hf
set_option maxRecDepth 100000 in
set_option maxHeartbeats 200000 in
theorem C_X12_gates {G : GX} (hG : GOk G) {x1 : Int32} {h : Hp} {r : Int32 × Hp} (hf : f_X12_gates x1 h = some r) : Ctr G 12 yX12_gates cX12_gates 5 (some .int) [.ref 30, .int x1] h ((.inl (some (.int r.1)), r.2)) :=
  Ctr_of hG RX12 rfl (by decide) rfl (fun X _ hdx hX => T_X12_gates_0 hX hdx x1 h hf)
theorem dX12_swap_0 : decode cX12_swap 0 = .ok (.aload_n 0, 1) := by decide +kernel
theorem dX12_swap_1 : decode cX12_swap 1 = .ok (.iconst 0, 1) := by decide +kernel
theorem dX12_swap_2 : decode cX12_swap 2 = .ok (.putfield 3, 3) := by decide +kernel
theorem dX12_swap_5 : decode cX12_swap 5 = .ok (.aload_n 0, 1) := by decide +kernel
theorem dX12_swap_6 : decode cX12_swap 6 = .ok (.aload_n 0, 1) := by decide +kernel
theorem dX12_swap_7 : decode cX12_swap 7 = .ok (.iload_n 1, 1) := by decide +kernel
theorem dX12_swap_8 : decode cX12_swap 8 = .ok (.invokevirtual 407, 3) := by decide +kernel
theorem dX12_swap_11 : decode cX12_swap 11 = .ok (.ifCond .ne 11, 3) := by decide +kernel
theorem dX12_swap_14 : decode cX12_swap 14 = .ok (.aload_n 0, 1) := by decide +kernel
theorem dX12_swap_15 : decode cX12_swap 15 = .ok (.iload_n 2, 1) := by decide +kernel
theorem dX12_swap_16 : decode cX12_swap 16 = .ok (.invokevirtual 407, 3) := by decide +kernel
theorem dX12_swap_19 : decode cX12_swap 19 = .ok (.ifCond .eq 7, 3) := by decide +kernel
theorem dX12_swap_22 : decode cX12_swap 22 = .ok (.iconst 1, 1) := by decide +kernel
theorem dX12_swap_23 : decode cX12_swap 23 = .ok (.goto 4, 3) := by decide +kernel
theorem dX12_swap_26 : decode cX12_swap 26 = .ok (.iconst 0, 1) := by decide +kernel
theorem dX12_swap_27 : decode cX12_swap 27 = .ok (.iconst 1, 1) := by decide +kernel
theorem dX12_swap_28 : decode cX12_swap 28 = .ok (.invokevirtual 280, 3) := by decide +kernel
theorem dX12_swap_31 : decode cX12_swap 31 = .ok (.ifCond .ne 21, 3) := by decide +kernel
theorem dX12_swap_34 : decode cX12_swap 34 = .ok (.aload_n 0, 1) := by decide +kernel
theorem dX12_swap_35 : decode cX12_swap 35 = .ok (.iload_n 1, 1) := by decide +kernel
theorem dX12_swap_36 : decode cX12_swap 36 = .ok (.iload_n 2, 1) := by decide +kernel
theorem dX12_swap_37 : decode cX12_swap 37 = .ok (.if_icmp .ne 7, 3) := by decide +kernel
theorem dX12_swap_40 : decode cX12_swap 40 = .ok (.iconst 1, 1) := by decide +kernel
theorem dX12_swap_41 : decode cX12_swap 41 = .ok (.goto 4, 3) := by decide +kernel
theorem dX12_swap_44 : decode cX12_swap 44 = .ok (.iconst 0, 1) := by decide +kernel
theorem dX12_swap_45 : decode cX12_swap 45 = .ok (.iconst 2, 1) := by decide +kernel
theorem dX12_swap_46 : decode cX12_swap 46 = .ok (.invokevirtual 280, 3) := by decide +kernel
theorem dX12_swap_49 : decode cX12_swap 49 = .ok (.ifCond .eq 5, 3) := by decide +kernel
theorem dX12_swap_52 : decode cX12_swap 52 = .ok (.iconst 0, 1) := by decide +kernel
theorem dX12_swap_53 : decode cX12_swap 53 = .ok (.ireturn, 1) := by decide +kernel
theorem dX12_swap_54 : decode cX12_swap 54 = .ok (.aload_n 0, 1) := by decide +kernel
theorem dX12_swap_55 : decode cX12_swap 55 = .ok (.aload_n 0, 1) := by decide +kernel
theorem dX12_swap_56 : decode cX12_swap 56 = .ok (.getfield 13, 3) := by decide +kernel
theorem dX12_swap_59 : decode cX12_swap 59 = .ok (.iconst 4, 1) := by decide +kernel
theorem dX12_swap_60 : decode cX12_swap 60 = .ok (.iaload, 1) := by decide +kernel
theorem dX12_swap_61 : decode cX12_swap 61 = .ok (.invokevirtual 404, 3) := by decide +kernel
theorem dX12_swap_64 : decode cX12_swap 64 = .ok (.invokestatic 368, 3) := by decide +kernel
theorem dX12_swap_67 : decode cX12_swap 67 = .ok (.istore_n 3, 1) := by decide +kernel
theorem dX12_swap_68 : decode cX12_swap 68 = .ok (.aload_n 0, 1) := by decide +kernel
theorem dX12_swap_69 : decode cX12_swap 69 = .ok (.invokevirtual 356, 3) := by decide +kernel
theorem dX12_swap_72 : decode cX12_swap 72 = .ok (.aload_n 0, 1) := by decide +kernel
theorem dX12_swap_73 : decode cX12_swap 73 = .ok (.iload_n 1, 1) := by decide +kernel
theorem dX12_swap_74 : decode cX12_swap 74 = .ok (.iconst 0, 1) := by decide +kernel
theorem dX12_swap_75 : decode cX12_swap 75 = .ok (.invokevirtual 283, 3) := by decide +kernel
theorem dX12_swap_78 : decode cX12_swap 78 = .ok (.istore 4, 2) := by decide +kernel
theorem dX12_swap_80 : decode cX12_swap 80 = .ok (.aload_n 0, 1) := by decide +kernel
theorem dX12_swap_81 : decode cX12_swap 81 = .ok (.getfield 13, 3) := by decide +kernel
theorem dX12_swap_84 : decode cX12_swap 84 = .ok (.iload_n 1, 1) := by decide +kernel
theorem dX12_swap_85 : decode cX12_swap 85 = .ok (.iconst 0, 1) := by decide +kernel
theorem dX12_swap_86 : decode cX12_swap 86 = .ok (.invokestatic 81, 3) := by decide +kernel
theorem dX12_swap_89 : decode cX12_swap 89 = .ok (.aload_n 0, 1) := by decide +kernel
theorem dX12_swap_90 : decode cX12_swap 90 = .ok (.iload_n 2, 1) := by decide +kernel
theorem dX12_swap_91 : decode cX12_swap 91 = .ok (.iconst 0, 1) := by decide +kernel
theorem dX12_swap_92 : decode cX12_swap 92 = .ok (.invokevirtual 283, 3) := by decide +kernel
theorem dX12_swap_95 : decode cX12_swap 95 = .ok (.iastore, 1) := by decide +kernel
theorem dX12_swap_96 : decode cX12_swap 96 = .ok (.aload_n 0, 1) := by decide +kernel
theorem dX12_swap_97 : decode cX12_swap 97 = .ok (.getfield 13, 3) := by decide +kernel
theorem dX12_swap_100 : decode cX12_swap 100 = .ok (.iload_n 2, 1) := by decide +kernel
theorem dX12_swap_101 : decode cX12_swap 101 = .ok (.iconst 0, 1) := by decide +kernel
theorem dX12_swap_102 : decode cX12_swap 102 = .ok (.invokestatic 81, 3) := by decide +kernel
theorem dX12_swap_105 : decode cX12_swap 105 = .ok (.iload 4, 2) := by decide +kernel
theorem dX12_swap_107 : decode cX12_swap 107 = .ok (.iastore, 1) := by decide +kernel
theorem dX12_swap_108 : decode cX12_swap 108 = .ok (.aload_n 0, 1) := by decide +kernel
theorem dX12_swap_109 : decode cX12_swap 109 = .ok (.aload_n 0, 1) := by decide +kernel
theorem dX12_swap_110 : decode cX12_swap 110 = .ok (.getfield 13, 3) := by decide +kernel
theorem dX12_swap_113 : decode cX12_swap 113 = .ok (.iconst 4, 1) := by decide +kernel
theorem dX12_swap_114 : decode cX12_swap 114 = .ok (.iaload, 1) := by decide +kernel
theorem dX12_swap_115 : decode cX12_swap 115 = .ok (.invokevirtual 359, 3) := by decide +kernel
theorem dX12_swap_118 : decode cX12_swap 118 = .ok (.invokestatic 368, 3) := by decide +kernel
theorem dX12_swap_121 : decode cX12_swap 121 = .ok (.iload_n 3, 1) := by decide +kernel
theorem dX12_swap_122 : decode cX12_swap 122 = .ok (.if_icmp .ge 7, 3) := by decide +kernel
theorem dX12_swap_125 : decode cX12_swap 125 = .ok (.iconst 1, 1) := by decide +kernel
theorem dX12_swap_126 : decode cX12_swap 126 = .ok (.goto 4, 3) := by decide +kernel
theorem dX12_swap_129 : decode cX12_swap 129 = .ok (.iconst 0, 1) := by decide +kernel
theorem dX12_swap_130 : decode cX12_swap 130 = .ok (.ireturn, 1) := by decide +kernel
set_option maxRecDepth 100000 in
set_option maxHeartbeats 200000 in
theorem T_X12_swap_45 {X : CX} (hX : Ok X cX12_swap 5 RX12 (some .boolean)) (hdx : dX X = 15) {r : Bool × Hp} (x1 : Int32) (x2 : Int32) (t0 : Int32) (h : Hp) (hf : F_X12_swap_45 x1 x2 t0 h = some r) : J X ((.inl (some (.int (b2i r.1))), r.2)) 45 [(0, .ref 30), (1, .int x1), (2, .int x2)] [.int t0, .ref 30] h := by
  unfold F_X12_swap_45 at hf
  refine J_iconst hX 2 dX12_swap_45 rfl ?_
  obtain ⟨r_1, e_2, hf⟩ := bdE hf
  refine V_1 hX [.int t0, .int 2] dX12_swap_46 cw_X12_280 ob_30 rfl (C_X12_throwsIf (okG hX) e_2) (ltD hdx rfl) rfl rfl rfl rfl ?_
  rcases ifE hf with ⟨c_3, hf⟩ | ⟨c_3, hf⟩
  · refine J_if_eqF hX 54 dX12_swap_49 rfl (b2iT c_3) ?_
    refine J_iconst hX 0 dX12_swap_52 rfl ?_
    exact E_Zi hX dX12_swap_53 rfl hf
  · refine J_if_eqT hX 54 dX12_swap_49 rfl (b2iF c_3) ?_
    refine J_aload_n hX 0 dX12_swap_54 rfl rfl ?_
    refine J_aload_n hX 0 dX12_swap_55 rfl rfl ?_
    refine J_getR hX 31 dX12_swap_56 fl_X12_13 ob_30 rfl rfl ?_
    refine J_iconst hX 4 dX12_swap_59 rfl ?_
    refine J_ald hX 4 dX12_swap_60 ar_31 (Or.inl ⟨rfl, rfl⟩) (by decide) (by decide) ?_
    obtain ⟨r_4, e_5, hf⟩ := bdE hf
    refine V_1 hX [.int (r_1.2 31 4)] dX12_swap_61 cw_X12_404 ob_30 rfl (C_X12_fallsIn (okG hX) e_5) (ltD hdx rfl) rfl rfl rfl rfl ?_
    refine S_1 hX [.int r_4.1] dX12_swap_64 cw_X12_368 (C_J6_bitCount_0f7a4 (okG hX) rfl) (ltD hdx rfl) rfl rfl rfl rfl ?_
    obtain ⟨x3_6, e_7, hf⟩ := bndE hf
    refine J_nm e_7 ?_
    refine J_istore_n hX [(3, .int x3_6), (0, .ref 30), (1, .int x1), (2, .int x2)] dX12_swap_67 rfl rfl rfl ?_
    refine J_aload_n hX 1 dX12_swap_68 rfl rfl ?_
    obtain ⟨r_8, e_9, hf⟩ := bdE hf
    refine V_0 hX [] dX12_swap_69 cw_X12_356 ob_30 rfl (C_X12_keepsAll (okG hX) e_9) (ltD hdx rfl) rfl rfl rfl rfl ?_
    refine J_aload_n hX 1 dX12_swap_72 rfl rfl ?_
    refine J_iload_n hX 2 dX12_swap_73 rfl rfl ?_
    refine J_iconst hX 0 dX12_swap_74 rfl ?_
    obtain ⟨r_10, e_11, hf⟩ := bdE hf
    refine V_1 hX [.int x1, .int 0] dX12_swap_75 cw_X12_283 ob_30 rfl (C_X12_ofPerson (okG hX) e_11) (ltD hdx rfl) rfl rfl rfl rfl ?_
    refine J_istore hX [(4, .int r_10), (3, .int x3_6), (0, .ref 30), (1, .int x1), (2, .int x2)] dX12_swap_78 rfl rfl ?_
    refine J_aload_n hX 2 dX12_swap_80 rfl rfl ?_
    refine J_getR hX 31 dX12_swap_81 fl_X12_13 ob_30 rfl rfl ?_
    refine J_iload_n hX 3 dX12_swap_84 rfl rfl ?_
    refine J_iconst hX 0 dX12_swap_85 rfl ?_
    refine S_1 hX [.int x1, .int 0] dX12_swap_86 cw_X12_81 (C_X12_personAt (okG hX) rfl) (ltD hdx rfl) rfl rfl rfl rfl ?_
    refine J_aload_n hX 2 dX12_swap_89 rfl rfl ?_
    refine J_iload_n hX 4 dX12_swap_90 rfl rfl ?_
    refine J_iconst hX 0 dX12_swap_91 rfl ?_
    obtain ⟨r_12, e_13, hf⟩ := bdE hf
    refine V_1 hX [.int x2, .int 0] dX12_swap_92 cw_X12_283 ob_30 rfl (C_X12_ofPerson (okG hX) e_13) (ltD hdx rfl) rfl rfl rfl rfl ?_
    obtain ⟨g_14, hf⟩ := gdE hf
    obtain ⟨h_15, e_16, hf⟩ := bndE hf
    refine J_ast hX ((f_X12_personAt x1 0 r_8).toNatClampNeg) r_12 dX12_swap_95 ar_31 (Or.inl ⟨rfl, rfl, rfl⟩) g_14 rfl ?_
    refine J_nmh e_16 ?_
    refine J_aload_n hX 2 dX12_swap_96 rfl rfl ?_
    refine J_getR hX 31 dX12_swap_97 fl_X12_13 ob_30 rfl rfl ?_
    refine J_iload_n hX 4 dX12_swap_100 rfl rfl ?_
    refine J_iconst hX 0 dX12_swap_101 rfl ?_
    refine S_1 hX [.int x2, .int 0] dX12_swap_102 cw_X12_81 (C_X12_personAt (okG hX) rfl) (ltD hdx rfl) rfl rfl rfl rfl ?_
    refine J_iload hX 0 dX12_swap_105 rfl ?_
    obtain ⟨g_17, hf⟩ := gdE hf
    obtain ⟨h_18, e_19, hf⟩ := bndE hf
    refine J_ast hX ((f_X12_personAt x2 0 h_15).toNatClampNeg) r_10 dX12_swap_107 ar_31 (Or.inl ⟨rfl, rfl, rfl⟩) g_17 rfl ?_
    refine J_nmh e_19 ?_
    refine J_aload_n hX 2 dX12_swap_108 rfl rfl ?_
    refine J_aload_n hX 2 dX12_swap_109 rfl rfl ?_
    refine J_getR hX 31 dX12_swap_110 fl_X12_13 ob_30 rfl rfl ?_
    refine J_iconst hX 4 dX12_swap_113 rfl ?_
    refine J_ald hX 4 dX12_swap_114 ar_31 (Or.inl ⟨rfl, rfl⟩) (by decide) (by decide) ?_
    obtain ⟨r_20, e_21, hf⟩ := bdE hf
    refine V_1 hX [.int (h_18 31 4)] dX12_swap_115 cw_X12_359 ob_30 rfl (C_X12_wouldFall (okG hX) e_21) (ltD hdx rfl) rfl rfl rfl rfl ?_
    refine S_1 hX [.int r_20.1] dX12_swap_118 cw_X12_368 (C_J6_bitCount_0f7a4 (okG hX) rfl) (ltD hdx rfl) rfl rfl rfl rfl ?_
    refine J_iload_n hX 1 dX12_swap_121 rfl rfl ?_
    rcases ifE hf with ⟨c_22, hf⟩ | ⟨c_22, hf⟩
    · refine J_icmp_geF hX 129 dX12_swap_122 rfl c_22 ?_
      refine J_iconst hX 1 dX12_swap_125 rfl ?_
      refine J_goto hX 130 dX12_swap_126 rfl ?_
      exact E_Zi hX dX12_swap_130 rfl hf
    · refine J_icmp_geT hX 129 dX12_swap_122 rfl c_22 ?_
      refine J_iconst hX 0 dX12_swap_129 rfl ?_
      exact E_Zi hX dX12_swap_130 rfl hf
set_option maxRecDepth 100000 in
set_option maxHeartbeats 200000 in
theorem T_X12_swap_27 {X : CX} (hX : Ok X cX12_swap 5 RX12 (some .boolean)) (hdx : dX X = 15) {r : Bool × Hp} (x1 : Int32) (x2 : Int32) (t0 : Int32) (h : Hp) (hf : F_X12_swap_27 x1 x2 t0 h = some r) : J X ((.inl (some (.int (b2i r.1))), r.2)) 27 [(0, .ref 30), (1, .int x1), (2, .int x2)] [.int t0, .ref 30] h := by
  unfold F_X12_swap_27 at hf
  refine J_iconst hX 1 dX12_swap_27 rfl ?_
  obtain ⟨r_1, e_2, hf⟩ := bdE hf
  refine V_1 hX [.int t0, .int 1] dX12_swap_28 cw_X12_280 ob_30 rfl (C_X12_throwsIf (okG hX) e_2) (ltD hdx rfl) rfl rfl rfl rfl ?_
  rcases ifE hf with ⟨c_3, hf⟩ | ⟨c_3, hf⟩
  · refine J_if_neT hX 52 dX12_swap_31 rfl (b2iT c_3) ?_
    refine J_iconst hX 0 dX12_swap_52 rfl ?_
    exact E_Zi hX dX12_swap_53 rfl hf
  · refine J_if_neF hX 52 dX12_swap_31 rfl (b2iF c_3) ?_
    refine J_aload_n hX 0 dX12_swap_34 rfl rfl ?_
    refine J_iload_n hX 1 dX12_swap_35 rfl rfl ?_
    refine J_iload_n hX 2 dX12_swap_36 rfl rfl ?_
    rcases ifE hf with ⟨c_4, hf⟩ | ⟨c_4, hf⟩
    · refine J_icmp_neF hX 44 dX12_swap_37 rfl c_4 ?_
      refine J_iconst hX 1 dX12_swap_40 rfl ?_
      refine J_goto hX 45 dX12_swap_41 rfl ?_
      exact T_X12_swap_45 hX hdx x1 x2 1 r_1.2 hf
    · refine J_icmp_neT hX 44 dX12_swap_37 rfl c_4 ?_
      refine J_iconst hX 0 dX12_swap_44 rfl ?_
      exact T_X12_swap_45 hX hdx x1 x2 0 r_1.2 hf
set_option maxRecDepth 100000 in
set_option maxHeartbeats 200000 in
theorem T_X12_swap_0 {X : CX} (hX : Ok X cX12_swap 5 RX12 (some .boolean)) (hdx : dX X = 15) {r : Bool × Hp} (x1 : Int32) (x2 : Int32) (h : Hp) (hf : f_X12_swap x1 x2 h = some r) : J X ((.inl (some (.int (b2i r.1))), r.2)) 0 [(0, .ref 30), (1, .int x1), (2, .int x2)] [] h := by
  unfold f_X12_swap at hf
  refine J_aload_n hX 0 dX12_swap_0 rfl rfl ?_
  refine J_iconst hX 0 dX12_swap_1 rfl ?_
  obtain ⟨h_1, e_2, hf⟩ := bndE hf
  refine J_putI hX dX12_swap_2 fl_X12_3 fw_10_0 ob_30 rfl rfl rfl ?_
  refine J_nmh e_2 ?_
  refine J_aload_n hX 0 dX12_swap_5 rfl rfl ?_
  refine J_aload_n hX 0 dX12_swap_6 rfl rfl ?_
  refine J_iload_n hX 1 dX12_swap_7 rfl rfl ?_
  refine V_1 hX [.int x1] dX12_swap_8 cw_X12_407 ob_30 rfl (C_X12_noPerson (okG hX) rfl) (ltD hdx rfl) rfl rfl rfl rfl ?_
  rcases ifE hf with ⟨c_3, hf⟩ | ⟨c_3, hf⟩
  · refine J_if_neT hX 22 dX12_swap_11 rfl (b2iT c_3) ?_
    refine J_iconst hX 1 dX12_swap_22 rfl ?_
    refine J_goto hX 27 dX12_swap_23 rfl ?_
    exact T_X12_swap_27 hX hdx x1 x2 1 h_1 hf
  · refine J_if_neF hX 22 dX12_swap_11 rfl (b2iF c_3) ?_
    refine J_aload_n hX 0 dX12_swap_14 rfl rfl ?_
    refine J_iload_n hX 2 dX12_swap_15 rfl rfl ?_
    refine V_1 hX [.int x2] dX12_swap_16 cw_X12_407 ob_30 rfl (C_X12_noPerson (okG hX) rfl) (ltD hdx rfl) rfl rfl rfl rfl ?_
    rcases ifE hf with ⟨c_4, hf⟩ | ⟨c_4, hf⟩
    · refine J_if_eqF hX 26 dX12_swap_19 rfl (b2iT c_4) ?_
      refine J_iconst hX 1 dX12_swap_22 rfl ?_
      refine J_goto hX 27 dX12_swap_23 rfl ?_
      exact T_X12_swap_27 hX hdx x1 x2 1 h_1 hf
    · refine J_if_eqT hX 26 dX12_swap_19 rfl (b2iF c_4) ?_
      refine J_iconst hX 0 dX12_swap_26 rfl ?_
      exact T_X12_swap_27 hX hdx x1 x2 0 h_1 hf
set_option maxRecDepth 100000 in
set_option maxHeartbeats 200000 in
theorem C_X12_swap {G : GX} (hG : GOk G) {x1 : Int32} {x2 : Int32} {h : Hp} {r : Bool × Hp} (hf : f_X12_swap x1 x2 h = some r) : Ctr G 15 yX12_swap cX12_swap 5 (some .boolean) [.ref 30, .int x1, .int x2] h ((.inl (some (.int (b2i r.1))), r.2)) :=
  Ctr_of hG RX12 rfl (by decide) rfl (fun X _ hdx hX => T_X12_swap_0 hX hdx x1 x2 h hf)
theorem dX12_personHas_0 : decode cX12_personHas 0 = .ok (.iload_n 2, 1) := by decide +kernel
theorem dX12_personHas_1 : decode cX12_personHas 1 = .ok (.ifCond .ne 23, 3) := by decide +kernel
theorem dX12_personHas_4 : decode cX12_personHas 4 = .ok (.iload_n 3, 1) := by decide +kernel
theorem dX12_personHas_5 : decode cX12_personHas 5 = .ok (.ifCond .ne 7, 3) := by decide +kernel
theorem dX12_personHas_8 : decode cX12_personHas 8 = .ok (.iconst 3, 1) := by decide +kernel
theorem dX12_personHas_9 : decode cX12_personHas 9 = .ok (.goto 14, 3) := by decide +kernel
theorem dX12_personHas_12 : decode cX12_personHas 12 = .ok (.aload_n 0, 1) := by decide +kernel
theorem dX12_personHas_13 : decode cX12_personHas 13 = .ok (.iload_n 1, 1) := by decide +kernel
theorem dX12_personHas_14 : decode cX12_personHas 14 = .ok (.iconst 1, 1) := by decide +kernel
theorem dX12_personHas_15 : decode cX12_personHas 15 = .ok (.invokevirtual 283, 3) := by decide +kernel
theorem dX12_personHas_18 : decode cX12_personHas 18 = .ok (.bipush 10, 2) := by decide +kernel
theorem dX12_personHas_20 : decode cX12_personHas 20 = .ok (.idiv, 1) := by decide +kernel
theorem dX12_personHas_21 : decode cX12_personHas 21 = .ok (.iconst 4, 1) := by decide +kernel
theorem dX12_personHas_22 : decode cX12_personHas 22 = .ok (.isub, 1) := by decide +kernel
theorem dX12_personHas_23 : decode cX12_personHas 23 = .ok (.ireturn, 1) := by decide +kernel
theorem dX12_personHas_24 : decode cX12_personHas 24 = .ok (.iload_n 3, 1) := by decide +kernel
theorem dX12_personHas_25 : decode cX12_personHas 25 = .ok (.iconst 1, 1) := by decide +kernel
theorem dX12_personHas_26 : decode cX12_personHas 26 = .ok (.if_icmp .ne 8, 3) := by decide +kernel
theorem dX12_personHas_29 : decode cX12_personHas 29 = .ok (.bipush (-3), 2) := by decide +kernel
theorem dX12_personHas_31 : decode cX12_personHas 31 = .ok (.goto 4, 3) := by decide +kernel
theorem dX12_personHas_34 : decode cX12_personHas 34 = .ok (.iconst 2, 1) := by decide +kernel
theorem dX12_personHas_35 : decode cX12_personHas 35 = .ok (.ireturn, 1) := by decide +kernel
set_option maxRecDepth 100000 in
set_option maxHeartbeats 200000 in
theorem T_X12_personHas_0 {X : CX} (hX : Ok X cX12_personHas 4 RX12 (some .int)) (hdx : dX X = 4) {r : Int32} (x1 : Int32) (x2 : Int32) (x3 : Int32) (h : Hp) (hf : f_X12_personHas x1 x2 x3 h = some r) : J X ((.inl (some (.int r)), h)) 0 [(0, .ref 30), (1, .int x1), (2, .int x2), (3, .int x3)] [] h := by
  unfold f_X12_personHas at hf
  refine J_iload_n hX 2 dX12_personHas_0 rfl rfl ?_
  rcases ifE hf with ⟨c_1, hf⟩ | ⟨c_1, hf⟩
  · refine J_if_neF hX 24 dX12_personHas_1 rfl c_1 ?_
    refine J_iload_n hX 3 dX12_personHas_4 rfl rfl ?_
    rcases ifE hf with ⟨c_2, hf⟩ | ⟨c_2, hf⟩
    · refine J_if_neF hX 12 dX12_personHas_5 rfl c_2 ?_
      refine J_iconst hX 3 dX12_personHas_8 rfl ?_
      refine J_goto hX 23 dX12_personHas_9 rfl ?_
      exact E_Ip hX dX12_personHas_23 hf
    · refine J_if_neT hX 12 dX12_personHas_5 rfl c_2 ?_
      refine J_aload_n hX 0 dX12_personHas_12 rfl rfl ?_
      refine J_iload_n hX 1 dX12_personHas_13 rfl rfl ?_
      refine J_iconst hX 1 dX12_personHas_14 rfl ?_
      obtain ⟨r_3, e_4, hf⟩ := bdE hf
      refine V_1 hX [.int x1, .int 1] dX12_personHas_15 cw_X12_283 ob_30 rfl (C_X12_ofPerson (okG hX) e_4) (ltD hdx rfl) rfl rfl rfl rfl ?_
      refine J_bipush hX 10 dX12_personHas_18 rfl ?_
      refine J_idiv hX (by decide) dX12_personHas_20 ?_
      refine J_iconst hX 4 dX12_personHas_21 rfl ?_
      refine J_isub hX dX12_personHas_22 ?_
      exact E_Ip hX dX12_personHas_23 hf
  · refine J_if_neT hX 24 dX12_personHas_1 rfl c_1 ?_
    refine J_iload_n hX 3 dX12_personHas_24 rfl rfl ?_
    refine J_iconst hX 1 dX12_personHas_25 rfl ?_
    rcases ifE hf with ⟨c_5, hf⟩ | ⟨c_5, hf⟩
    · refine J_icmp_neF hX 34 dX12_personHas_26 rfl c_5 ?_
      refine J_bipush hX (-3) dX12_personHas_29 rfl ?_
      refine J_goto hX 35 dX12_personHas_31 rfl ?_
      exact E_Ip hX dX12_personHas_35 hf
    · refine J_icmp_neT hX 34 dX12_personHas_26 rfl c_5 ?_
      refine J_iconst hX 2 dX12_personHas_34 rfl ?_
      exact E_Ip hX dX12_personHas_35 hf
set_option maxRecDepth 100000 in
set_option maxHeartbeats 200000 in
theorem C_X12_personHas {G : GX} (hG : GOk G) {x1 : Int32} {x2 : Int32} {x3 : Int32} {h : Hp} {r : Int32} (hf : f_X12_personHas x1 x2 x3 h = some r) : Ctr G 4 yX12_personHas cX12_personHas 4 (some .int) [.ref 30, .int x1, .int x2, .int x3] h ((.inl (some (.int r)), h)) :=
  Ctr_of hG RX12 rfl (by decide) rfl (fun X _ hdx hX => T_X12_personHas_0 hX hdx x1 x2 x3 h hf)
theorem dX12_rests_0 : decode cX12_rests 0 = .ok (.aload_n 0, 1) := by decide +kernel
theorem dX12_rests_1 : decode cX12_rests 1 = .ok (.iconst 0, 1) := by decide +kernel
theorem dX12_rests_2 : decode cX12_rests 2 = .ok (.putfield 3, 3) := by decide +kernel
theorem dX12_rests_5 : decode cX12_rests 5 = .ok (.aload_n 0, 1) := by decide +kernel
theorem dX12_rests_6 : decode cX12_rests 6 = .ok (.aload_n 0, 1) := by decide +kernel
theorem dX12_rests_7 : decode cX12_rests 7 = .ok (.iload_n 1, 1) := by decide +kernel
theorem dX12_rests_8 : decode cX12_rests 8 = .ok (.invokevirtual 407, 3) := by decide +kernel
theorem dX12_rests_11 : decode cX12_rests 11 = .ok (.ifCond .ne 11, 3) := by decide +kernel
theorem dX12_rests_14 : decode cX12_rests 14 = .ok (.aload_n 0, 1) := by decide +kernel
theorem dX12_rests_15 : decode cX12_rests 15 = .ok (.iload_n 2, 1) := by decide +kernel
theorem dX12_rests_16 : decode cX12_rests 16 = .ok (.invokevirtual 407, 3) := by decide +kernel
theorem dX12_rests_19 : decode cX12_rests 19 = .ok (.ifCond .eq 7, 3) := by decide +kernel
theorem dX12_rests_22 : decode cX12_rests 22 = .ok (.iconst 1, 1) := by decide +kernel
theorem dX12_rests_23 : decode cX12_rests 23 = .ok (.goto 4, 3) := by decide +kernel
theorem dX12_rests_26 : decode cX12_rests 26 = .ok (.iconst 0, 1) := by decide +kernel
theorem dX12_rests_27 : decode cX12_rests 27 = .ok (.iconst 1, 1) := by decide +kernel
theorem dX12_rests_28 : decode cX12_rests 28 = .ok (.invokevirtual 280, 3) := by decide +kernel
theorem dX12_rests_31 : decode cX12_rests 31 = .ok (.ifCond .ne 21, 3) := by decide +kernel
theorem dX12_rests_34 : decode cX12_rests 34 = .ok (.aload_n 0, 1) := by decide +kernel
theorem dX12_rests_35 : decode cX12_rests 35 = .ok (.iload_n 1, 1) := by decide +kernel
theorem dX12_rests_36 : decode cX12_rests 36 = .ok (.iload_n 2, 1) := by decide +kernel
theorem dX12_rests_37 : decode cX12_rests 37 = .ok (.if_icmp .ne 7, 3) := by decide +kernel
theorem dX12_rests_40 : decode cX12_rests 40 = .ok (.iconst 1, 1) := by decide +kernel
theorem dX12_rests_41 : decode cX12_rests 41 = .ok (.goto 4, 3) := by decide +kernel
theorem dX12_rests_44 : decode cX12_rests 44 = .ok (.iconst 0, 1) := by decide +kernel
theorem dX12_rests_45 : decode cX12_rests 45 = .ok (.iconst 2, 1) := by decide +kernel
theorem dX12_rests_46 : decode cX12_rests 46 = .ok (.invokevirtual 280, 3) := by decide +kernel
theorem dX12_rests_49 : decode cX12_rests 49 = .ok (.ifCond .eq 5, 3) := by decide +kernel
theorem dX12_rests_52 : decode cX12_rests 52 = .ok (.iconst 0, 1) := by decide +kernel
theorem dX12_rests_53 : decode cX12_rests 53 = .ok (.ireturn, 1) := by decide +kernel
theorem dX12_rests_54 : decode cX12_rests 54 = .ok (.iconst 0, 1) := by decide +kernel
theorem dX12_rests_55 : decode cX12_rests 55 = .ok (.istore_n 3, 1) := by decide +kernel
theorem dX12_rests_56 : decode cX12_rests 56 = .ok (.iconst 0, 1) := by decide +kernel
theorem dX12_rests_57 : decode cX12_rests 57 = .ok (.istore 4, 2) := by decide +kernel
theorem dX12_rests_59 : decode cX12_rests 59 = .ok (.iload 4, 2) := by decide +kernel
theorem dX12_rests_61 : decode cX12_rests 61 = .ok (.iconst 2, 1) := by decide +kernel
theorem dX12_rests_62 : decode cX12_rests 62 = .ok (.if_icmp .ge 86, 3) := by decide +kernel
theorem dX12_rests_65 : decode cX12_rests 65 = .ok (.iconst 0, 1) := by decide +kernel
theorem dX12_rests_66 : decode cX12_rests 66 = .ok (.istore 5, 2) := by decide +kernel
theorem dX12_rests_68 : decode cX12_rests 68 = .ok (.iload 5, 2) := by decide +kernel
theorem dX12_rests_70 : decode cX12_rests 70 = .ok (.iconst 2, 1) := by decide +kernel
theorem dX12_rests_71 : decode cX12_rests 71 = .ok (.if_icmp .ge 71, 3) := by decide +kernel
theorem dX12_rests_74 : decode cX12_rests 74 = .ok (.iload_n 3, 1) := by decide +kernel
theorem dX12_rests_75 : decode cX12_rests 75 = .ok (.aload_n 0, 1) := by decide +kernel
theorem dX12_rests_76 : decode cX12_rests 76 = .ok (.iload_n 1, 1) := by decide +kernel
theorem dX12_rests_77 : decode cX12_rests 77 = .ok (.iload 4, 2) := by decide +kernel
theorem dX12_rests_79 : decode cX12_rests 79 = .ok (.iload 5, 2) := by decide +kernel
theorem dX12_rests_81 : decode cX12_rests 81 = .ok (.invokevirtual 485, 3) := by decide +kernel
theorem dX12_rests_84 : decode cX12_rests 84 = .ok (.aload_n 0, 1) := by decide +kernel
theorem dX12_rests_85 : decode cX12_rests 85 = .ok (.iload_n 1, 1) := by decide +kernel
theorem dX12_rests_86 : decode cX12_rests 86 = .ok (.iconst 1, 1) := by decide +kernel
theorem dX12_rests_87 : decode cX12_rests 87 = .ok (.iload 4, 2) := by decide +kernel
theorem dX12_rests_89 : decode cX12_rests 89 = .ok (.isub, 1) := by decide +kernel
theorem dX12_rests_90 : decode cX12_rests 90 = .ok (.iload 5, 2) := by decide +kernel
theorem dX12_rests_92 : decode cX12_rests 92 = .ok (.invokevirtual 485, 3) := by decide +kernel
theorem dX12_rests_95 : decode cX12_rests 95 = .ok (.if_icmp .lt 38, 3) := by decide +kernel
theorem dX12_rests_98 : decode cX12_rests 98 = .ok (.aload_n 0, 1) := by decide +kernel
theorem dX12_rests_99 : decode cX12_rests 99 = .ok (.iload_n 2, 1) := by decide +kernel
theorem dX12_rests_100 : decode cX12_rests 100 = .ok (.iload 5, 2) := by decide +kernel
theorem dX12_rests_102 : decode cX12_rests 102 = .ok (.iload 4, 2) := by decide +kernel
theorem dX12_rests_104 : decode cX12_rests 104 = .ok (.invokevirtual 485, 3) := by decide +kernel
theorem dX12_rests_107 : decode cX12_rests 107 = .ok (.aload_n 0, 1) := by decide +kernel
theorem dX12_rests_108 : decode cX12_rests 108 = .ok (.iload_n 2, 1) := by decide +kernel
theorem dX12_rests_109 : decode cX12_rests 109 = .ok (.iconst 1, 1) := by decide +kernel
theorem dX12_rests_110 : decode cX12_rests 110 = .ok (.iload 5, 2) := by decide +kernel
theorem dX12_rests_112 : decode cX12_rests 112 = .ok (.isub, 1) := by decide +kernel
theorem dX12_rests_113 : decode cX12_rests 113 = .ok (.iload 4, 2) := by decide +kernel
theorem dX12_rests_115 : decode cX12_rests 115 = .ok (.invokevirtual 485, 3) := by decide +kernel
theorem dX12_rests_118 : decode cX12_rests 118 = .ok (.if_icmp .lt 15, 3) := by decide +kernel
theorem dX12_rests_121 : decode cX12_rests 121 = .ok (.iconst 1, 1) := by decide +kernel
theorem dX12_rests_122 : decode cX12_rests 122 = .ok (.iconst 2, 1) := by decide +kernel
theorem dX12_rests_123 : decode cX12_rests 123 = .ok (.iload 4, 2) := by decide +kernel
theorem dX12_rests_125 : decode cX12_rests 125 = .ok (.imul, 1) := by decide +kernel
theorem dX12_rests_126 : decode cX12_rests 126 = .ok (.iload 5, 2) := by decide +kernel
theorem dX12_rests_128 : decode cX12_rests 128 = .ok (.iadd, 1) := by decide +kernel
theorem dX12_rests_129 : decode cX12_rests 129 = .ok (.ishl, 1) := by decide +kernel
theorem dX12_rests_130 : decode cX12_rests 130 = .ok (.goto 4, 3) := by decide +kernel
theorem dX12_rests_133 : decode cX12_rests 133 = .ok (.iconst 0, 1) := by decide +kernel
theorem dX12_rests_134 : decode cX12_rests 134 = .ok (.ior, 1) := by decide +kernel
theorem dX12_rests_135 : decode cX12_rests 135 = .ok (.istore_n 3, 1) := by decide +kernel
theorem dX12_rests_136 : decode cX12_rests 136 = .ok (.iinc 5 1, 3) := by decide +kernel
theorem dX12_rests_139 : decode cX12_rests 139 = .ok (.goto (-71), 3) := by decide +kernel
theorem dX12_rests_142 : decode cX12_rests 142 = .ok (.iinc 4 1, 3) := by decide +kernel
theorem dX12_rests_145 : decode cX12_rests 145 = .ok (.goto (-86), 3) := by decide +kernel
theorem dX12_rests_148 : decode cX12_rests 148 = .ok (.iload_n 3, 1) := by decide +kernel
theorem dX12_rests_149 : decode cX12_rests 149 = .ok (.ireturn, 1) := by decide +kernel
set_option maxRecDepth 100000 in
set_option maxHeartbeats 200000 in
theorem T_X12_rests_134 {X : CX} (hX : Ok X cX12_rests 6 RX12 (some .int)) (hdx : dX X = 5) {r : Int32 × Hp} (x1 : Int32) (x2 : Int32) (x4 : Int32) (x5 : Int32) (t0 : Int32) (t1 : Int32) (q_59 : Int32 → Int32 → Hp → Option (Int32 × Hp)) (hq_59 : ∀ (x3 : Int32) (x4 : Int32) (h : Hp), q_59 x3 x4 h = some r → J X ((.inl (some (.int r.1)), r.2)) 59 [(0, .ref 30), (1, .int x1), (2, .int x2), (3, .int x3), (4, .int x4)] [] h) (q_68 : Int32 → Int32 → Hp → Option (Int32 × Hp)) (hq_68 : ∀ (x3 : Int32) (x5 : Int32) (h : Hp), q_68 x3 x5 h = some r → J X ((.inl (some (.int r.1)), r.2)) 68 [(0, .ref 30), (1, .int x1), (2, .int x2), (3, .int x3), (4, .int x4), (5, .int x5)] [] h) (h : Hp) (hf : F_X12_rests_134 q_59 q_68 x1 x2 x4 x5 t0 t1 h = some r) : J X ((.inl (some (.int r.1)), r.2)) 134 [(0, .ref 30), (1, .int x1), (2, .int x2), (4, .int x4), (5, .int x5)] [.int t0, .int t1] h := by
  unfold F_X12_rests_134 at hf
  refine J_ior hX dX12_rests_134 ?_
  obtain ⟨x3_1, e_2, hf⟩ := bndE hf
  refine J_nm e_2 ?_
  refine J_istore_n hX [(3, .int x3_1), (0, .ref 30), (1, .int x1), (2, .int x2), (4, .int x4), (5, .int x5)] dX12_rests_135 rfl rfl rfl ?_
  refine J_iinc hX (x5 + 1) 5 [(5, .int (x5 + 1)), (3, .int x3_1), (0, .ref 30), (1, .int x1), (2, .int x2), (4, .int x4)] dX12_rests_136 rfl rfl rfl rfl ?_
  refine J_goto hX 68 dX12_rests_139 rfl ?_
  refine J_sub [2, 3, 4, 1, 5, 0] [(0, .ref 30), (1, .int x1), (2, .int x2), (3, .int x3_1), (4, .int x4), (5, .int (x5 + 1))] rfl ?_
  exact hq_68 x3_1 (x5 + 1) h hf
set_option maxRecDepth 100000 in
set_option maxHeartbeats 200000 in
theorem T_X12_rests_68_s {X : CX} (hX : Ok X cX12_rests 6 RX12 (some .int)) (hdx : dX X = 5) {r : Int32 × Hp} (x1 : Int32) (x2 : Int32) (x4 : Int32) (q_59 : Int32 → Int32 → Hp → Option (Int32 × Hp)) (hq_59 : ∀ (x3 : Int32) (x4 : Int32) (h : Hp), q_59 x3 x4 h = some r → J X ((.inl (some (.int r.1)), r.2)) 59 [(0, .ref 30), (1, .int x1), (2, .int x2), (3, .int x3), (4, .int x4)] [] h) (q_68 : Int32 → Int32 → Hp → Option (Int32 × Hp)) (hq_68 : ∀ (x3 : Int32) (x5 : Int32) (h : Hp), q_68 x3 x5 h = some r → J X ((.inl (some (.int r.1)), r.2)) 68 [(0, .ref 30), (1, .int x1), (2, .int x2), (3, .int x3), (4, .int x4), (5, .int x5)] [] h) (x3 : Int32) (x5 : Int32) (h : Hp) (hf : S_X12_rests_68 q_59 x1 x2 x4 q_68 x3 x5 h = some r) : J X ((.inl (some (.int r.1)), r.2)) 68 [(0, .ref 30), (1, .int x1), (2, .int x2), (3, .int x3), (4, .int x4), (5, .int x5)] [] h := by
  unfold S_X12_rests_68 at hf
  refine J_iload hX 5 dX12_rests_68 rfl ?_
  refine J_iconst hX 2 dX12_rests_70 rfl ?_
  rcases ifE hf with ⟨c_1, hf⟩ | ⟨c_1, hf⟩
  · refine J_icmp_geF hX 142 dX12_rests_71 rfl c_1 ?_
    refine J_iload_n hX 3 dX12_rests_74 rfl rfl ?_
    refine J_aload_n hX 0 dX12_rests_75 rfl rfl ?_
    refine J_iload_n hX 1 dX12_rests_76 rfl rfl ?_
    refine J_iload hX 4 dX12_rests_77 rfl ?_
    refine J_iload hX 5 dX12_rests_79 rfl ?_
    obtain ⟨r_2, e_3, hf⟩ := bdE hf
    refine V_1 hX [.int x1, .int x4, .int x5] dX12_rests_81 cw_X12_485 ob_30 rfl (C_X12_personHas (okG hX) e_3) (ltD hdx rfl) rfl rfl rfl rfl ?_
    refine J_aload_n hX 0 dX12_rests_84 rfl rfl ?_
    refine J_iload_n hX 1 dX12_rests_85 rfl rfl ?_
    refine J_iconst hX 1 dX12_rests_86 rfl ?_
    refine J_iload hX 4 dX12_rests_87 rfl ?_
    refine J_isub hX dX12_rests_89 ?_
    refine J_iload hX 5 dX12_rests_90 rfl ?_
    obtain ⟨r_4, e_5, hf⟩ := bdE hf
    refine V_1 hX [.int x1, .int (1 - x4), .int x5] dX12_rests_92 cw_X12_485 ob_30 rfl (C_X12_personHas (okG hX) e_5) (ltD hdx rfl) rfl rfl rfl rfl ?_
    rcases ifE hf with ⟨c_6, hf⟩ | ⟨c_6, hf⟩
    · refine J_icmp_ltT hX 133 dX12_rests_95 rfl c_6 ?_
      refine J_iconst hX 0 dX12_rests_133 rfl ?_
      refine J_sub [0, 1, 2, 4, 5] [(0, .ref 30), (1, .int x1), (2, .int x2), (4, .int x4), (5, .int x5)] rfl ?_
      exact T_X12_rests_134 hX hdx x1 x2 x4 x5 0 x3 q_59 hq_59 q_68 hq_68 h hf
    · refine J_icmp_ltF hX 133 dX12_rests_95 rfl c_6 ?_
      refine J_aload_n hX 0 dX12_rests_98 rfl rfl ?_
      refine J_iload_n hX 2 dX12_rests_99 rfl rfl ?_
      refine J_iload hX 5 dX12_rests_100 rfl ?_
      refine J_iload hX 4 dX12_rests_102 rfl ?_
      obtain ⟨r_7, e_8, hf⟩ := bdE hf
      refine V_1 hX [.int x2, .int x5, .int x4] dX12_rests_104 cw_X12_485 ob_30 rfl (C_X12_personHas (okG hX) e_8) (ltD hdx rfl) rfl rfl rfl rfl ?_
      refine J_aload_n hX 0 dX12_rests_107 rfl rfl ?_
      refine J_iload_n hX 2 dX12_rests_108 rfl rfl ?_
      refine J_iconst hX 1 dX12_rests_109 rfl ?_
      refine J_iload hX 5 dX12_rests_110 rfl ?_
      refine J_isub hX dX12_rests_112 ?_
      refine J_iload hX 4 dX12_rests_113 rfl ?_
      obtain ⟨r_9, e_10, hf⟩ := bdE hf
      refine V_1 hX [.int x2, .int (1 - x5), .int x4] dX12_rests_115 cw_X12_485 ob_30 rfl (C_X12_personHas (okG hX) e_10) (ltD hdx rfl) rfl rfl rfl rfl ?_
      rcases ifE hf with ⟨c_11, hf⟩ | ⟨c_11, hf⟩
      · refine J_icmp_ltT hX 133 dX12_rests_118 rfl c_11 ?_
        refine J_iconst hX 0 dX12_rests_133 rfl ?_
        refine J_sub [0, 1, 2, 4, 5] [(0, .ref 30), (1, .int x1), (2, .int x2), (4, .int x4), (5, .int x5)] rfl ?_
        exact T_X12_rests_134 hX hdx x1 x2 x4 x5 0 x3 q_59 hq_59 q_68 hq_68 h hf
      · refine J_icmp_ltF hX 133 dX12_rests_118 rfl c_11 ?_
        refine J_iconst hX 1 dX12_rests_121 rfl ?_
        refine J_iconst hX 2 dX12_rests_122 rfl ?_
        refine J_iload hX 4 dX12_rests_123 rfl ?_
        refine J_imul hX dX12_rests_125 ?_
        refine J_iload hX 5 dX12_rests_126 rfl ?_
        refine J_iadd hX dX12_rests_128 ?_
        refine J_ishl hX dX12_rests_129 ?_
        refine J_goto hX 134 dX12_rests_130 rfl ?_
        refine J_sub [0, 1, 2, 4, 5] [(0, .ref 30), (1, .int x1), (2, .int x2), (4, .int x4), (5, .int x5)] rfl ?_
        exact T_X12_rests_134 hX hdx x1 x2 x4 x5 (shl 1 ((2 * x4) + x5)) x3 q_59 hq_59 q_68 hq_68 h hf
  · refine J_icmp_geT hX 142 dX12_rests_71 rfl c_1 ?_
    refine J_iinc hX (x4 + 1) 4 [(4, .int (x4 + 1)), (0, .ref 30), (1, .int x1), (2, .int x2), (3, .int x3), (5, .int x5)] dX12_rests_142 rfl rfl rfl rfl ?_
    refine J_goto hX 59 dX12_rests_145 rfl ?_
    refine J_sub [1, 2, 3, 4, 0] [(0, .ref 30), (1, .int x1), (2, .int x2), (3, .int x3), (4, .int (x4 + 1))] rfl ?_
    exact hq_59 x3 (x4 + 1) h hf
set_option maxRecDepth 100000 in
set_option maxHeartbeats 200000 in
theorem T_X12_rests_68 {X : CX} (hX : Ok X cX12_rests 6 RX12 (some .int)) (hdx : dX X = 5) {r : Int32 × Hp} (x1 : Int32) (x2 : Int32) (x4 : Int32) (q_59 : Int32 → Int32 → Hp → Option (Int32 × Hp)) (hq_59 : ∀ (x3 : Int32) (x4 : Int32) (h : Hp), q_59 x3 x4 h = some r → J X ((.inl (some (.int r.1)), r.2)) 59 [(0, .ref 30), (1, .int x1), (2, .int x2), (3, .int x3), (4, .int x4)] [] h) : ∀ (n : Nat) (x3 : Int32) (x5 : Int32) (h : Hp), F_X12_rests_68 q_59 x1 x2 x4 n x3 x5 h = some r → J X ((.inl (some (.int r.1)), r.2)) 68 [(0, .ref 30), (1, .int x1), (2, .int x2), (3, .int x3), (4, .int x4), (5, .int x5)] [] h := by
  intro n
  induction n with
  | zero => intro x3 x5 h hf; exact nomatch hf
  | succ n ih => intro x3 x5 h hf; exact T_X12_rests_68_s hX hdx x1 x2 x4 q_59 hq_59 _ (fun x3 x5 h hf => ih x3 x5 h hf) x3 x5 h hf
set_option maxRecDepth 100000 in
set_option maxHeartbeats 200000 in
theorem T_X12_rests_59_s {X : CX} (hX : Ok X cX12_rests 6 RX12 (some .int)) (hdx : dX X = 5) {r : Int32 × Hp} (x1 : Int32) (x2 : Int32) (q_59 : Int32 → Int32 → Hp → Option (Int32 × Hp)) (hq_59 : ∀ (x3 : Int32) (x4 : Int32) (h : Hp), q_59 x3 x4 h = some r → J X ((.inl (some (.int r.1)), r.2)) 59 [(0, .ref 30), (1, .int x1), (2, .int x2), (3, .int x3), (4, .int x4)] [] h) (x3 : Int32) (x4 : Int32) (h : Hp) (hf : S_X12_rests_59 x1 x2 q_59 x3 x4 h = some r) : J X ((.inl (some (.int r.1)), r.2)) 59 [(0, .ref 30), (1, .int x1), (2, .int x2), (3, .int x3), (4, .int x4)] [] h := by
  unfold S_X12_rests_59 at hf
  refine J_iload hX 4 dX12_rests_59 rfl ?_
  refine J_iconst hX 2 dX12_rests_61 rfl ?_
  rcases ifE hf with ⟨c_1, hf⟩ | ⟨c_1, hf⟩
  · refine J_icmp_geF hX 148 dX12_rests_62 rfl c_1 ?_
    refine J_iconst hX 0 dX12_rests_65 rfl ?_
    refine J_istore hX [(5, .int 0), (0, .ref 30), (1, .int x1), (2, .int x2), (3, .int x3), (4, .int x4)] dX12_rests_66 rfl rfl ?_
    refine J_sub [1, 2, 3, 4, 5, 0] [(0, .ref 30), (1, .int x1), (2, .int x2), (3, .int x3), (4, .int x4), (5, .int 0)] rfl ?_
    exact T_X12_rests_68 hX hdx x1 x2 x4 q_59 hq_59 FU x3 0 h hf
  · refine J_icmp_geT hX 148 dX12_rests_62 rfl c_1 ?_
    refine J_iload_n hX 3 dX12_rests_148 rfl rfl ?_
    exact E_Ii hX dX12_rests_149 hf
set_option maxRecDepth 100000 in
set_option maxHeartbeats 200000 in
theorem T_X12_rests_59 {X : CX} (hX : Ok X cX12_rests 6 RX12 (some .int)) (hdx : dX X = 5) {r : Int32 × Hp} (x1 : Int32) (x2 : Int32) : ∀ (n : Nat) (x3 : Int32) (x4 : Int32) (h : Hp), F_X12_rests_59 x1 x2 n x3 x4 h = some r → J X ((.inl (some (.int r.1)), r.2)) 59 [(0, .ref 30), (1, .int x1), (2, .int x2), (3, .int x3), (4, .int x4)] [] h := by
  intro n
  induction n with
  | zero => intro x3 x4 h hf; exact nomatch hf
  | succ n ih => intro x3 x4 h hf; exact T_X12_rests_59_s hX hdx x1 x2 _ (fun x3 x4 h hf => ih x3 x4 h hf) x3 x4 h hf
set_option maxRecDepth 100000 in
set_option maxHeartbeats 200000 in
theorem T_X12_rests_45 {X : CX} (hX : Ok X cX12_rests 6 RX12 (some .int)) (hdx : dX X = 5) {r : Int32 × Hp} (x1 : Int32) (x2 : Int32) (t0 : Int32) (h : Hp) (hf : F_X12_rests_45 x1 x2 t0 h = some r) : J X ((.inl (some (.int r.1)), r.2)) 45 [(0, .ref 30), (1, .int x1), (2, .int x2)] [.int t0, .ref 30] h := by
  unfold F_X12_rests_45 at hf
  refine J_iconst hX 2 dX12_rests_45 rfl ?_
  obtain ⟨r_1, e_2, hf⟩ := bdE hf
  refine V_1 hX [.int t0, .int 2] dX12_rests_46 cw_X12_280 ob_30 rfl (C_X12_throwsIf (okG hX) e_2) (ltD hdx rfl) rfl rfl rfl rfl ?_
  rcases ifE hf with ⟨c_3, hf⟩ | ⟨c_3, hf⟩
  · refine J_if_eqF hX 54 dX12_rests_49 rfl (b2iT c_3) ?_
    refine J_iconst hX 0 dX12_rests_52 rfl ?_
    exact E_Ii hX dX12_rests_53 hf
  · refine J_if_eqT hX 54 dX12_rests_49 rfl (b2iF c_3) ?_
    refine J_iconst hX 0 dX12_rests_54 rfl ?_
    refine J_istore_n hX [(3, .int 0), (0, .ref 30), (1, .int x1), (2, .int x2)] dX12_rests_55 rfl rfl rfl ?_
    refine J_iconst hX 0 dX12_rests_56 rfl ?_
    refine J_istore hX [(4, .int 0), (3, .int 0), (0, .ref 30), (1, .int x1), (2, .int x2)] dX12_rests_57 rfl rfl ?_
    refine J_sub [2, 3, 4, 1, 0] [(0, .ref 30), (1, .int x1), (2, .int x2), (3, .int 0), (4, .int 0)] rfl ?_
    exact T_X12_rests_59 hX hdx x1 x2 FU 0 0 r_1.2 hf
set_option maxRecDepth 100000 in
set_option maxHeartbeats 200000 in
theorem T_X12_rests_27 {X : CX} (hX : Ok X cX12_rests 6 RX12 (some .int)) (hdx : dX X = 5) {r : Int32 × Hp} (x1 : Int32) (x2 : Int32) (t0 : Int32) (h : Hp) (hf : F_X12_rests_27 x1 x2 t0 h = some r) : J X ((.inl (some (.int r.1)), r.2)) 27 [(0, .ref 30), (1, .int x1), (2, .int x2)] [.int t0, .ref 30] h := by
  unfold F_X12_rests_27 at hf
  refine J_iconst hX 1 dX12_rests_27 rfl ?_
  obtain ⟨r_1, e_2, hf⟩ := bdE hf
  refine V_1 hX [.int t0, .int 1] dX12_rests_28 cw_X12_280 ob_30 rfl (C_X12_throwsIf (okG hX) e_2) (ltD hdx rfl) rfl rfl rfl rfl ?_
  rcases ifE hf with ⟨c_3, hf⟩ | ⟨c_3, hf⟩
  · refine J_if_neT hX 52 dX12_rests_31 rfl (b2iT c_3) ?_
    refine J_iconst hX 0 dX12_rests_52 rfl ?_
    exact E_Ii hX dX12_rests_53 hf
  · refine J_if_neF hX 52 dX12_rests_31 rfl (b2iF c_3) ?_
    refine J_aload_n hX 0 dX12_rests_34 rfl rfl ?_
    refine J_iload_n hX 1 dX12_rests_35 rfl rfl ?_
    refine J_iload_n hX 2 dX12_rests_36 rfl rfl ?_
    rcases ifE hf with ⟨c_4, hf⟩ | ⟨c_4, hf⟩
    · refine J_icmp_neF hX 44 dX12_rests_37 rfl c_4 ?_
      refine J_iconst hX 1 dX12_rests_40 rfl ?_
      refine J_goto hX 45 dX12_rests_41 rfl ?_
      exact T_X12_rests_45 hX hdx x1 x2 1 r_1.2 hf
    · refine J_icmp_neT hX 44 dX12_rests_37 rfl c_4 ?_
      refine J_iconst hX 0 dX12_rests_44 rfl ?_
      exact T_X12_rests_45 hX hdx x1 x2 0 r_1.2 hf
set_option maxRecDepth 100000 in
set_option maxHeartbeats 200000 in
theorem T_X12_rests_0 {X : CX} (hX : Ok X cX12_rests 6 RX12 (some .int)) (hdx : dX X = 5) {r : Int32 × Hp} (x1 : Int32) (x2 : Int32) (h : Hp) (hf : f_X12_rests x1 x2 h = some r) : J X ((.inl (some (.int r.1)), r.2)) 0 [(0, .ref 30), (1, .int x1), (2, .int x2)] [] h := by
  unfold f_X12_rests at hf
  refine J_aload_n hX 0 dX12_rests_0 rfl rfl ?_
  refine J_iconst hX 0 dX12_rests_1 rfl ?_
  obtain ⟨h_1, e_2, hf⟩ := bndE hf
  refine J_putI hX dX12_rests_2 fl_X12_3 fw_10_0 ob_30 rfl rfl rfl ?_
  refine J_nmh e_2 ?_
  refine J_aload_n hX 0 dX12_rests_5 rfl rfl ?_
  refine J_aload_n hX 0 dX12_rests_6 rfl rfl ?_
  refine J_iload_n hX 1 dX12_rests_7 rfl rfl ?_
  refine V_1 hX [.int x1] dX12_rests_8 cw_X12_407 ob_30 rfl (C_X12_noPerson (okG hX) rfl) (ltD hdx rfl) rfl rfl rfl rfl ?_
  rcases ifE hf with ⟨c_3, hf⟩ | ⟨c_3, hf⟩
  · refine J_if_neT hX 22 dX12_rests_11 rfl (b2iT c_3) ?_
    refine J_iconst hX 1 dX12_rests_22 rfl ?_
    refine J_goto hX 27 dX12_rests_23 rfl ?_
    exact T_X12_rests_27 hX hdx x1 x2 1 h_1 hf
  · refine J_if_neF hX 22 dX12_rests_11 rfl (b2iF c_3) ?_
    refine J_aload_n hX 0 dX12_rests_14 rfl rfl ?_
    refine J_iload_n hX 2 dX12_rests_15 rfl rfl ?_
    refine V_1 hX [.int x2] dX12_rests_16 cw_X12_407 ob_30 rfl (C_X12_noPerson (okG hX) rfl) (ltD hdx rfl) rfl rfl rfl rfl ?_
    rcases ifE hf with ⟨c_4, hf⟩ | ⟨c_4, hf⟩
    · refine J_if_eqF hX 26 dX12_rests_19 rfl (b2iT c_4) ?_
      refine J_iconst hX 1 dX12_rests_22 rfl ?_
      refine J_goto hX 27 dX12_rests_23 rfl ?_
      exact T_X12_rests_27 hX hdx x1 x2 1 h_1 hf
    · refine J_if_eqT hX 26 dX12_rests_19 rfl (b2iF c_4) ?_
      refine J_iconst hX 0 dX12_rests_26 rfl ?_
      exact T_X12_rests_27 hX hdx x1 x2 0 h_1 hf
set_option maxRecDepth 100000 in
set_option maxHeartbeats 200000 in
theorem C_X12_rests {G : GX} (hG : GOk G) {x1 : Int32} {x2 : Int32} {h : Hp} {r : Int32 × Hp} (hf : f_X12_rests x1 x2 h = some r) : Ctr G 5 yX12_rests cX12_rests 6 (some .int) [.ref 30, .int x1, .int x2] h ((.inl (some (.int r.1)), r.2)) :=
  Ctr_of hG RX12 rfl (by decide) rfl (fun X _ hdx hX => T_X12_rests_0 hX hdx x1 x2 h hf)
theorem dX12_odds_0 : decode cX12_odds 0 = .ok (.aload_n 0, 1) := by decide +kernel
theorem dX12_odds_1 : decode cX12_odds 1 = .ok (.iconst 0, 1) := by decide +kernel
theorem dX12_odds_2 : decode cX12_odds 2 = .ok (.putfield 3, 3) := by decide +kernel
theorem dX12_odds_5 : decode cX12_odds 5 = .ok (.aload_n 0, 1) := by decide +kernel
theorem dX12_odds_6 : decode cX12_odds 6 = .ok (.iload_n 1, 1) := by decide +kernel
theorem dX12_odds_7 : decode cX12_odds 7 = .ok (.iconst 0, 1) := by decide +kernel
theorem dX12_odds_8 : decode cX12_odds 8 = .ok (.iconst 4, 1) := by decide +kernel
theorem dX12_odds_9 : decode cX12_odds 9 = .ok (.invokestatic 95, 3) := by decide +kernel
theorem dX12_odds_12 : decode cX12_odds 12 = .ok (.ifCond .ne 7, 3) := by decide +kernel
theorem dX12_odds_15 : decode cX12_odds 15 = .ok (.iconst 1, 1) := by decide +kernel
theorem dX12_odds_16 : decode cX12_odds 16 = .ok (.goto 4, 3) := by decide +kernel
theorem dX12_odds_19 : decode cX12_odds 19 = .ok (.iconst 0, 1) := by decide +kernel
theorem dX12_odds_20 : decode cX12_odds 20 = .ok (.iconst 1, 1) := by decide +kernel
theorem dX12_odds_21 : decode cX12_odds 21 = .ok (.invokevirtual 280, 3) := by decide +kernel
theorem dX12_odds_24 : decode cX12_odds 24 = .ok (.ifCond .eq 5, 3) := by decide +kernel
theorem dX12_odds_27 : decode cX12_odds 27 = .ok (.iconst 0, 1) := by decide +kernel
theorem dX12_odds_28 : decode cX12_odds 28 = .ok (.ireturn, 1) := by decide +kernel
theorem dX12_odds_29 : decode cX12_odds 29 = .ok (.sipush 10000, 3) := by decide +kernel
theorem dX12_odds_32 : decode cX12_odds 32 = .ok (.istore_n 2, 1) := by decide +kernel
theorem dX12_odds_33 : decode cX12_odds 33 = .ok (.iconst 0, 1) := by decide +kernel
theorem dX12_odds_34 : decode cX12_odds 34 = .ok (.istore_n 3, 1) := by decide +kernel
theorem dX12_odds_35 : decode cX12_odds 35 = .ok (.iload_n 3, 1) := by decide +kernel
theorem dX12_odds_36 : decode cX12_odds 36 = .ok (.aload_n 0, 1) := by decide +kernel
theorem dX12_odds_37 : decode cX12_odds 37 = .ok (.invokevirtual 99, 3) := by decide +kernel
theorem dX12_odds_40 : decode cX12_odds 40 = .ok (.if_icmp .ge 54, 3) := by decide +kernel
theorem dX12_odds_43 : decode cX12_odds 43 = .ok (.iconst 0, 1) := by decide +kernel
theorem dX12_odds_44 : decode cX12_odds 44 = .ok (.istore 4, 2) := by decide +kernel
theorem dX12_odds_46 : decode cX12_odds 46 = .ok (.iload 4, 2) := by decide +kernel
theorem dX12_odds_48 : decode cX12_odds 48 = .ok (.iload_n 1, 1) := by decide +kernel
theorem dX12_odds_49 : decode cX12_odds 49 = .ok (.if_icmp .ge 39, 3) := by decide +kernel
theorem dX12_odds_52 : decode cX12_odds 52 = .ok (.aload_n 0, 1) := by decide +kernel
theorem dX12_odds_53 : decode cX12_odds 53 = .ok (.iload_n 3, 1) := by decide +kernel
theorem dX12_odds_54 : decode cX12_odds 54 = .ok (.iconst 0, 1) := by decide +kernel
theorem dX12_odds_55 : decode cX12_odds 55 = .ok (.invokevirtual 283, 3) := by decide +kernel
theorem dX12_odds_58 : decode cX12_odds 58 = .ok (.iconst (-1), 1) := by decide +kernel
theorem dX12_odds_59 : decode cX12_odds 59 = .ok (.if_icmp .ne 7, 3) := by decide +kernel
theorem dX12_odds_62 : decode cX12_odds 62 = .ok (.iload_n 2, 1) := by decide +kernel
theorem dX12_odds_63 : decode cX12_odds 63 = .ok (.goto 18, 3) := by decide +kernel
theorem dX12_odds_66 : decode cX12_odds 66 = .ok (.iload_n 2, 1) := by decide +kernel
theorem dX12_odds_67 : decode cX12_odds 67 = .ok (.bipush 100, 2) := by decide +kernel
theorem dX12_odds_69 : decode cX12_odds 69 = .ok (.aload_n 0, 1) := by decide +kernel
theorem dX12_odds_70 : decode cX12_odds 70 = .ok (.getfield 13, 3) := by decide +kernel
theorem dX12_odds_73 : decode cX12_odds 73 = .ok (.bipush 6, 2) := by decide +kernel
theorem dX12_odds_75 : decode cX12_odds 75 = .ok (.iaload, 1) := by decide +kernel
theorem dX12_odds_76 : decode cX12_odds 76 = .ok (.isub, 1) := by decide +kernel
theorem dX12_odds_77 : decode cX12_odds 77 = .ok (.imul, 1) := by decide +kernel
theorem dX12_odds_78 : decode cX12_odds 78 = .ok (.bipush 100, 2) := by decide +kernel
theorem dX12_odds_80 : decode cX12_odds 80 = .ok (.idiv, 1) := by decide +kernel
theorem dX12_odds_81 : decode cX12_odds 81 = .ok (.istore_n 2, 1) := by decide +kernel
theorem dX12_odds_82 : decode cX12_odds 82 = .ok (.iinc 4 1, 3) := by decide +kernel
theorem dX12_odds_85 : decode cX12_odds 85 = .ok (.goto (-39), 3) := by decide +kernel
theorem dX12_odds_88 : decode cX12_odds 88 = .ok (.iinc 3 1, 3) := by decide +kernel
theorem dX12_odds_91 : decode cX12_odds 91 = .ok (.goto (-56), 3) := by decide +kernel
theorem dX12_odds_94 : decode cX12_odds 94 = .ok (.iload_n 2, 1) := by decide +kernel
theorem dX12_odds_95 : decode cX12_odds 95 = .ok (.ireturn, 1) := by decide +kernel
set_option maxRecDepth 100000 in
set_option maxHeartbeats 200000 in
theorem T_X12_odds_46_s {X : CX} (hX : Ok X cX12_odds 5 RX12 (some .int)) (hdx : dX X = 4) {r : Int32 × Hp} (x1 : Int32) (x3 : Int32) (q_35 : Int32 → Int32 → Hp → Option (Int32 × Hp)) (hq_35 : ∀ (x2 : Int32) (x3 : Int32) (h : Hp), q_35 x2 x3 h = some r → J X ((.inl (some (.int r.1)), r.2)) 35 [(0, .ref 30), (1, .int x1), (2, .int x2), (3, .int x3)] [] h) (q_46 : Int32 → Int32 → Hp → Option (Int32 × Hp)) (hq_46 : ∀ (x2 : Int32) (x4 : Int32) (h : Hp), q_46 x2 x4 h = some r → J X ((.inl (some (.int r.1)), r.2)) 46 [(0, .ref 30), (1, .int x1), (2, .int x2), (3, .int x3), (4, .int x4)] [] h) (x2 : Int32) (x4 : Int32) (h : Hp) (hf : S_X12_odds_46 q_35 x1 x3 q_46 x2 x4 h = some r) : J X ((.inl (some (.int r.1)), r.2)) 46 [(0, .ref 30), (1, .int x1), (2, .int x2), (3, .int x3), (4, .int x4)] [] h := by
  unfold S_X12_odds_46 at hf
  refine J_iload hX 4 dX12_odds_46 rfl ?_
  refine J_iload_n hX 1 dX12_odds_48 rfl rfl ?_
  rcases ifE hf with ⟨c_1, hf⟩ | ⟨c_1, hf⟩
  · refine J_icmp_geF hX 88 dX12_odds_49 rfl c_1 ?_
    refine J_aload_n hX 0 dX12_odds_52 rfl rfl ?_
    refine J_iload_n hX 3 dX12_odds_53 rfl rfl ?_
    refine J_iconst hX 0 dX12_odds_54 rfl ?_
    obtain ⟨r_2, e_3, hf⟩ := bdE hf
    refine V_1 hX [.int x3, .int 0] dX12_odds_55 cw_X12_283 ob_30 rfl (C_X12_ofPerson (okG hX) e_3) (ltD hdx rfl) rfl rfl rfl rfl ?_
    refine J_iconst hX (-1) dX12_odds_58 rfl ?_
    rcases ifE hf with ⟨c_4, hf⟩ | ⟨c_4, hf⟩
    · refine J_icmp_neF hX 66 dX12_odds_59 rfl c_4 ?_
      refine J_iload_n hX 2 dX12_odds_62 rfl rfl ?_
      refine J_goto hX 81 dX12_odds_63 rfl ?_
      refine J_istore_n hX [(2, .int x2), (0, .ref 30), (1, .int x1), (3, .int x3), (4, .int x4)] dX12_odds_81 rfl rfl rfl ?_
      refine J_iinc hX (x4 + 1) 4 [(4, .int (x4 + 1)), (2, .int x2), (0, .ref 30), (1, .int x1), (3, .int x3)] dX12_odds_82 rfl rfl rfl rfl ?_
      refine J_goto hX 46 dX12_odds_85 rfl ?_
      refine J_sub [2, 3, 1, 4, 0] [(0, .ref 30), (1, .int x1), (2, .int x2), (3, .int x3), (4, .int (x4 + 1))] rfl ?_
      exact hq_46 x2 (x4 + 1) h hf
    · refine J_icmp_neT hX 66 dX12_odds_59 rfl c_4 ?_
      refine J_iload_n hX 2 dX12_odds_66 rfl rfl ?_
      refine J_bipush hX 100 dX12_odds_67 rfl ?_
      refine J_aload_n hX 0 dX12_odds_69 rfl rfl ?_
      refine J_getR hX 31 dX12_odds_70 fl_X12_13 ob_30 rfl rfl ?_
      refine J_bipush hX 6 dX12_odds_73 rfl ?_
      refine J_ald hX 6 dX12_odds_75 ar_31 (Or.inl ⟨rfl, rfl⟩) (by decide) (by decide) ?_
      refine J_isub hX dX12_odds_76 ?_
      refine J_imul hX dX12_odds_77 ?_
      refine J_bipush hX 100 dX12_odds_78 rfl ?_
      refine J_idiv hX (by decide) dX12_odds_80 ?_
      obtain ⟨x2_5, e_6, hf⟩ := bndE hf
      refine J_nm e_6 ?_
      refine J_istore_n hX [(2, .int x2_5), (0, .ref 30), (1, .int x1), (3, .int x3), (4, .int x4)] dX12_odds_81 rfl rfl rfl ?_
      refine J_iinc hX (x4 + 1) 4 [(4, .int (x4 + 1)), (2, .int x2_5), (0, .ref 30), (1, .int x1), (3, .int x3)] dX12_odds_82 rfl rfl rfl rfl ?_
      refine J_goto hX 46 dX12_odds_85 rfl ?_
      refine J_sub [2, 3, 1, 4, 0] [(0, .ref 30), (1, .int x1), (2, .int x2_5), (3, .int x3), (4, .int (x4 + 1))] rfl ?_
      exact hq_46 x2_5 (x4 + 1) h hf
  · refine J_icmp_geT hX 88 dX12_odds_49 rfl c_1 ?_
    refine J_iinc hX (x3 + 1) 3 [(3, .int (x3 + 1)), (0, .ref 30), (1, .int x1), (2, .int x2), (4, .int x4)] dX12_odds_88 rfl rfl rfl rfl ?_
    refine J_goto hX 35 dX12_odds_91 rfl ?_
    refine J_sub [1, 2, 3, 0] [(0, .ref 30), (1, .int x1), (2, .int x2), (3, .int (x3 + 1))] rfl ?_
    exact hq_35 x2 (x3 + 1) h hf
set_option maxRecDepth 100000 in
set_option maxHeartbeats 200000 in
theorem T_X12_odds_46 {X : CX} (hX : Ok X cX12_odds 5 RX12 (some .int)) (hdx : dX X = 4) {r : Int32 × Hp} (x1 : Int32) (x3 : Int32) (q_35 : Int32 → Int32 → Hp → Option (Int32 × Hp)) (hq_35 : ∀ (x2 : Int32) (x3 : Int32) (h : Hp), q_35 x2 x3 h = some r → J X ((.inl (some (.int r.1)), r.2)) 35 [(0, .ref 30), (1, .int x1), (2, .int x2), (3, .int x3)] [] h) : ∀ (n : Nat) (x2 : Int32) (x4 : Int32) (h : Hp), F_X12_odds_46 q_35 x1 x3 n x2 x4 h = some r → J X ((.inl (some (.int r.1)), r.2)) 46 [(0, .ref 30), (1, .int x1), (2, .int x2), (3, .int x3), (4, .int x4)] [] h := by
  intro n
  induction n with
  | zero => intro x2 x4 h hf; exact nomatch hf
  | succ n ih => intro x2 x4 h hf; exact T_X12_odds_46_s hX hdx x1 x3 q_35 hq_35 _ (fun x2 x4 h hf => ih x2 x4 h hf) x2 x4 h hf
set_option maxRecDepth 100000 in
set_option maxHeartbeats 200000 in
theorem T_X12_odds_35_s {X : CX} (hX : Ok X cX12_odds 5 RX12 (some .int)) (hdx : dX X = 4) {r : Int32 × Hp} (x1 : Int32) (q_35 : Int32 → Int32 → Hp → Option (Int32 × Hp)) (hq_35 : ∀ (x2 : Int32) (x3 : Int32) (h : Hp), q_35 x2 x3 h = some r → J X ((.inl (some (.int r.1)), r.2)) 35 [(0, .ref 30), (1, .int x1), (2, .int x2), (3, .int x3)] [] h) (x2 : Int32) (x3 : Int32) (h : Hp) (hf : S_X12_odds_35 x1 q_35 x2 x3 h = some r) : J X ((.inl (some (.int r.1)), r.2)) 35 [(0, .ref 30), (1, .int x1), (2, .int x2), (3, .int x3)] [] h := by
  unfold S_X12_odds_35 at hf
  refine J_iload_n hX 3 dX12_odds_35 rfl rfl ?_
  refine J_aload_n hX 0 dX12_odds_36 rfl rfl ?_
  refine V_1 hX [] dX12_odds_37 cw_X12_99 ob_30 rfl (C_X12_people (okG hX) rfl) (ltD hdx rfl) rfl rfl rfl rfl ?_
  rcases ifE hf with ⟨c_1, hf⟩ | ⟨c_1, hf⟩
  · refine J_icmp_geF hX 94 dX12_odds_40 rfl c_1 ?_
    refine J_iconst hX 0 dX12_odds_43 rfl ?_
    refine J_istore hX [(4, .int 0), (0, .ref 30), (1, .int x1), (2, .int x2), (3, .int x3)] dX12_odds_44 rfl rfl ?_
    refine J_sub [1, 2, 3, 4, 0] [(0, .ref 30), (1, .int x1), (2, .int x2), (3, .int x3), (4, .int 0)] rfl ?_
    exact T_X12_odds_46 hX hdx x1 x3 q_35 hq_35 FU x2 0 h hf
  · refine J_icmp_geT hX 94 dX12_odds_40 rfl c_1 ?_
    refine J_iload_n hX 2 dX12_odds_94 rfl rfl ?_
    exact E_Ii hX dX12_odds_95 hf
set_option maxRecDepth 100000 in
set_option maxHeartbeats 200000 in
theorem T_X12_odds_35 {X : CX} (hX : Ok X cX12_odds 5 RX12 (some .int)) (hdx : dX X = 4) {r : Int32 × Hp} (x1 : Int32) : ∀ (n : Nat) (x2 : Int32) (x3 : Int32) (h : Hp), F_X12_odds_35 x1 n x2 x3 h = some r → J X ((.inl (some (.int r.1)), r.2)) 35 [(0, .ref 30), (1, .int x1), (2, .int x2), (3, .int x3)] [] h := by
  intro n
  induction n with
  | zero => intro x2 x3 h hf; exact nomatch hf
  | succ n ih => intro x2 x3 h hf; exact T_X12_odds_35_s hX hdx x1 _ (fun x2 x3 h hf => ih x2 x3 h hf) x2 x3 h hf
set_option maxRecDepth 100000 in
set_option maxHeartbeats 200000 in
theorem T_X12_odds_20 {X : CX} (hX : Ok X cX12_odds 5 RX12 (some .int)) (hdx : dX X = 4) {r : Int32 × Hp} (x1 : Int32) (t0 : Int32) (h : Hp) (hf : F_X12_odds_20 x1 t0 h = some r) : J X ((.inl (some (.int r.1)), r.2)) 20 [(0, .ref 30), (1, .int x1)] [.int t0, .ref 30] h := by
  unfold F_X12_odds_20 at hf
  refine J_iconst hX 1 dX12_odds_20 rfl ?_
  obtain ⟨r_1, e_2, hf⟩ := bdE hf
  refine V_1 hX [.int t0, .int 1] dX12_odds_21 cw_X12_280 ob_30 rfl (C_X12_throwsIf (okG hX) e_2) (ltD hdx rfl) rfl rfl rfl rfl ?_
  rcases ifE hf with ⟨c_3, hf⟩ | ⟨c_3, hf⟩
  · refine J_if_eqF hX 29 dX12_odds_24 rfl (b2iT c_3) ?_
    refine J_iconst hX 0 dX12_odds_27 rfl ?_
    exact E_Ii hX dX12_odds_28 hf
  · refine J_if_eqT hX 29 dX12_odds_24 rfl (b2iF c_3) ?_
    refine J_sipush hX 10000 dX12_odds_29 rfl ?_
    refine J_istore_n hX [(2, .int 10000), (0, .ref 30), (1, .int x1)] dX12_odds_32 rfl rfl rfl ?_
    refine J_iconst hX 0 dX12_odds_33 rfl ?_
    refine J_istore_n hX [(3, .int 0), (2, .int 10000), (0, .ref 30), (1, .int x1)] dX12_odds_34 rfl rfl rfl ?_
    refine J_sub [2, 3, 1, 0] [(0, .ref 30), (1, .int x1), (2, .int 10000), (3, .int 0)] rfl ?_
    exact T_X12_odds_35 hX hdx x1 FU 10000 0 r_1.2 hf
set_option maxRecDepth 100000 in
set_option maxHeartbeats 200000 in
theorem T_X12_odds_0 {X : CX} (hX : Ok X cX12_odds 5 RX12 (some .int)) (hdx : dX X = 4) {r : Int32 × Hp} (x1 : Int32) (h : Hp) (hf : f_X12_odds x1 h = some r) : J X ((.inl (some (.int r.1)), r.2)) 0 [(0, .ref 30), (1, .int x1)] [] h := by
  unfold f_X12_odds at hf
  refine J_aload_n hX 0 dX12_odds_0 rfl rfl ?_
  refine J_iconst hX 0 dX12_odds_1 rfl ?_
  obtain ⟨h_1, e_2, hf⟩ := bndE hf
  refine J_putI hX dX12_odds_2 fl_X12_3 fw_10_0 ob_30 rfl rfl rfl ?_
  refine J_nmh e_2 ?_
  refine J_aload_n hX 0 dX12_odds_5 rfl rfl ?_
  refine J_iload_n hX 1 dX12_odds_6 rfl rfl ?_
  refine J_iconst hX 0 dX12_odds_7 rfl ?_
  refine J_iconst hX 4 dX12_odds_8 rfl ?_
  refine S_1 hX [.int x1, .int 0, .int 4] dX12_odds_9 cw_X12_95 (C_X12_in (okG hX) rfl) (ltD hdx rfl) rfl rfl rfl rfl ?_
  rcases ifE hf with ⟨c_3, hf⟩ | ⟨c_3, hf⟩
  · refine J_if_neT hX 19 dX12_odds_12 rfl (b2iT c_3) ?_
    refine J_iconst hX 0 dX12_odds_19 rfl ?_
    exact T_X12_odds_20 hX hdx x1 0 h_1 hf
  · refine J_if_neF hX 19 dX12_odds_12 rfl (b2iF c_3) ?_
    refine J_iconst hX 1 dX12_odds_15 rfl ?_
    refine J_goto hX 20 dX12_odds_16 rfl ?_
    exact T_X12_odds_20 hX hdx x1 1 h_1 hf
set_option maxRecDepth 100000 in
set_option maxHeartbeats 200000 in
theorem C_X12_odds {G : GX} (hG : GOk G) {x1 : Int32} {h : Hp} {r : Int32 × Hp} (hf : f_X12_odds x1 h = some r) : Ctr G 4 yX12_odds cX12_odds 5 (some .int) [.ref 30, .int x1] h ((.inl (some (.int r.1)), r.2)) :=
  Ctr_of hG RX12 rfl (by decide) rfl (fun X _ hdx hX => T_X12_odds_0 hX hdx x1 h hf)
theorem dX12_oldest_0 : decode cX12_oldest 0 = .ok (.aload_n 0, 1) := by decide +kernel
theorem dX12_oldest_1 : decode cX12_oldest 1 = .ok (.iconst 0, 1) := by decide +kernel
theorem dX12_oldest_2 : decode cX12_oldest 2 = .ok (.putfield 3, 3) := by decide +kernel
theorem dX12_oldest_5 : decode cX12_oldest 5 = .ok (.iconst (-1), 1) := by decide +kernel
theorem dX12_oldest_6 : decode cX12_oldest 6 = .ok (.istore_n 1, 1) := by decide +kernel
theorem dX12_oldest_7 : decode cX12_oldest 7 = .ok (.iconst (-1), 1) := by decide +kernel
theorem dX12_oldest_8 : decode cX12_oldest 8 = .ok (.istore_n 2, 1) := by decide +kernel
theorem dX12_oldest_9 : decode cX12_oldest 9 = .ok (.iconst 0, 1) := by decide +kernel
theorem dX12_oldest_10 : decode cX12_oldest 10 = .ok (.istore_n 3, 1) := by decide +kernel
theorem dX12_oldest_11 : decode cX12_oldest 11 = .ok (.iload_n 3, 1) := by decide +kernel
theorem dX12_oldest_12 : decode cX12_oldest 12 = .ok (.aload_n 0, 1) := by decide +kernel
theorem dX12_oldest_13 : decode cX12_oldest 13 = .ok (.invokevirtual 87, 3) := by decide +kernel
theorem dX12_oldest_16 : decode cX12_oldest 16 = .ok (.if_icmp .ge 48, 3) := by decide +kernel
theorem dX12_oldest_19 : decode cX12_oldest 19 = .ok (.aload_n 0, 1) := by decide +kernel
theorem dX12_oldest_20 : decode cX12_oldest 20 = .ok (.iload_n 3, 1) := by decide +kernel
theorem dX12_oldest_21 : decode cX12_oldest 21 = .ok (.invokevirtual 91, 3) := by decide +kernel
theorem dX12_oldest_24 : decode cX12_oldest 24 = .ok (.ifCond .eq 7, 3) := by decide +kernel
theorem dX12_oldest_27 : decode cX12_oldest 27 = .ok (.iconst (-1), 1) := by decide +kernel
theorem dX12_oldest_28 : decode cX12_oldest 28 = .ok (.goto 9, 3) := by decide +kernel
theorem dX12_oldest_31 : decode cX12_oldest 31 = .ok (.aload_n 0, 1) := by decide +kernel
theorem dX12_oldest_32 : decode cX12_oldest 32 = .ok (.iload_n 3, 1) := by decide +kernel
theorem dX12_oldest_33 : decode cX12_oldest 33 = .ok (.iconst 3, 1) := by decide +kernel
theorem dX12_oldest_34 : decode cX12_oldest 34 = .ok (.invokevirtual 84, 3) := by decide +kernel
theorem dX12_oldest_37 : decode cX12_oldest 37 = .ok (.istore 4, 2) := by decide +kernel
theorem dX12_oldest_39 : decode cX12_oldest 39 = .ok (.iload 4, 2) := by decide +kernel
theorem dX12_oldest_41 : decode cX12_oldest 41 = .ok (.iload_n 2, 1) := by decide +kernel
theorem dX12_oldest_42 : decode cX12_oldest 42 = .ok (.if_icmp .le 7, 3) := by decide +kernel
theorem dX12_oldest_45 : decode cX12_oldest 45 = .ok (.iload_n 3, 1) := by decide +kernel
theorem dX12_oldest_46 : decode cX12_oldest 46 = .ok (.goto 4, 3) := by decide +kernel
theorem dX12_oldest_49 : decode cX12_oldest 49 = .ok (.iload_n 1, 1) := by decide +kernel
theorem dX12_oldest_50 : decode cX12_oldest 50 = .ok (.istore_n 1, 1) := by decide +kernel
theorem dX12_oldest_51 : decode cX12_oldest 51 = .ok (.iload_n 2, 1) := by decide +kernel
theorem dX12_oldest_52 : decode cX12_oldest 52 = .ok (.iload 4, 2) := by decide +kernel
theorem dX12_oldest_54 : decode cX12_oldest 54 = .ok (.invokestatic 314, 3) := by decide +kernel
theorem dX12_oldest_57 : decode cX12_oldest 57 = .ok (.istore_n 2, 1) := by decide +kernel
theorem dX12_oldest_58 : decode cX12_oldest 58 = .ok (.iinc 3 1, 3) := by decide +kernel
theorem dX12_oldest_61 : decode cX12_oldest 61 = .ok (.goto (-50), 3) := by decide +kernel
theorem dX12_oldest_64 : decode cX12_oldest 64 = .ok (.iload_n 1, 1) := by decide +kernel
theorem dX12_oldest_65 : decode cX12_oldest 65 = .ok (.ireturn, 1) := by decide +kernel
set_option maxRecDepth 100000 in
set_option maxHeartbeats 200000 in
theorem T_X12_oldest_50 {X : CX} (hX : Ok X cX12_oldest 5 RX12 (some .int)) (hdx : dX X = 5) {r : Int32 × Hp} (x2 : Int32) (x3 : Int32) (x4 : Int32) (t0 : Int32) (q_11 : Int32 → Int32 → Int32 → Hp → Option (Int32 × Hp)) (hq_11 : ∀ (x1 : Int32) (x2 : Int32) (x3 : Int32) (h : Hp), q_11 x1 x2 x3 h = some r → J X ((.inl (some (.int r.1)), r.2)) 11 [(0, .ref 30), (1, .int x1), (2, .int x2), (3, .int x3)] [] h) (h : Hp) (hf : F_X12_oldest_50 q_11 x2 x3 x4 t0 h = some r) : J X ((.inl (some (.int r.1)), r.2)) 50 [(0, .ref 30), (2, .int x2), (3, .int x3), (4, .int x4)] [.int t0] h := by
  unfold F_X12_oldest_50 at hf
  refine J_istore_n hX [(1, .int t0), (0, .ref 30), (2, .int x2), (3, .int x3), (4, .int x4)] dX12_oldest_50 rfl rfl rfl ?_
  refine J_iload_n hX 2 dX12_oldest_51 rfl rfl ?_
  refine J_iload hX 4 dX12_oldest_52 rfl ?_
  refine J_max hX dX12_oldest_54 mw_X12_314 (ltD hdx rfl) rfl ?_
  obtain ⟨x2_1, e_2, hf⟩ := bndE hf
  refine J_nm e_2 ?_
  refine J_istore_n hX [(2, .int x2_1), (1, .int t0), (0, .ref 30), (3, .int x3), (4, .int x4)] dX12_oldest_57 rfl rfl rfl ?_
  refine J_iinc hX (x3 + 1) 3 [(3, .int (x3 + 1)), (2, .int x2_1), (1, .int t0), (0, .ref 30), (4, .int x4)] dX12_oldest_58 rfl rfl rfl rfl ?_
  refine J_goto hX 11 dX12_oldest_61 rfl ?_
  refine J_sub [3, 2, 1, 0] [(0, .ref 30), (1, .int t0), (2, .int x2_1), (3, .int (x3 + 1))] rfl ?_
  exact hq_11 t0 x2_1 (x3 + 1) h hf
set_option maxRecDepth 100000 in
set_option maxHeartbeats 200000 in
theorem T_X12_oldest_37 {X : CX} (hX : Ok X cX12_oldest 5 RX12 (some .int)) (hdx : dX X = 5) {r : Int32 × Hp} (x1 : Int32) (x2 : Int32) (x3 : Int32) (t0 : Int32) (q_11 : Int32 → Int32 → Int32 → Hp → Option (Int32 × Hp)) (hq_11 : ∀ (x1 : Int32) (x2 : Int32) (x3 : Int32) (h : Hp), q_11 x1 x2 x3 h = some r → J X ((.inl (some (.int r.1)), r.2)) 11 [(0, .ref 30), (1, .int x1), (2, .int x2), (3, .int x3)] [] h) (h : Hp) (hf : F_X12_oldest_37 q_11 x1 x2 x3 t0 h = some r) : J X ((.inl (some (.int r.1)), r.2)) 37 [(0, .ref 30), (1, .int x1), (2, .int x2), (3, .int x3)] [.int t0] h := by
  unfold F_X12_oldest_37 at hf
  refine J_istore hX [(4, .int t0), (0, .ref 30), (1, .int x1), (2, .int x2), (3, .int x3)] dX12_oldest_37 rfl rfl ?_
  refine J_iload hX 0 dX12_oldest_39 rfl ?_
  refine J_iload_n hX 3 dX12_oldest_41 rfl rfl ?_
  rcases ifE hf with ⟨c_1, hf⟩ | ⟨c_1, hf⟩
  · refine J_icmp_leF hX 49 dX12_oldest_42 rfl c_1 ?_
    refine J_iload_n hX 4 dX12_oldest_45 rfl rfl ?_
    refine J_goto hX 50 dX12_oldest_46 rfl ?_
    refine J_sub [1, 3, 4, 0] [(0, .ref 30), (2, .int x2), (3, .int x3), (4, .int t0)] rfl ?_
    exact T_X12_oldest_50 hX hdx x2 x3 t0 x3 q_11 hq_11 h hf
  · refine J_icmp_leT hX 49 dX12_oldest_42 rfl c_1 ?_
    refine J_iload_n hX 2 dX12_oldest_49 rfl rfl ?_
    refine J_sub [1, 3, 4, 0] [(0, .ref 30), (2, .int x2), (3, .int x3), (4, .int t0)] rfl ?_
    exact T_X12_oldest_50 hX hdx x2 x3 t0 x1 q_11 hq_11 h hf
set_option maxRecDepth 100000 in
set_option maxHeartbeats 200000 in
theorem T_X12_oldest_11_s {X : CX} (hX : Ok X cX12_oldest 5 RX12 (some .int)) (hdx : dX X = 5) {r : Int32 × Hp} (q_11 : Int32 → Int32 → Int32 → Hp → Option (Int32 × Hp)) (hq_11 : ∀ (x1 : Int32) (x2 : Int32) (x3 : Int32) (h : Hp), q_11 x1 x2 x3 h = some r → J X ((.inl (some (.int r.1)), r.2)) 11 [(0, .ref 30), (1, .int x1), (2, .int x2), (3, .int x3)] [] h) (x1 : Int32) (x2 : Int32) (x3 : Int32) (h : Hp) (hf : S_X12_oldest_11 q_11 x1 x2 x3 h = some r) : J X ((.inl (some (.int r.1)), r.2)) 11 [(0, .ref 30), (1, .int x1), (2, .int x2), (3, .int x3)] [] h := by
  unfold S_X12_oldest_11 at hf
  refine J_iload_n hX 3 dX12_oldest_11 rfl rfl ?_
  refine J_aload_n hX 0 dX12_oldest_12 rfl rfl ?_
  refine V_1 hX [] dX12_oldest_13 cw_X12_87 ob_30 rfl (C_X12_houses (okG hX) rfl) (ltD hdx rfl) rfl rfl rfl rfl ?_
  rcases ifE hf with ⟨c_1, hf⟩ | ⟨c_1, hf⟩
  · refine J_icmp_geF hX 64 dX12_oldest_16 rfl c_1 ?_
    refine J_aload_n hX 0 dX12_oldest_19 rfl rfl ?_
    refine J_iload_n hX 3 dX12_oldest_20 rfl rfl ?_
    obtain ⟨r_2, e_3, hf⟩ := bdE hf
    refine V_1 hX [.int x3] dX12_oldest_21 cw_X12_91 ob_30 rfl (C_X12_isFallen (okG hX) e_3) (ltD hdx rfl) rfl rfl rfl rfl ?_
    rcases ifE hf with ⟨c_4, hf⟩ | ⟨c_4, hf⟩
    · refine J_if_eqF hX 31 dX12_oldest_24 rfl (b2iT c_4) ?_
      refine J_iconst hX (-1) dX12_oldest_27 rfl ?_
      refine J_goto hX 37 dX12_oldest_28 rfl ?_
      exact T_X12_oldest_37 hX hdx x1 x2 x3 (-1) q_11 hq_11 h hf
    · refine J_if_eqT hX 31 dX12_oldest_24 rfl (b2iF c_4) ?_
      refine J_aload_n hX 0 dX12_oldest_31 rfl rfl ?_
      refine J_iload_n hX 3 dX12_oldest_32 rfl rfl ?_
      refine J_iconst hX 3 dX12_oldest_33 rfl ?_
      obtain ⟨r_5, e_6, hf⟩ := bdE hf
      refine V_1 hX [.int x3, .int 3] dX12_oldest_34 cw_X12_84 ob_30 rfl (C_X12_of (okG hX) e_6) (ltD hdx rfl) rfl rfl rfl rfl ?_
      exact T_X12_oldest_37 hX hdx x1 x2 x3 r_5 q_11 hq_11 h hf
  · refine J_icmp_geT hX 64 dX12_oldest_16 rfl c_1 ?_
    refine J_iload_n hX 1 dX12_oldest_64 rfl rfl ?_
    exact E_Ii hX dX12_oldest_65 hf
set_option maxRecDepth 100000 in
set_option maxHeartbeats 200000 in
theorem T_X12_oldest_11 {X : CX} (hX : Ok X cX12_oldest 5 RX12 (some .int)) (hdx : dX X = 5) {r : Int32 × Hp} : ∀ (n : Nat) (x1 : Int32) (x2 : Int32) (x3 : Int32) (h : Hp), F_X12_oldest_11 n x1 x2 x3 h = some r → J X ((.inl (some (.int r.1)), r.2)) 11 [(0, .ref 30), (1, .int x1), (2, .int x2), (3, .int x3)] [] h := by
  intro n
  induction n with
  | zero => intro x1 x2 x3 h hf; exact nomatch hf
  | succ n ih => intro x1 x2 x3 h hf; exact T_X12_oldest_11_s hX hdx _ (fun x1 x2 x3 h hf => ih x1 x2 x3 h hf) x1 x2 x3 h hf
set_option maxRecDepth 100000 in
set_option maxHeartbeats 200000 in
theorem T_X12_oldest_0 {X : CX} (hX : Ok X cX12_oldest 5 RX12 (some .int)) (hdx : dX X = 5) {r : Int32 × Hp} (h : Hp) (hf : f_X12_oldest h = some r) : J X ((.inl (some (.int r.1)), r.2)) 0 [(0, .ref 30)] [] h := by
  unfold f_X12_oldest at hf
  refine J_aload_n hX 0 dX12_oldest_0 rfl rfl ?_
  refine J_iconst hX 0 dX12_oldest_1 rfl ?_
  obtain ⟨h_1, e_2, hf⟩ := bndE hf
  refine J_putI hX dX12_oldest_2 fl_X12_3 fw_10_0 ob_30 rfl rfl rfl ?_
  refine J_nmh e_2 ?_
  refine J_iconst hX (-1) dX12_oldest_5 rfl ?_
  refine J_istore_n hX [(1, .int (-1)), (0, .ref 30)] dX12_oldest_6 rfl rfl rfl ?_
  refine J_iconst hX (-1) dX12_oldest_7 rfl ?_
  refine J_istore_n hX [(2, .int (-1)), (1, .int (-1)), (0, .ref 30)] dX12_oldest_8 rfl rfl rfl ?_
  refine J_iconst hX 0 dX12_oldest_9 rfl ?_
  refine J_istore_n hX [(3, .int 0), (2, .int (-1)), (1, .int (-1)), (0, .ref 30)] dX12_oldest_10 rfl rfl rfl ?_
  refine J_sub [3, 2, 1, 0] [(0, .ref 30), (1, .int (-1)), (2, .int (-1)), (3, .int 0)] rfl ?_
  exact T_X12_oldest_11 hX hdx FU (-1) (-1) 0 h_1 hf
set_option maxRecDepth 100000 in
set_option maxHeartbeats 200000 in
theorem C_X12_oldest {G : GX} (hG : GOk G) {h : Hp} {r : Int32 × Hp} (hf : f_X12_oldest h = some r) : Ctr G 5 yX12_oldest cX12_oldest 5 (some .int) [.ref 30] h ((.inl (some (.int r.1)), r.2)) :=
  Ctr_of hG RX12 rfl (by decide) rfl (fun X _ hdx hX => T_X12_oldest_0 hX hdx h hf)
theorem dX12_straight_0 : decode cX12_straight 0 = .ok (.aload_n 0, 1) := by decide +kernel
theorem dX12_straight_1 : decode cX12_straight 1 = .ok (.iconst 0, 1) := by decide +kernel
theorem dX12_straight_2 : decode cX12_straight 2 = .ok (.putfield 3, 3) := by decide +kernel
theorem dX12_straight_5 : decode cX12_straight 5 = .ok (.iconst 0, 1) := by decide +kernel
theorem dX12_straight_6 : decode cX12_straight 6 = .ok (.istore_n 1, 1) := by decide +kernel
theorem dX12_straight_7 : decode cX12_straight 7 = .ok (.iconst 0, 1) := by decide +kernel
theorem dX12_straight_8 : decode cX12_straight 8 = .ok (.istore_n 2, 1) := by decide +kernel
theorem dX12_straight_9 : decode cX12_straight 9 = .ok (.iload_n 2, 1) := by decide +kernel
theorem dX12_straight_10 : decode cX12_straight 10 = .ok (.aload_n 0, 1) := by decide +kernel
theorem dX12_straight_11 : decode cX12_straight 11 = .ok (.invokevirtual 87, 3) := by decide +kernel
theorem dX12_straight_14 : decode cX12_straight 14 = .ok (.if_icmp .ge 43, 3) := by decide +kernel
theorem dX12_straight_17 : decode cX12_straight 17 = .ok (.iload_n 1, 1) := by decide +kernel
theorem dX12_straight_18 : decode cX12_straight 18 = .ok (.aload_n 0, 1) := by decide +kernel
theorem dX12_straight_19 : decode cX12_straight 19 = .ok (.iload_n 2, 1) := by decide +kernel
theorem dX12_straight_20 : decode cX12_straight 20 = .ok (.invokevirtual 91, 3) := by decide +kernel
theorem dX12_straight_23 : decode cX12_straight 23 = .ok (.ifCond .ne 25, 3) := by decide +kernel
theorem dX12_straight_26 : decode cX12_straight 26 = .ok (.aload_n 0, 1) := by decide +kernel
theorem dX12_straight_27 : decode cX12_straight 27 = .ok (.iload_n 2, 1) := by decide +kernel
theorem dX12_straight_28 : decode cX12_straight 28 = .ok (.invokevirtual 106, 3) := by decide +kernel
theorem dX12_straight_31 : decode cX12_straight 31 = .ok (.ifCond .ne 17, 3) := by decide +kernel
theorem dX12_straight_34 : decode cX12_straight 34 = .ok (.aload_n 0, 1) := by decide +kernel
theorem dX12_straight_35 : decode cX12_straight 35 = .ok (.iload_n 2, 1) := by decide +kernel
theorem dX12_straight_36 : decode cX12_straight 36 = .ok (.invokevirtual 295, 3) := by decide +kernel
theorem dX12_straight_39 : decode cX12_straight 39 = .ok (.ifCond .ne 9, 3) := by decide +kernel
theorem dX12_straight_42 : decode cX12_straight 42 = .ok (.iconst 1, 1) := by decide +kernel
theorem dX12_straight_43 : decode cX12_straight 43 = .ok (.iload_n 2, 1) := by decide +kernel
theorem dX12_straight_44 : decode cX12_straight 44 = .ok (.ishl, 1) := by decide +kernel
theorem dX12_straight_45 : decode cX12_straight 45 = .ok (.goto 4, 3) := by decide +kernel
theorem dX12_straight_48 : decode cX12_straight 48 = .ok (.iconst 0, 1) := by decide +kernel
theorem dX12_straight_49 : decode cX12_straight 49 = .ok (.ior, 1) := by decide +kernel
theorem dX12_straight_50 : decode cX12_straight 50 = .ok (.istore_n 1, 1) := by decide +kernel
theorem dX12_straight_51 : decode cX12_straight 51 = .ok (.iinc 2 1, 3) := by decide +kernel
theorem dX12_straight_54 : decode cX12_straight 54 = .ok (.goto (-45), 3) := by decide +kernel
theorem dX12_straight_57 : decode cX12_straight 57 = .ok (.iload_n 1, 1) := by decide +kernel
theorem dX12_straight_58 : decode cX12_straight 58 = .ok (.ireturn, 1) := by decide +kernel
set_option maxRecDepth 100000 in
set_option maxHeartbeats 200000 in
theorem T_X12_straight_49 {X : CX} (hX : Ok X cX12_straight 3 RX12 (some .int)) (hdx : dX X = 5) {r : Int32 × Hp} (x2 : Int32) (t0 : Int32) (t1 : Int32) (q_9 : Int32 → Int32 → Hp → Option (Int32 × Hp)) (hq_9 : ∀ (x1 : Int32) (x2 : Int32) (h : Hp), q_9 x1 x2 h = some r → J X ((.inl (some (.int r.1)), r.2)) 9 [(0, .ref 30), (1, .int x1), (2, .int x2)] [] h) (h : Hp) (hf : F_X12_straight_49 q_9 x2 t0 t1 h = some r) : J X ((.inl (some (.int r.1)), r.2)) 49 [(0, .ref 30), (2, .int x2)] [.int t0, .int t1] h := by
  unfold F_X12_straight_49 at hf
  refine J_ior hX dX12_straight_49 ?_
  obtain ⟨x1_1, e_2, hf⟩ := bndE hf
  refine J_nm e_2 ?_
  refine J_istore_n hX [(1, .int x1_1), (0, .ref 30), (2, .int x2)] dX12_straight_50 rfl rfl rfl ?_
  refine J_iinc hX (x2 + 1) 2 [(2, .int (x2 + 1)), (1, .int x1_1), (0, .ref 30)] dX12_straight_51 rfl rfl rfl rfl ?_
  refine J_goto hX 9 dX12_straight_54 rfl ?_
  refine J_sub [2, 1, 0] [(0, .ref 30), (1, .int x1_1), (2, .int (x2 + 1))] rfl ?_
  exact hq_9 x1_1 (x2 + 1) h hf
set_option maxRecDepth 100000 in
set_option maxHeartbeats 200000 in
theorem T_X12_straight_9_s {X : CX} (hX : Ok X cX12_straight 3 RX12 (some .int)) (hdx : dX X = 5) {r : Int32 × Hp} (q_9 : Int32 → Int32 → Hp → Option (Int32 × Hp)) (hq_9 : ∀ (x1 : Int32) (x2 : Int32) (h : Hp), q_9 x1 x2 h = some r → J X ((.inl (some (.int r.1)), r.2)) 9 [(0, .ref 30), (1, .int x1), (2, .int x2)] [] h) (x1 : Int32) (x2 : Int32) (h : Hp) (hf : S_X12_straight_9 q_9 x1 x2 h = some r) : J X ((.inl (some (.int r.1)), r.2)) 9 [(0, .ref 30), (1, .int x1), (2, .int x2)] [] h := by
  unfold S_X12_straight_9 at hf
  refine J_iload_n hX 2 dX12_straight_9 rfl rfl ?_
  refine J_aload_n hX 0 dX12_straight_10 rfl rfl ?_
  refine V_1 hX [] dX12_straight_11 cw_X12_87 ob_30 rfl (C_X12_houses (okG hX) rfl) (ltD hdx rfl) rfl rfl rfl rfl ?_
  rcases ifE hf with ⟨c_1, hf⟩ | ⟨c_1, hf⟩
  · refine J_icmp_geF hX 57 dX12_straight_14 rfl c_1 ?_
    refine J_iload_n hX 1 dX12_straight_17 rfl rfl ?_
    refine J_aload_n hX 0 dX12_straight_18 rfl rfl ?_
    refine J_iload_n hX 2 dX12_straight_19 rfl rfl ?_
    obtain ⟨r_2, e_3, hf⟩ := bdE hf
    refine V_1 hX [.int x2] dX12_straight_20 cw_X12_91 ob_30 rfl (C_X12_isFallen (okG hX) e_3) (ltD hdx rfl) rfl rfl rfl rfl ?_
    rcases ifE hf with ⟨c_4, hf⟩ | ⟨c_4, hf⟩
    · refine J_if_neT hX 48 dX12_straight_23 rfl (b2iT c_4) ?_
      refine J_iconst hX 0 dX12_straight_48 rfl ?_
      refine J_sub [0, 2] [(0, .ref 30), (2, .int x2)] rfl ?_
      exact T_X12_straight_49 hX hdx x2 0 x1 q_9 hq_9 h hf
    · refine J_if_neF hX 48 dX12_straight_23 rfl (b2iF c_4) ?_
      refine J_aload_n hX 0 dX12_straight_26 rfl rfl ?_
      refine J_iload_n hX 2 dX12_straight_27 rfl rfl ?_
      obtain ⟨r_5, e_6, hf⟩ := bdE hf
      refine V_1 hX [.int x2] dX12_straight_28 cw_X12_106 ob_30 rfl (C_X12_partsOf (okG hX) e_6) (ltD hdx rfl) rfl rfl rfl rfl ?_
      rcases ifE hf with ⟨c_7, hf⟩ | ⟨c_7, hf⟩
      · refine J_if_neF hX 48 dX12_straight_31 rfl c_7 ?_
        refine J_aload_n hX 0 dX12_straight_34 rfl rfl ?_
        refine J_iload_n hX 2 dX12_straight_35 rfl rfl ?_
        obtain ⟨r_8, e_9, hf⟩ := bdE hf
        refine V_1 hX [.int x2] dX12_straight_36 cw_X12_295 ob_30 rfl (C_X12_isLeant (okG hX) e_9) (ltD hdx rfl) rfl rfl rfl rfl ?_
        rcases ifE hf with ⟨c_10, hf⟩ | ⟨c_10, hf⟩
        · refine J_if_neT hX 48 dX12_straight_39 rfl (b2iT c_10) ?_
          refine J_iconst hX 0 dX12_straight_48 rfl ?_
          refine J_sub [0, 2] [(0, .ref 30), (2, .int x2)] rfl ?_
          exact T_X12_straight_49 hX hdx x2 0 x1 q_9 hq_9 h hf
        · refine J_if_neF hX 48 dX12_straight_39 rfl (b2iF c_10) ?_
          refine J_iconst hX 1 dX12_straight_42 rfl ?_
          refine J_iload_n hX 2 dX12_straight_43 rfl rfl ?_
          refine J_ishl hX dX12_straight_44 ?_
          refine J_goto hX 49 dX12_straight_45 rfl ?_
          refine J_sub [0, 2] [(0, .ref 30), (2, .int x2)] rfl ?_
          exact T_X12_straight_49 hX hdx x2 (shl 1 x2) x1 q_9 hq_9 h hf
      · refine J_if_neT hX 48 dX12_straight_31 rfl c_7 ?_
        refine J_iconst hX 0 dX12_straight_48 rfl ?_
        refine J_sub [0, 2] [(0, .ref 30), (2, .int x2)] rfl ?_
        exact T_X12_straight_49 hX hdx x2 0 x1 q_9 hq_9 h hf
  · refine J_icmp_geT hX 57 dX12_straight_14 rfl c_1 ?_
    refine J_iload_n hX 1 dX12_straight_57 rfl rfl ?_
    exact E_Ii hX dX12_straight_58 hf
set_option maxRecDepth 100000 in
set_option maxHeartbeats 200000 in
theorem T_X12_straight_9 {X : CX} (hX : Ok X cX12_straight 3 RX12 (some .int)) (hdx : dX X = 5) {r : Int32 × Hp} : ∀ (n : Nat) (x1 : Int32) (x2 : Int32) (h : Hp), F_X12_straight_9 n x1 x2 h = some r → J X ((.inl (some (.int r.1)), r.2)) 9 [(0, .ref 30), (1, .int x1), (2, .int x2)] [] h := by
  intro n
  induction n with
  | zero => intro x1 x2 h hf; exact nomatch hf
  | succ n ih => intro x1 x2 h hf; exact T_X12_straight_9_s hX hdx _ (fun x1 x2 h hf => ih x1 x2 h hf) x1 x2 h hf
set_option maxRecDepth 100000 in
set_option maxHeartbeats 200000 in
theorem T_X12_straight_0 {X : CX} (hX : Ok X cX12_straight 3 RX12 (some .int)) (hdx : dX X = 5) {r : Int32 × Hp} (h : Hp) (hf : f_X12_straight h = some r) : J X ((.inl (some (.int r.1)), r.2)) 0 [(0, .ref 30)] [] h := by
  unfold f_X12_straight at hf
  refine J_aload_n hX 0 dX12_straight_0 rfl rfl ?_
  refine J_iconst hX 0 dX12_straight_1 rfl ?_
  obtain ⟨h_1, e_2, hf⟩ := bndE hf
  refine J_putI hX dX12_straight_2 fl_X12_3 fw_10_0 ob_30 rfl rfl rfl ?_
  refine J_nmh e_2 ?_
  refine J_iconst hX 0 dX12_straight_5 rfl ?_
  refine J_istore_n hX [(1, .int 0), (0, .ref 30)] dX12_straight_6 rfl rfl rfl ?_
  refine J_iconst hX 0 dX12_straight_7 rfl ?_
  refine J_istore_n hX [(2, .int 0), (1, .int 0), (0, .ref 30)] dX12_straight_8 rfl rfl rfl ?_
  refine J_sub [2, 1, 0] [(0, .ref 30), (1, .int 0), (2, .int 0)] rfl ?_
  exact T_X12_straight_9 hX hdx FU 0 0 h_1 hf
set_option maxRecDepth 100000 in
set_option maxHeartbeats 200000 in
theorem C_X12_straight {G : GX} (hG : GOk G) {h : Hp} {r : Int32 × Hp} (hf : f_X12_straight h = some r) : Ctr G 5 yX12_straight cX12_straight 3 (some .int) [.ref 30] h ((.inl (some (.int r.1)), r.2)) :=
  Ctr_of hG RX12 rfl (by decide) rfl (fun X _ hdx hX => T_X12_straight_0 hX hdx h hf)
theorem dX12_there_0 : decode cX12_there 0 = .ok (.aload_n 0, 1) := by decide +kernel
theorem dX12_there_1 : decode cX12_there 1 = .ok (.iconst 0, 1) := by decide +kernel
theorem dX12_there_2 : decode cX12_there 2 = .ok (.putfield 3, 3) := by decide +kernel
theorem dX12_there_5 : decode cX12_there 5 = .ok (.aload_n 0, 1) := by decide +kernel
theorem dX12_there_6 : decode cX12_there 6 = .ok (.iload_n 1, 1) := by decide +kernel
theorem dX12_there_7 : decode cX12_there 7 = .ok (.invokestatic 420, 3) := by decide +kernel
theorem dX12_there_10 : decode cX12_there 10 = .ok (.iconst 1, 1) := by decide +kernel
theorem dX12_there_11 : decode cX12_there 11 = .ok (.invokevirtual 280, 3) := by decide +kernel
theorem dX12_there_14 : decode cX12_there 14 = .ok (.ifCond .eq 5, 3) := by decide +kernel
theorem dX12_there_17 : decode cX12_there 17 = .ok (.iconst 0, 1) := by decide +kernel
theorem dX12_there_18 : decode cX12_there 18 = .ok (.ireturn, 1) := by decide +kernel
theorem dX12_there_19 : decode cX12_there 19 = .ok (.iconst 0, 1) := by decide +kernel
theorem dX12_there_20 : decode cX12_there 20 = .ok (.istore_n 2, 1) := by decide +kernel
theorem dX12_there_21 : decode cX12_there 21 = .ok (.iconst 0, 1) := by decide +kernel
theorem dX12_there_22 : decode cX12_there 22 = .ok (.istore_n 3, 1) := by decide +kernel
theorem dX12_there_23 : decode cX12_there 23 = .ok (.iload_n 3, 1) := by decide +kernel
theorem dX12_there_24 : decode cX12_there 24 = .ok (.aload_n 0, 1) := by decide +kernel
theorem dX12_there_25 : decode cX12_there 25 = .ok (.invokevirtual 99, 3) := by decide +kernel
theorem dX12_there_28 : decode cX12_there 28 = .ok (.if_icmp .ge 42, 3) := by decide +kernel
theorem dX12_there_31 : decode cX12_there 31 = .ok (.iload_n 2, 1) := by decide +kernel
theorem dX12_there_32 : decode cX12_there 32 = .ok (.aload_n 0, 1) := by decide +kernel
theorem dX12_there_33 : decode cX12_there 33 = .ok (.iload_n 3, 1) := by decide +kernel
theorem dX12_there_34 : decode cX12_there 34 = .ok (.iconst 0, 1) := by decide +kernel
theorem dX12_there_35 : decode cX12_there 35 = .ok (.invokevirtual 283, 3) := by decide +kernel
theorem dX12_there_38 : decode cX12_there 38 = .ok (.iconst (-1), 1) := by decide +kernel
theorem dX12_there_39 : decode cX12_there 39 = .ok (.if_icmp .eq 22, 3) := by decide +kernel
theorem dX12_there_42 : decode cX12_there 42 = .ok (.aload_n 0, 1) := by decide +kernel
theorem dX12_there_43 : decode cX12_there 43 = .ok (.iload_n 3, 1) := by decide +kernel
theorem dX12_there_44 : decode cX12_there 44 = .ok (.iconst 2, 1) := by decide +kernel
theorem dX12_there_45 : decode cX12_there 45 = .ok (.invokevirtual 283, 3) := by decide +kernel
theorem dX12_there_48 : decode cX12_there 48 = .ok (.iload_n 1, 1) := by decide +kernel
theorem dX12_there_49 : decode cX12_there 49 = .ok (.invokestatic 289, 3) := by decide +kernel
theorem dX12_there_52 : decode cX12_there 52 = .ok (.ifCond .eq 9, 3) := by decide +kernel
theorem dX12_there_55 : decode cX12_there 55 = .ok (.iconst 1, 1) := by decide +kernel
theorem dX12_there_56 : decode cX12_there 56 = .ok (.iload_n 3, 1) := by decide +kernel
theorem dX12_there_57 : decode cX12_there 57 = .ok (.ishl, 1) := by decide +kernel
theorem dX12_there_58 : decode cX12_there 58 = .ok (.goto 4, 3) := by decide +kernel
theorem dX12_there_61 : decode cX12_there 61 = .ok (.iconst 0, 1) := by decide +kernel
theorem dX12_there_62 : decode cX12_there 62 = .ok (.ior, 1) := by decide +kernel
theorem dX12_there_63 : decode cX12_there 63 = .ok (.istore_n 2, 1) := by decide +kernel
theorem dX12_there_64 : decode cX12_there 64 = .ok (.iinc 3 1, 3) := by decide +kernel
theorem dX12_there_67 : decode cX12_there 67 = .ok (.goto (-44), 3) := by decide +kernel
theorem dX12_there_70 : decode cX12_there 70 = .ok (.iload_n 2, 1) := by decide +kernel
theorem dX12_there_71 : decode cX12_there 71 = .ok (.ireturn, 1) := by decide +kernel
set_option maxRecDepth 100000 in
set_option maxHeartbeats 200000 in
theorem T_X12_there_62 {X : CX} (hX : Ok X cX12_there 4 RX12 (some .int)) (hdx : dX X = 4) {r : Int32 × Hp} (x1 : Int32) (x3 : Int32) (t0 : Int32) (t1 : Int32) (q_23 : Int32 → Int32 → Hp → Option (Int32 × Hp)) (hq_23 : ∀ (x2 : Int32) (x3 : Int32) (h : Hp), q_23 x2 x3 h = some r → J X ((.inl (some (.int r.1)), r.2)) 23 [(0, .ref 30), (1, .int x1), (2, .int x2), (3, .int x3)] [] h) (h : Hp) (hf : F_X12_there_62 q_23 x1 x3 t0 t1 h = some r) : J X ((.inl (some (.int r.1)), r.2)) 62 [(0, .ref 30), (1, .int x1), (3, .int x3)] [.int t0, .int t1] h := by
  unfold F_X12_there_62 at hf
  refine J_ior hX dX12_there_62 ?_
  obtain ⟨x2_1, e_2, hf⟩ := bndE hf
  refine J_nm e_2 ?_
  refine J_istore_n hX [(2, .int x2_1), (0, .ref 30), (1, .int x1), (3, .int x3)] dX12_there_63 rfl rfl rfl ?_
  refine J_iinc hX (x3 + 1) 3 [(3, .int (x3 + 1)), (2, .int x2_1), (0, .ref 30), (1, .int x1)] dX12_there_64 rfl rfl rfl rfl ?_
  refine J_goto hX 23 dX12_there_67 rfl ?_
  refine J_sub [2, 3, 1, 0] [(0, .ref 30), (1, .int x1), (2, .int x2_1), (3, .int (x3 + 1))] rfl ?_
  exact hq_23 x2_1 (x3 + 1) h hf
set_option maxRecDepth 100000 in
set_option maxHeartbeats 200000 in
theorem T_X12_there_23_s {X : CX} (hX : Ok X cX12_there 4 RX12 (some .int)) (hdx : dX X = 4) {r : Int32 × Hp} (x1 : Int32) (q_23 : Int32 → Int32 → Hp → Option (Int32 × Hp)) (hq_23 : ∀ (x2 : Int32) (x3 : Int32) (h : Hp), q_23 x2 x3 h = some r → J X ((.inl (some (.int r.1)), r.2)) 23 [(0, .ref 30), (1, .int x1), (2, .int x2), (3, .int x3)] [] h) (x2 : Int32) (x3 : Int32) (h : Hp) (hf : S_X12_there_23 x1 q_23 x2 x3 h = some r) : J X ((.inl (some (.int r.1)), r.2)) 23 [(0, .ref 30), (1, .int x1), (2, .int x2), (3, .int x3)] [] h := by
  unfold S_X12_there_23 at hf
  refine J_iload_n hX 3 dX12_there_23 rfl rfl ?_
  refine J_aload_n hX 0 dX12_there_24 rfl rfl ?_
  refine V_1 hX [] dX12_there_25 cw_X12_99 ob_30 rfl (C_X12_people (okG hX) rfl) (ltD hdx rfl) rfl rfl rfl rfl ?_
  rcases ifE hf with ⟨c_1, hf⟩ | ⟨c_1, hf⟩
  · refine J_icmp_geF hX 70 dX12_there_28 rfl c_1 ?_
    refine J_iload_n hX 2 dX12_there_31 rfl rfl ?_
    refine J_aload_n hX 0 dX12_there_32 rfl rfl ?_
    refine J_iload_n hX 3 dX12_there_33 rfl rfl ?_
    refine J_iconst hX 0 dX12_there_34 rfl ?_
    obtain ⟨r_2, e_3, hf⟩ := bdE hf
    refine V_1 hX [.int x3, .int 0] dX12_there_35 cw_X12_283 ob_30 rfl (C_X12_ofPerson (okG hX) e_3) (ltD hdx rfl) rfl rfl rfl rfl ?_
    refine J_iconst hX (-1) dX12_there_38 rfl ?_
    rcases ifE hf with ⟨c_4, hf⟩ | ⟨c_4, hf⟩
    · refine J_icmp_eqT hX 61 dX12_there_39 rfl c_4 ?_
      refine J_iconst hX 0 dX12_there_61 rfl ?_
      refine J_sub [0, 1, 3] [(0, .ref 30), (1, .int x1), (3, .int x3)] rfl ?_
      exact T_X12_there_62 hX hdx x1 x3 0 x2 q_23 hq_23 h hf
    · refine J_icmp_eqF hX 61 dX12_there_39 rfl c_4 ?_
      refine J_aload_n hX 0 dX12_there_42 rfl rfl ?_
      refine J_iload_n hX 3 dX12_there_43 rfl rfl ?_
      refine J_iconst hX 2 dX12_there_44 rfl ?_
      obtain ⟨r_5, e_6, hf⟩ := bdE hf
      refine V_1 hX [.int x3, .int 2] dX12_there_45 cw_X12_283 ob_30 rfl (C_X12_ofPerson (okG hX) e_6) (ltD hdx rfl) rfl rfl rfl rfl ?_
      refine J_iload_n hX 1 dX12_there_48 rfl rfl ?_
      refine S_1 hX [.int r_5, .int x1] dX12_there_49 cw_X12_289 (C_X12_has (okG hX) rfl) (ltD hdx rfl) rfl rfl rfl rfl ?_
      rcases ifE hf with ⟨c_7, hf⟩ | ⟨c_7, hf⟩
      · refine J_if_eqF hX 61 dX12_there_52 rfl (b2iT c_7) ?_
        refine J_iconst hX 1 dX12_there_55 rfl ?_
        refine J_iload_n hX 3 dX12_there_56 rfl rfl ?_
        refine J_ishl hX dX12_there_57 ?_
        refine J_goto hX 62 dX12_there_58 rfl ?_
        refine J_sub [0, 1, 3] [(0, .ref 30), (1, .int x1), (3, .int x3)] rfl ?_
        exact T_X12_there_62 hX hdx x1 x3 (shl 1 x3) x2 q_23 hq_23 h hf
      · refine J_if_eqT hX 61 dX12_there_52 rfl (b2iF c_7) ?_
        refine J_iconst hX 0 dX12_there_61 rfl ?_
        refine J_sub [0, 1, 3] [(0, .ref 30), (1, .int x1), (3, .int x3)] rfl ?_
        exact T_X12_there_62 hX hdx x1 x3 0 x2 q_23 hq_23 h hf
  · refine J_icmp_geT hX 70 dX12_there_28 rfl c_1 ?_
    refine J_iload_n hX 2 dX12_there_70 rfl rfl ?_
    exact E_Ii hX dX12_there_71 hf
set_option maxRecDepth 100000 in
set_option maxHeartbeats 200000 in
theorem T_X12_there_23 {X : CX} (hX : Ok X cX12_there 4 RX12 (some .int)) (hdx : dX X = 4) {r : Int32 × Hp} (x1 : Int32) : ∀ (n : Nat) (x2 : Int32) (x3 : Int32) (h : Hp), F_X12_there_23 x1 n x2 x3 h = some r → J X ((.inl (some (.int r.1)), r.2)) 23 [(0, .ref 30), (1, .int x1), (2, .int x2), (3, .int x3)] [] h := by
  intro n
  induction n with
  | zero => intro x2 x3 h hf; exact nomatch hf
  | succ n ih => intro x2 x3 h hf; exact T_X12_there_23_s hX hdx x1 _ (fun x2 x3 h hf => ih x2 x3 h hf) x2 x3 h hf
set_option maxRecDepth 100000 in
set_option maxHeartbeats 200000 in
theorem T_X12_there_0 {X : CX} (hX : Ok X cX12_there 4 RX12 (some .int)) (hdx : dX X = 4) {r : Int32 × Hp} (x1 : Int32) (h : Hp) (hf : f_X12_there x1 h = some r) : J X ((.inl (some (.int r.1)), r.2)) 0 [(0, .ref 30), (1, .int x1)] [] h := by
  unfold f_X12_there at hf
  refine J_aload_n hX 0 dX12_there_0 rfl rfl ?_
  refine J_iconst hX 0 dX12_there_1 rfl ?_
  obtain ⟨h_1, e_2, hf⟩ := bndE hf
  refine J_putI hX dX12_there_2 fl_X12_3 fw_10_0 ob_30 rfl rfl rfl ?_
  refine J_nmh e_2 ?_
  refine J_aload_n hX 0 dX12_there_5 rfl rfl ?_
  refine J_iload_n hX 1 dX12_there_6 rfl rfl ?_
  refine S_1 hX [.int x1] dX12_there_7 cw_X12_420 (C_X12_noEvening (okG hX) rfl) (ltD hdx rfl) rfl rfl rfl rfl ?_
  refine J_iconst hX 1 dX12_there_10 rfl ?_
  obtain ⟨r_3, e_4, hf⟩ := bdE hf
  refine V_1 hX [.int (b2i (f_X12_noEvening x1 h_1)), .int 1] dX12_there_11 cw_X12_280 ob_30 rfl (C_X12_throwsIf (okG hX) e_4) (ltD hdx rfl) rfl rfl rfl rfl ?_
  rcases ifE hf with ⟨c_5, hf⟩ | ⟨c_5, hf⟩
  · refine J_if_eqF hX 19 dX12_there_14 rfl (b2iT c_5) ?_
    refine J_iconst hX 0 dX12_there_17 rfl ?_
    exact E_Ii hX dX12_there_18 hf
  · refine J_if_eqT hX 19 dX12_there_14 rfl (b2iF c_5) ?_
    refine J_iconst hX 0 dX12_there_19 rfl ?_
    refine J_istore_n hX [(2, .int 0), (0, .ref 30), (1, .int x1)] dX12_there_20 rfl rfl rfl ?_
    refine J_iconst hX 0 dX12_there_21 rfl ?_
    refine J_istore_n hX [(3, .int 0), (2, .int 0), (0, .ref 30), (1, .int x1)] dX12_there_22 rfl rfl rfl ?_
    refine J_sub [2, 3, 1, 0] [(0, .ref 30), (1, .int x1), (2, .int 0), (3, .int 0)] rfl ?_
    exact T_X12_there_23 hX hdx x1 FU 0 0 r_3.2 hf
set_option maxRecDepth 100000 in
set_option maxHeartbeats 200000 in
theorem C_X12_there {G : GX} (hG : GOk G) {x1 : Int32} {h : Hp} {r : Int32 × Hp} (hf : f_X12_there x1 h = some r) : Ctr G 4 yX12_there cX12_there 4 (some .int) [.ref 30, .int x1] h ((.inl (some (.int r.1)), r.2)) :=
  Ctr_of hG RX12 rfl (by decide) rfl (fun X _ hdx hX => T_X12_there_0 hX hdx x1 h hf)
