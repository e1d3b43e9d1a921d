theorem dX12_twins_0 : decode cX12_twins 0 = .ok (.aload_n 0, 1) := by decide +kernel
theorem dX12_twins_1 : decode cX12_twins 1 = .ok (.iconst 0, 1) := by decide +kernel
theorem dX12_twins_2 : decode cX12_twins 2 = .ok (.putfield 3, 3) := by decide +kernel
theorem dX12_twins_5 : decode cX12_twins 5 = .ok (.iconst 0, 1) := by decide +kernel
theorem dX12_twins_6 : decode cX12_twins 6 = .ok (.istore_n 1, 1) := by decide +kernel
theorem dX12_twins_7 : decode cX12_twins 7 = .ok (.iconst 0, 1) := by decide +kernel
theorem dX12_twins_8 : decode cX12_twins 8 = .ok (.istore_n 2, 1) := by decide +kernel
theorem dX12_twins_9 : decode cX12_twins 9 = .ok (.iload_n 2, 1) := by decide +kernel
theorem dX12_twins_10 : decode cX12_twins 10 = .ok (.aload_n 0, 1) := by decide +kernel
theorem dX12_twins_11 : decode cX12_twins 11 = .ok (.invokevirtual 87, 3) := by decide +kernel
theorem dX12_twins_14 : decode cX12_twins 14 = .ok (.if_icmp .ge 76, 3) := by decide +kernel
theorem dX12_twins_17 : decode cX12_twins 17 = .ok (.iconst 0, 1) := by decide +kernel
theorem dX12_twins_18 : decode cX12_twins 18 = .ok (.istore_n 3, 1) := by decide +kernel
theorem dX12_twins_19 : decode cX12_twins 19 = .ok (.iload_n 3, 1) := by decide +kernel
theorem dX12_twins_20 : decode cX12_twins 20 = .ok (.iload_n 2, 1) := by decide +kernel
theorem dX12_twins_21 : decode cX12_twins 21 = .ok (.if_icmp .ge 63, 3) := by decide +kernel
theorem dX12_twins_24 : decode cX12_twins 24 = .ok (.iload_n 1, 1) := by decide +kernel
theorem dX12_twins_25 : decode cX12_twins 25 = .ok (.aload_n 0, 1) := by decide +kernel
theorem dX12_twins_26 : decode cX12_twins 26 = .ok (.iload_n 2, 1) := by decide +kernel
theorem dX12_twins_27 : decode cX12_twins 27 = .ok (.invokevirtual 91, 3) := by decide +kernel
theorem dX12_twins_30 : decode cX12_twins 30 = .ok (.ifCond .ne 45, 3) := by decide +kernel
theorem dX12_twins_33 : decode cX12_twins 33 = .ok (.aload_n 0, 1) := by decide +kernel
theorem dX12_twins_34 : decode cX12_twins 34 = .ok (.iload_n 3, 1) := by decide +kernel
theorem dX12_twins_35 : decode cX12_twins 35 = .ok (.invokevirtual 91, 3) := by decide +kernel
theorem dX12_twins_38 : decode cX12_twins 38 = .ok (.ifCond .ne 37, 3) := by decide +kernel
theorem dX12_twins_41 : decode cX12_twins 41 = .ok (.aload_n 0, 1) := by decide +kernel
theorem dX12_twins_42 : decode cX12_twins 42 = .ok (.iload_n 2, 1) := by decide +kernel
theorem dX12_twins_43 : decode cX12_twins 43 = .ok (.iconst 0, 1) := by decide +kernel
theorem dX12_twins_44 : decode cX12_twins 44 = .ok (.invokevirtual 84, 3) := by decide +kernel
theorem dX12_twins_47 : decode cX12_twins 47 = .ok (.aload_n 0, 1) := by decide +kernel
theorem dX12_twins_48 : decode cX12_twins 48 = .ok (.iload_n 3, 1) := by decide +kernel
theorem dX12_twins_49 : decode cX12_twins 49 = .ok (.iconst 0, 1) := by decide +kernel
theorem dX12_twins_50 : decode cX12_twins 50 = .ok (.invokevirtual 84, 3) := by decide +kernel
theorem dX12_twins_53 : decode cX12_twins 53 = .ok (.if_icmp .ne 22, 3) := by decide +kernel
theorem dX12_twins_56 : decode cX12_twins 56 = .ok (.aload_n 0, 1) := by decide +kernel
theorem dX12_twins_57 : decode cX12_twins 57 = .ok (.iload_n 2, 1) := by decide +kernel
theorem dX12_twins_58 : decode cX12_twins 58 = .ok (.iconst 1, 1) := by decide +kernel
theorem dX12_twins_59 : decode cX12_twins 59 = .ok (.invokevirtual 84, 3) := by decide +kernel
theorem dX12_twins_62 : decode cX12_twins 62 = .ok (.aload_n 0, 1) := by decide +kernel
theorem dX12_twins_63 : decode cX12_twins 63 = .ok (.iload_n 3, 1) := by decide +kernel
theorem dX12_twins_64 : decode cX12_twins 64 = .ok (.iconst 1, 1) := by decide +kernel
theorem dX12_twins_65 : decode cX12_twins 65 = .ok (.invokevirtual 84, 3) := by decide +kernel
theorem dX12_twins_68 : decode cX12_twins 68 = .ok (.if_icmp .ne 7, 3) := by decide +kernel
theorem dX12_twins_71 : decode cX12_twins 71 = .ok (.iconst 1, 1) := by decide +kernel
theorem dX12_twins_72 : decode cX12_twins 72 = .ok (.goto 4, 3) := by decide +kernel
theorem dX12_twins_75 : decode cX12_twins 75 = .ok (.iconst 0, 1) := by decide +kernel
theorem dX12_twins_76 : decode cX12_twins 76 = .ok (.iadd, 1) := by decide +kernel
theorem dX12_twins_77 : decode cX12_twins 77 = .ok (.istore_n 1, 1) := by decide +kernel
theorem dX12_twins_78 : decode cX12_twins 78 = .ok (.iinc 3 1, 3) := by decide +kernel
theorem dX12_twins_81 : decode cX12_twins 81 = .ok (.goto (-62), 3) := by decide +kernel
theorem dX12_twins_84 : decode cX12_twins 84 = .ok (.iinc 2 1, 3) := by decide +kernel
theorem dX12_twins_87 : decode cX12_twins 87 = .ok (.goto (-78), 3) := by decide +kernel
theorem dX12_twins_90 : decode cX12_twins 90 = .ok (.iload_n 1, 1) := by decide +kernel
theorem dX12_twins_91 : decode cX12_twins 91 = .ok (.ireturn, 1) := by decide +kernel
set_option maxRecDepth 100000 in
set_option maxHeartbeats 200000 in
theorem T_X12_twins_76 {X : CX} (hX : Ok X cX12_twins 4 RX12 (some .int)) (hdx : dX X = 5) {r : Int32 × Hp} (x2 : Int32) (x3 : Int32) (t0 : Int32) (t1 : Int32) (q_9 : Int32 → Int32 → Hp → Option (Int32 × Hp)) (hq_9 : ∀ (x1 : Int32) (x2 : Int32) (h : Hp), q_9 x1 x2 h = some r → J X ((.inl (some (.int r.1)), r.2)) 9 [(0, .ref 30), (1, .int x1), (2, .int x2)] [] h) (q_19 : Int32 → Int32 → Hp → Option (Int32 × Hp)) (hq_19 : ∀ (x1 : Int32) (x3 : Int32) (h : Hp), q_19 x1 x3 h = some r → J X ((.inl (some (.int r.1)), r.2)) 19 [(0, .ref 30), (1, .int x1), (2, .int x2), (3, .int x3)] [] h) (h : Hp) (hf : F_X12_twins_76 q_9 q_19 x2 x3 t0 t1 h = some r) : J X ((.inl (some (.int r.1)), r.2)) 76 [(0, .ref 30), (2, .int x2), (3, .int x3)] [.int t0, .int t1] h := by
  unfold F_X12_twins_76 at hf
  refine J_iadd hX dX12_twins_76 ?_
  refine J_istore_n hX [(1, .int (t1 + t0)), (0, .ref 30), (2, .int x2), (3, .int x3)] dX12_twins_77 rfl rfl rfl ?_
  refine J_iinc hX (x3 + 1) 3 [(3, .int (x3 + 1)), (1, .int (t1 + t0)), (0, .ref 30), (2, .int x2)] dX12_twins_78 rfl rfl rfl rfl ?_
  refine J_goto hX 19 dX12_twins_81 rfl ?_
  refine J_sub [2, 1, 3, 0] [(0, .ref 30), (1, .int (t1 + t0)), (2, .int x2), (3, .int (x3 + 1))] rfl ?_
  exact hq_19 (t1 + t0) (x3 + 1) h hf
set_option maxRecDepth 100000 in
set_option maxHeartbeats 200000 in
theorem T_X12_twins_19_s {X : CX} (hX : Ok X cX12_twins 4 RX12 (some .int)) (hdx : dX X = 5) {r : Int32 × Hp} (x2 : Int32) (q_9 : Int32 → Int32 → Hp → Option (Int32 × Hp)) (hq_9 : ∀ (x1 : Int32) (x2 : Int32) (h : Hp), q_9 x1 x2 h = some r → J X ((.inl (some (.int r.1)), r.2)) 9 [(0, .ref 30), (1, .int x1), (2, .int x2)] [] h) (q_19 : Int32 → Int32 → Hp → Option (Int32 × Hp)) (hq_19 : ∀ (x1 : Int32) (x3 : Int32) (h : Hp), q_19 x1 x3 h = some r → J X ((.inl (some (.int r.1)), r.2)) 19 [(0, .ref 30), (1, .int x1), (2, .int x2), (3, .int x3)] [] h) (x1 : Int32) (x3 : Int32) (h : Hp) (hf : S_X12_twins_19 q_9 x2 q_19 x1 x3 h = some r) : J X ((.inl (some (.int r.1)), r.2)) 19 [(0, .ref 30), (1, .int x1), (2, .int x2), (3, .int x3)] [] h := by
  unfold S_X12_twins_19 at hf
  refine J_iload_n hX 3 dX12_twins_19 rfl rfl ?_
  refine J_iload_n hX 2 dX12_twins_20 rfl rfl ?_
  rcases ifE hf with ⟨c_1, hf⟩ | ⟨c_1, hf⟩
  · refine J_icmp_geF hX 84 dX12_twins_21 rfl c_1 ?_
    refine J_iload_n hX 1 dX12_twins_24 rfl rfl ?_
    refine J_aload_n hX 0 dX12_twins_25 rfl rfl ?_
    refine J_iload_n hX 2 dX12_twins_26 rfl rfl ?_
    obtain ⟨r_2, e_3, hf⟩ := bdE hf
    refine V_1 hX [.int x2] dX12_twins_27 cw_X12_91 ob_30 rfl (C_X12_isFallen (okG hX) e_3) (ltD hdx rfl) rfl rfl rfl rfl ?_
    rcases ifE hf with ⟨c_4, hf⟩ | ⟨c_4, hf⟩
    · refine J_if_neT hX 75 dX12_twins_30 rfl (b2iT c_4) ?_
      refine J_iconst hX 0 dX12_twins_75 rfl ?_
      refine J_sub [0, 2, 3] [(0, .ref 30), (2, .int x2), (3, .int x3)] rfl ?_
      exact T_X12_twins_76 hX hdx x2 x3 0 x1 q_9 hq_9 q_19 hq_19 h hf
    · refine J_if_neF hX 75 dX12_twins_30 rfl (b2iF c_4) ?_
      refine J_aload_n hX 0 dX12_twins_33 rfl rfl ?_
      refine J_iload_n hX 3 dX12_twins_34 rfl rfl ?_
      obtain ⟨r_5, e_6, hf⟩ := bdE hf
      refine V_1 hX [.int x3] dX12_twins_35 cw_X12_91 ob_30 rfl (C_X12_isFallen (okG hX) e_6) (ltD hdx rfl) rfl rfl rfl rfl ?_
      rcases ifE hf with ⟨c_7, hf⟩ | ⟨c_7, hf⟩
      · refine J_if_neT hX 75 dX12_twins_38 rfl (b2iT c_7) ?_
        refine J_iconst hX 0 dX12_twins_75 rfl ?_
        refine J_sub [0, 2, 3] [(0, .ref 30), (2, .int x2), (3, .int x3)] rfl ?_
        exact T_X12_twins_76 hX hdx x2 x3 0 x1 q_9 hq_9 q_19 hq_19 h hf
      · refine J_if_neF hX 75 dX12_twins_38 rfl (b2iF c_7) ?_
        refine J_aload_n hX 0 dX12_twins_41 rfl rfl ?_
        refine J_iload_n hX 2 dX12_twins_42 rfl rfl ?_
        refine J_iconst hX 0 dX12_twins_43 rfl ?_
        obtain ⟨r_8, e_9, hf⟩ := bdE hf
        refine V_1 hX [.int x2, .int 0] dX12_twins_44 cw_X12_84 ob_30 rfl (C_X12_of (okG hX) e_9) (ltD hdx rfl) rfl rfl rfl rfl ?_
        refine J_aload_n hX 0 dX12_twins_47 rfl rfl ?_
        refine J_iload_n hX 3 dX12_twins_48 rfl rfl ?_
        refine J_iconst hX 0 dX12_twins_49 rfl ?_
        obtain ⟨r_10, e_11, hf⟩ := bdE hf
        refine V_1 hX [.int x3, .int 0] dX12_twins_50 cw_X12_84 ob_30 rfl (C_X12_of (okG hX) e_11) (ltD hdx rfl) rfl rfl rfl rfl ?_
        rcases ifE hf with ⟨c_12, hf⟩ | ⟨c_12, hf⟩
        · refine J_icmp_neF hX 75 dX12_twins_53 rfl c_12 ?_
          refine J_aload_n hX 0 dX12_twins_56 rfl rfl ?_
          refine J_iload_n hX 2 dX12_twins_57 rfl rfl ?_
          refine J_iconst hX 1 dX12_twins_58 rfl ?_
          obtain ⟨r_13, e_14, hf⟩ := bdE hf
          refine V_1 hX [.int x2, .int 1] dX12_twins_59 cw_X12_84 ob_30 rfl (C_X12_of (okG hX) e_14) (ltD hdx rfl) rfl rfl rfl rfl ?_
          refine J_aload_n hX 0 dX12_twins_62 rfl rfl ?_
          refine J_iload_n hX 3 dX12_twins_63 rfl rfl ?_
          refine J_iconst hX 1 dX12_twins_64 rfl ?_
          obtain ⟨r_15, e_16, hf⟩ := bdE hf
          refine V_1 hX [.int x3, .int 1] dX12_twins_65 cw_X12_84 ob_30 rfl (C_X12_of (okG hX) e_16) (ltD hdx rfl) rfl rfl rfl rfl ?_
          rcases ifE hf with ⟨c_17, hf⟩ | ⟨c_17, hf⟩
          · refine J_icmp_neF hX 75 dX12_twins_68 rfl c_17 ?_
            refine J_iconst hX 1 dX12_twins_71 rfl ?_
            refine J_goto hX 76 dX12_twins_72 rfl ?_
            refine J_sub [0, 2, 3] [(0, .ref 30), (2, .int x2), (3, .int x3)] rfl ?_
            exact T_X12_twins_76 hX hdx x2 x3 1 x1 q_9 hq_9 q_19 hq_19 h hf
          · refine J_icmp_neT hX 75 dX12_twins_68 rfl c_17 ?_
            refine J_iconst hX 0 dX12_twins_75 rfl ?_
            refine J_sub [0, 2, 3] [(0, .ref 30), (2, .int x2), (3, .int x3)] rfl ?_
            exact T_X12_twins_76 hX hdx x2 x3 0 x1 q_9 hq_9 q_19 hq_19 h hf
        · refine J_icmp_neT hX 75 dX12_twins_53 rfl c_12 ?_
          refine J_iconst hX 0 dX12_twins_75 rfl ?_
          refine J_sub [0, 2, 3] [(0, .ref 30), (2, .int x2), (3, .int x3)] rfl ?_
          exact T_X12_twins_76 hX hdx x2 x3 0 x1 q_9 hq_9 q_19 hq_19 h hf
  · refine J_icmp_geT hX 84 dX12_twins_21 rfl c_1 ?_
    refine J_iinc hX (x2 + 1) 2 [(2, .int (x2 + 1)), (0, .ref 30), (1, .int x1), (3, .int x3)] dX12_twins_84 rfl rfl rfl rfl ?_
    refine J_goto hX 9 dX12_twins_87 rfl ?_
    refine J_sub [1, 2, 0] [(0, .ref 30), (1, .int x1), (2, .int (x2 + 1))] rfl ?_
    exact hq_9 x1 (x2 + 1) h hf
set_option maxRecDepth 100000 in
set_option maxHeartbeats 200000 in
theorem T_X12_twins_19 {X : CX} (hX : Ok X cX12_twins 4 RX12 (some .int)) (hdx : dX X = 5) {r : Int32 × Hp} (x2 : Int32) (q_9 : Int32 → Int32 → Hp → Option (Int32 × Hp)) (hq_9 : ∀ (x1 : Int32) (x2 : Int32) (h : Hp), q_9 x1 x2 h = some r → J X ((.inl (some (.int r.1)), r.2)) 9 [(0, .ref 30), (1, .int x1), (2, .int x2)] [] h) : ∀ (n : Nat) (x1 : Int32) (x3 : Int32) (h : Hp), F_X12_twins_19 q_9 x2 n x1 x3 h = some r → J X ((.inl (some (.int r.1)), r.2)) 19 [(0, .ref 30), (1, .int x1), (2, .int x2), (3, .int x3)] [] h := by
  intro n
  induction n with
  | zero => intro x1 x3 h hf; exact nomatch hf
  | succ n ih => intro x1 x3 h hf; exact T_X12_twins_19_s hX hdx x2 q_9 hq_9 _ (fun x1 x3 h hf => ih x1 x3 h hf) x1 x3 h hf
set_option maxRecDepth 100000 in
set_option maxHeartbeats 200000 in
theorem T_X12_twins_9_s {X : CX} (hX : Ok X cX12_twins 4 RX12 (some .int)) (hdx : dX X = 5) {r : Int32 × Hp} (q_9 : Int32 → Int32 → Hp → Option (Int32 × Hp)) (hq_9 : ∀ (x1 : Int32) (x2 : Int32) (h : Hp), q_9 x1 x2 h = some r → J X ((.inl (some (.int r.1)), r.2)) 9 [(0, .ref 30), (1, .int x1), (2, .int x2)] [] h) (x1 : Int32) (x2 : Int32) (h : Hp) (hf : S_X12_twins_9 q_9 x1 x2 h = some r) : J X ((.inl (some (.int r.1)), r.2)) 9 [(0, .ref 30), (1, .int x1), (2, .int x2)] [] h := by
  unfold S_X12_twins_9 at hf
  refine J_iload_n hX 2 dX12_twins_9 rfl rfl ?_
  refine J_aload_n hX 0 dX12_twins_10 rfl rfl ?_
  refine V_1 hX [] dX12_twins_11 cw_X12_87 ob_30 rfl (C_X12_houses (okG hX) rfl) (ltD hdx rfl) rfl rfl rfl rfl ?_
  rcases ifE hf with ⟨c_1, hf⟩ | ⟨c_1, hf⟩
  · refine J_icmp_geF hX 90 dX12_twins_14 rfl c_1 ?_
    refine J_iconst hX 0 dX12_twins_17 rfl ?_
    refine J_istore_n hX [(3, .int 0), (0, .ref 30), (1, .int x1), (2, .int x2)] dX12_twins_18 rfl rfl rfl ?_
    refine J_sub [1, 2, 3, 0] [(0, .ref 30), (1, .int x1), (2, .int x2), (3, .int 0)] rfl ?_
    exact T_X12_twins_19 hX hdx x2 q_9 hq_9 FU x1 0 h hf
  · refine J_icmp_geT hX 90 dX12_twins_14 rfl c_1 ?_
    refine J_iload_n hX 1 dX12_twins_90 rfl rfl ?_
    exact E_Ii hX dX12_twins_91 hf
set_option maxRecDepth 100000 in
set_option maxHeartbeats 200000 in
theorem T_X12_twins_9 {X : CX} (hX : Ok X cX12_twins 4 RX12 (some .int)) (hdx : dX X = 5) {r : Int32 × Hp} : ∀ (n : Nat) (x1 : Int32) (x2 : Int32) (h : Hp), F_X12_twins_9 n x1 x2 h = some r → J X ((.inl (some (.int r.1)), r.2)) 9 [(0, .ref 30), (1, .int x1), (2, .int x2)] [] h := by
  intro n
  induction n with
  | zero => intro x1 x2 h hf; exact nomatch hf
  | succ n ih => intro x1 x2 h hf; exact T_X12_twins_9_s hX hdx _ (fun x1 x2 h hf => ih x1 x2 h hf) x1 x2 h hf
set_option maxRecDepth 100000 in
set_option maxHeartbeats 200000 in
theorem T_X12_twins_0 {X : CX} (hX : Ok X cX12_twins 4 RX12 (some .int)) (hdx : dX X = 5) {r : Int32 × Hp} (h : Hp) (hf : f_X12_twins h = some r) : J X ((.inl (some (.int r.1)), r.2)) 0 [(0, .ref 30)] [] h := by
  unfold f_X12_twins at hf
  refine J_aload_n hX 0 dX12_twins_0 rfl rfl ?_
  refine J_iconst hX 0 dX12_twins_1 rfl ?_
  obtain ⟨h_1, e_2, hf⟩ := bndE hf
  refine J_putI hX dX12_twins_2 fl_X12_3 fw_10_0 ob_30 rfl rfl rfl ?_
  refine J_nmh e_2 ?_
  refine J_iconst hX 0 dX12_twins_5 rfl ?_
  refine J_istore_n hX [(1, .int 0), (0, .ref 30)] dX12_twins_6 rfl rfl rfl ?_
  refine J_iconst hX 0 dX12_twins_7 rfl ?_
  refine J_istore_n hX [(2, .int 0), (1, .int 0), (0, .ref 30)] dX12_twins_8 rfl rfl rfl ?_
  refine J_sub [2, 1, 0] [(0, .ref 30), (1, .int 0), (2, .int 0)] rfl ?_
  exact T_X12_twins_9 hX hdx FU 0 0 h_1 hf
set_option maxRecDepth 100000 in
set_option maxHeartbeats 200000 in
theorem C_X12_twins {G : GX} (hG : GOk G) {h : Hp} {r : Int32 × Hp} (hf : f_X12_twins h = some r) : Ctr G 5 yX12_twins cX12_twins 4 (some .int) [.ref 30] h ((.inl (some (.int r.1)), r.2)) :=
  Ctr_of hG RX12 rfl (by decide) rfl (fun X _ hdx hX => T_X12_twins_0 hX hdx h hf)
theorem dX12_leans_0 : decode cX12_leans 0 = .ok (.aload_n 0, 1) := by decide +kernel
theorem dX12_leans_1 : decode cX12_leans 1 = .ok (.iconst 0, 1) := by decide +kernel
theorem dX12_leans_2 : decode cX12_leans 2 = .ok (.putfield 3, 3) := by decide +kernel
theorem dX12_leans_5 : decode cX12_leans 5 = .ok (.iconst 0, 1) := by decide +kernel
theorem dX12_leans_6 : decode cX12_leans 6 = .ok (.istore_n 1, 1) := by decide +kernel
theorem dX12_leans_7 : decode cX12_leans 7 = .ok (.iconst 0, 1) := by decide +kernel
theorem dX12_leans_8 : decode cX12_leans 8 = .ok (.istore_n 2, 1) := by decide +kernel
theorem dX12_leans_9 : decode cX12_leans 9 = .ok (.iload_n 2, 1) := by decide +kernel
theorem dX12_leans_10 : decode cX12_leans 10 = .ok (.aload_n 0, 1) := by decide +kernel
theorem dX12_leans_11 : decode cX12_leans 11 = .ok (.invokevirtual 87, 3) := by decide +kernel
theorem dX12_leans_14 : decode cX12_leans 14 = .ok (.if_icmp .ge 42, 3) := by decide +kernel
theorem dX12_leans_17 : decode cX12_leans 17 = .ok (.iconst 0, 1) := by decide +kernel
theorem dX12_leans_18 : decode cX12_leans 18 = .ok (.istore_n 3, 1) := by decide +kernel
theorem dX12_leans_19 : decode cX12_leans 19 = .ok (.iload_n 3, 1) := by decide +kernel
theorem dX12_leans_20 : decode cX12_leans 20 = .ok (.aload_n 0, 1) := by decide +kernel
theorem dX12_leans_21 : decode cX12_leans 21 = .ok (.invokevirtual 87, 3) := by decide +kernel
theorem dX12_leans_24 : decode cX12_leans 24 = .ok (.if_icmp .ge 26, 3) := by decide +kernel
theorem dX12_leans_27 : decode cX12_leans 27 = .ok (.iload_n 1, 1) := by decide +kernel
theorem dX12_leans_28 : decode cX12_leans 28 = .ok (.aload_n 0, 1) := by decide +kernel
theorem dX12_leans_29 : decode cX12_leans 29 = .ok (.iload_n 2, 1) := by decide +kernel
theorem dX12_leans_30 : decode cX12_leans 30 = .ok (.iload_n 3, 1) := by decide +kernel
theorem dX12_leans_31 : decode cX12_leans 31 = .ok (.invokevirtual 103, 3) := by decide +kernel
theorem dX12_leans_34 : decode cX12_leans 34 = .ok (.ifCond .le 7, 3) := by decide +kernel
theorem dX12_leans_37 : decode cX12_leans 37 = .ok (.iconst 1, 1) := by decide +kernel
theorem dX12_leans_38 : decode cX12_leans 38 = .ok (.goto 4, 3) := by decide +kernel
theorem dX12_leans_41 : decode cX12_leans 41 = .ok (.iconst 0, 1) := by decide +kernel
theorem dX12_leans_42 : decode cX12_leans 42 = .ok (.iadd, 1) := by decide +kernel
theorem dX12_leans_43 : decode cX12_leans 43 = .ok (.istore_n 1, 1) := by decide +kernel
theorem dX12_leans_44 : decode cX12_leans 44 = .ok (.iinc 3 1, 3) := by decide +kernel
theorem dX12_leans_47 : decode cX12_leans 47 = .ok (.goto (-28), 3) := by decide +kernel
theorem dX12_leans_50 : decode cX12_leans 50 = .ok (.iinc 2 1, 3) := by decide +kernel
theorem dX12_leans_53 : decode cX12_leans 53 = .ok (.goto (-44), 3) := by decide +kernel
theorem dX12_leans_56 : decode cX12_leans 56 = .ok (.iload_n 1, 1) := by decide +kernel
theorem dX12_leans_57 : decode cX12_leans 57 = .ok (.ireturn, 1) := by decide +kernel
set_option maxRecDepth 100000 in
set_option maxHeartbeats 200000 in
theorem T_X12_leans_42 {X : CX} (hX : Ok X cX12_leans 4 RX12 (some .int)) (hdx : dX X = 4) {r : Int32 × Hp} (x2 : Int32) (x3 : Int32) (t0 : Int32) (t1 : Int32) (q_9 : Int32 → Int32 → Hp → Option (Int32 × Hp)) (hq_9 : ∀ (x1 : Int32) (x2 : Int32) (h : Hp), q_9 x1 x2 h = some r → J X ((.inl (some (.int r.1)), r.2)) 9 [(0, .ref 30), (1, .int x1), (2, .int x2)] [] h) (q_19 : Int32 → Int32 → Hp → Option (Int32 × Hp)) (hq_19 : ∀ (x1 : Int32) (x3 : Int32) (h : Hp), q_19 x1 x3 h = some r → J X ((.inl (some (.int r.1)), r.2)) 19 [(0, .ref 30), (1, .int x1), (2, .int x2), (3, .int x3)] [] h) (h : Hp) (hf : F_X12_leans_42 q_9 q_19 x2 x3 t0 t1 h = some r) : J X ((.inl (some (.int r.1)), r.2)) 42 [(0, .ref 30), (2, .int x2), (3, .int x3)] [.int t0, .int t1] h := by
  unfold F_X12_leans_42 at hf
  refine J_iadd hX dX12_leans_42 ?_
  refine J_istore_n hX [(1, .int (t1 + t0)), (0, .ref 30), (2, .int x2), (3, .int x3)] dX12_leans_43 rfl rfl rfl ?_
  refine J_iinc hX (x3 + 1) 3 [(3, .int (x3 + 1)), (1, .int (t1 + t0)), (0, .ref 30), (2, .int x2)] dX12_leans_44 rfl rfl rfl rfl ?_
  refine J_goto hX 19 dX12_leans_47 rfl ?_
  refine J_sub [2, 1, 3, 0] [(0, .ref 30), (1, .int (t1 + t0)), (2, .int x2), (3, .int (x3 + 1))] rfl ?_
  exact hq_19 (t1 + t0) (x3 + 1) h hf
set_option maxRecDepth 100000 in
set_option maxHeartbeats 200000 in
theorem T_X12_leans_19_s {X : CX} (hX : Ok X cX12_leans 4 RX12 (some .int)) (hdx : dX X = 4) {r : Int32 × Hp} (x2 : Int32) (q_9 : Int32 → Int32 → Hp → Option (Int32 × Hp)) (hq_9 : ∀ (x1 : Int32) (x2 : Int32) (h : Hp), q_9 x1 x2 h = some r → J X ((.inl (some (.int r.1)), r.2)) 9 [(0, .ref 30), (1, .int x1), (2, .int x2)] [] h) (q_19 : Int32 → Int32 → Hp → Option (Int32 × Hp)) (hq_19 : ∀ (x1 : Int32) (x3 : Int32) (h : Hp), q_19 x1 x3 h = some r → J X ((.inl (some (.int r.1)), r.2)) 19 [(0, .ref 30), (1, .int x1), (2, .int x2), (3, .int x3)] [] h) (x1 : Int32) (x3 : Int32) (h : Hp) (hf : S_X12_leans_19 q_9 x2 q_19 x1 x3 h = some r) : J X ((.inl (some (.int r.1)), r.2)) 19 [(0, .ref 30), (1, .int x1), (2, .int x2), (3, .int x3)] [] h := by
  unfold S_X12_leans_19 at hf
  refine J_iload_n hX 3 dX12_leans_19 rfl rfl ?_
  refine J_aload_n hX 0 dX12_leans_20 rfl rfl ?_
  refine V_1 hX [] dX12_leans_21 cw_X12_87 ob_30 rfl (C_X12_houses (okG hX) rfl) (ltD hdx rfl) rfl rfl rfl rfl ?_
  rcases ifE hf with ⟨c_1, hf⟩ | ⟨c_1, hf⟩
  · refine J_icmp_geF hX 50 dX12_leans_24 rfl c_1 ?_
    refine J_iload_n hX 1 dX12_leans_27 rfl rfl ?_
    refine J_aload_n hX 0 dX12_leans_28 rfl rfl ?_
    refine J_iload_n hX 2 dX12_leans_29 rfl rfl ?_
    refine J_iload_n hX 3 dX12_leans_30 rfl rfl ?_
    obtain ⟨r_2, e_3, hf⟩ := bdE hf
    refine V_1 hX [.int x2, .int x3] dX12_leans_31 cw_X12_103 ob_30 rfl (C_X12_partOf (okG hX) e_3) (ltD hdx rfl) rfl rfl rfl rfl ?_
    rcases ifE hf with ⟨c_4, hf⟩ | ⟨c_4, hf⟩
    · refine J_if_leF hX 41 dX12_leans_34 rfl c_4 ?_
      refine J_iconst hX 1 dX12_leans_37 rfl ?_
      refine J_goto hX 42 dX12_leans_38 rfl ?_
      refine J_sub [0, 2, 3] [(0, .ref 30), (2, .int x2), (3, .int x3)] rfl ?_
      exact T_X12_leans_42 hX hdx x2 x3 1 x1 q_9 hq_9 q_19 hq_19 h hf
    · refine J_if_leT hX 41 dX12_leans_34 rfl c_4 ?_
      refine J_iconst hX 0 dX12_leans_41 rfl ?_
      refine J_sub [0, 2, 3] [(0, .ref 30), (2, .int x2), (3, .int x3)] rfl ?_
      exact T_X12_leans_42 hX hdx x2 x3 0 x1 q_9 hq_9 q_19 hq_19 h hf
  · refine J_icmp_geT hX 50 dX12_leans_24 rfl c_1 ?_
    refine J_iinc hX (x2 + 1) 2 [(2, .int (x2 + 1)), (0, .ref 30), (1, .int x1), (3, .int x3)] dX12_leans_50 rfl rfl rfl rfl ?_
    refine J_goto hX 9 dX12_leans_53 rfl ?_
    refine J_sub [1, 2, 0] [(0, .ref 30), (1, .int x1), (2, .int (x2 + 1))] rfl ?_
    exact hq_9 x1 (x2 + 1) h hf
set_option maxRecDepth 100000 in
set_option maxHeartbeats 200000 in
theorem T_X12_leans_19 {X : CX} (hX : Ok X cX12_leans 4 RX12 (some .int)) (hdx : dX X = 4) {r : Int32 × Hp} (x2 : Int32) (q_9 : Int32 → Int32 → Hp → Option (Int32 × Hp)) (hq_9 : ∀ (x1 : Int32) (x2 : Int32) (h : Hp), q_9 x1 x2 h = some r → J X ((.inl (some (.int r.1)), r.2)) 9 [(0, .ref 30), (1, .int x1), (2, .int x2)] [] h) : ∀ (n : Nat) (x1 : Int32) (x3 : Int32) (h : Hp), F_X12_leans_19 q_9 x2 n x1 x3 h = some r → J X ((.inl (some (.int r.1)), r.2)) 19 [(0, .ref 30), (1, .int x1), (2, .int x2), (3, .int x3)] [] h := by
  intro n
  induction n with
  | zero => intro x1 x3 h hf; exact nomatch hf
  | succ n ih => intro x1 x3 h hf; exact T_X12_leans_19_s hX hdx x2 q_9 hq_9 _ (fun x1 x3 h hf => ih x1 x3 h hf) x1 x3 h hf
set_option maxRecDepth 100000 in
set_option maxHeartbeats 200000 in
theorem T_X12_leans_9_s {X : CX} (hX : Ok X cX12_leans 4 RX12 (some .int)) (hdx : dX X = 4) {r : Int32 × Hp} (q_9 : Int32 → Int32 → Hp → Option (Int32 × Hp)) (hq_9 : ∀ (x1 : Int32) (x2 : Int32) (h : Hp), q_9 x1 x2 h = some r → J X ((.inl (some (.int r.1)), r.2)) 9 [(0, .ref 30), (1, .int x1), (2, .int x2)] [] h) (x1 : Int32) (x2 : Int32) (h : Hp) (hf : S_X12_leans_9 q_9 x1 x2 h = some r) : J X ((.inl (some (.int r.1)), r.2)) 9 [(0, .ref 30), (1, .int x1), (2, .int x2)] [] h := by
  unfold S_X12_leans_9 at hf
  refine J_iload_n hX 2 dX12_leans_9 rfl rfl ?_
  refine J_aload_n hX 0 dX12_leans_10 rfl rfl ?_
  refine V_1 hX [] dX12_leans_11 cw_X12_87 ob_30 rfl (C_X12_houses (okG hX) rfl) (ltD hdx rfl) rfl rfl rfl rfl ?_
  rcases ifE hf with ⟨c_1, hf⟩ | ⟨c_1, hf⟩
  · refine J_icmp_geF hX 56 dX12_leans_14 rfl c_1 ?_
    refine J_iconst hX 0 dX12_leans_17 rfl ?_
    refine J_istore_n hX [(3, .int 0), (0, .ref 30), (1, .int x1), (2, .int x2)] dX12_leans_18 rfl rfl rfl ?_
    refine J_sub [1, 2, 3, 0] [(0, .ref 30), (1, .int x1), (2, .int x2), (3, .int 0)] rfl ?_
    exact T_X12_leans_19 hX hdx x2 q_9 hq_9 FU x1 0 h hf
  · refine J_icmp_geT hX 56 dX12_leans_14 rfl c_1 ?_
    refine J_iload_n hX 1 dX12_leans_56 rfl rfl ?_
    exact E_Ii hX dX12_leans_57 hf
set_option maxRecDepth 100000 in
set_option maxHeartbeats 200000 in
theorem T_X12_leans_9 {X : CX} (hX : Ok X cX12_leans 4 RX12 (some .int)) (hdx : dX X = 4) {r : Int32 × Hp} : ∀ (n : Nat) (x1 : Int32) (x2 : Int32) (h : Hp), F_X12_leans_9 n x1 x2 h = some r → J X ((.inl (some (.int r.1)), r.2)) 9 [(0, .ref 30), (1, .int x1), (2, .int x2)] [] h := by
  intro n
  induction n with
  | zero => intro x1 x2 h hf; exact nomatch hf
  | succ n ih => intro x1 x2 h hf; exact T_X12_leans_9_s hX hdx _ (fun x1 x2 h hf => ih x1 x2 h hf) x1 x2 h hf
set_option maxRecDepth 100000 in
set_option maxHeartbeats 200000 in
theorem T_X12_leans_0 {X : CX} (hX : Ok X cX12_leans 4 RX12 (some .int)) (hdx : dX X = 4) {r : Int32 × Hp} (h : Hp) (hf : f_X12_leans h = some r) : J X ((.inl (some (.int r.1)), r.2)) 0 [(0, .ref 30)] [] h := by
  unfold f_X12_leans at hf
  refine J_aload_n hX 0 dX12_leans_0 rfl rfl ?_
  refine J_iconst hX 0 dX12_leans_1 rfl ?_
  obtain ⟨h_1, e_2, hf⟩ := bndE hf
  refine J_putI hX dX12_leans_2 fl_X12_3 fw_10_0 ob_30 rfl rfl rfl ?_
  refine J_nmh e_2 ?_
  refine J_iconst hX 0 dX12_leans_5 rfl ?_
  refine J_istore_n hX [(1, .int 0), (0, .ref 30)] dX12_leans_6 rfl rfl rfl ?_
  refine J_iconst hX 0 dX12_leans_7 rfl ?_
  refine J_istore_n hX [(2, .int 0), (1, .int 0), (0, .ref 30)] dX12_leans_8 rfl rfl rfl ?_
  refine J_sub [2, 1, 0] [(0, .ref 30), (1, .int 0), (2, .int 0)] rfl ?_
  exact T_X12_leans_9 hX hdx FU 0 0 h_1 hf
set_option maxRecDepth 100000 in
set_option maxHeartbeats 200000 in
theorem C_X12_leans {G : GX} (hG : GOk G) {h : Hp} {r : Int32 × Hp} (hf : f_X12_leans h = some r) : Ctr G 4 yX12_leans cX12_leans 4 (some .int) [.ref 30] h ((.inl (some (.int r.1)), r.2)) :=
  Ctr_of hG RX12 rfl (by decide) rfl (fun X _ hdx hX => T_X12_leans_0 hX hdx h hf)
theorem dX12_noAhead_0 : decode cX12_noAhead 0 = .ok (.iload_n 0, 1) := by decide +kernel
theorem dX12_noAhead_1 : decode cX12_noAhead 1 = .ok (.iconst 0, 1) := by decide +kernel
theorem dX12_noAhead_2 : decode cX12_noAhead 2 = .ok (.bipush 70, 2) := by decide +kernel
theorem dX12_noAhead_4 : decode cX12_noAhead 4 = .ok (.invokestatic 95, 3) := by decide +kernel
theorem dX12_noAhead_7 : decode cX12_noAhead 7 = .ok (.ifCond .ne 7, 3) := by decide +kernel
theorem dX12_noAhead_10 : decode cX12_noAhead 10 = .ok (.iconst 1, 1) := by decide +kernel
theorem dX12_noAhead_11 : decode cX12_noAhead 11 = .ok (.goto 4, 3) := by decide +kernel
theorem dX12_noAhead_14 : decode cX12_noAhead 14 = .ok (.iconst 0, 1) := by decide +kernel
theorem dX12_noAhead_15 : decode cX12_noAhead 15 = .ok (.ireturn, 1) := by decide +kernel
set_option maxRecDepth 100000 in
set_option maxHeartbeats 200000 in
theorem T_X12_noAhead_0 {X : CX} (hX : Ok X cX12_noAhead 1 RX12 (some .boolean)) (hdx : dX X = 3) {r : Bool} (x0 : Int32) (h : Hp) (hf : f_X12_noAhead x0 h = r) : J X ((.inl (some (.int (b2i r))), h)) 0 [(0, .int x0)] [] h := by
  unfold f_X12_noAhead at hf
  refine J_iload_n hX 0 dX12_noAhead_0 rfl rfl ?_
  refine J_iconst hX 0 dX12_noAhead_1 rfl ?_
  refine J_bipush hX 70 dX12_noAhead_2 rfl ?_
  refine S_1 hX [.int x0, .int 0, .int 70] dX12_noAhead_4 cw_X12_95 (C_X12_in (okG hX) rfl) (ltD hdx rfl) rfl rfl rfl rfl ?_
  rcases ifE hf with ⟨c_1, hf⟩ | ⟨c_1, hf⟩
  · refine J_if_neT hX 14 dX12_noAhead_7 rfl (b2iT c_1) ?_
    refine J_iconst hX 0 dX12_noAhead_14 rfl ?_
    exact E_Zt hX dX12_noAhead_15 rfl hf
  · refine J_if_neF hX 14 dX12_noAhead_7 rfl (b2iF c_1) ?_
    refine J_iconst hX 1 dX12_noAhead_10 rfl ?_
    refine J_goto hX 15 dX12_noAhead_11 rfl ?_
    exact E_Zt hX dX12_noAhead_15 rfl hf
set_option maxRecDepth 100000 in
set_option maxHeartbeats 200000 in
theorem C_X12_noAhead {G : GX} (hG : GOk G) {x0 : Int32} {h : Hp} {r : Bool} (hf : f_X12_noAhead x0 h = r) : Ctr G 3 yX12_noAhead cX12_noAhead 1 (some .boolean) [.int x0] h ((.inl (some (.int (b2i r))), h)) :=
  Ctr_of hG RX12 rfl (by decide) rfl (fun X _ hdx hX => T_X12_noAhead_0 hX hdx x0 h hf)
theorem dX12_down_0 : decode cX12_down 0 = .ok (.aload_n 0, 1) := by decide +kernel
theorem dX12_down_1 : decode cX12_down 1 = .ok (.iconst 0, 1) := by decide +kernel
theorem dX12_down_2 : decode cX12_down 2 = .ok (.putfield 3, 3) := by decide +kernel
theorem dX12_down_5 : decode cX12_down 5 = .ok (.iconst (-1), 1) := by decide +kernel
theorem dX12_down_6 : decode cX12_down 6 = .ok (.istore_n 1, 1) := by decide +kernel
theorem dX12_down_7 : decode cX12_down 7 = .ok (.aload_n 0, 1) := by decide +kernel
theorem dX12_down_8 : decode cX12_down 8 = .ok (.invokevirtual 356, 3) := by decide +kernel
theorem dX12_down_11 : decode cX12_down 11 = .ok (.iconst 1, 1) := by decide +kernel
theorem dX12_down_12 : decode cX12_down 12 = .ok (.istore_n 2, 1) := by decide +kernel
theorem dX12_down_13 : decode cX12_down 13 = .ok (.iload_n 2, 1) := by decide +kernel
theorem dX12_down_14 : decode cX12_down 14 = .ok (.bipush 70, 2) := by decide +kernel
theorem dX12_down_16 : decode cX12_down 16 = .ok (.if_icmp .gt 28, 3) := by decide +kernel
theorem dX12_down_19 : decode cX12_down 19 = .ok (.iload_n 1, 1) := by decide +kernel
theorem dX12_down_20 : decode cX12_down 20 = .ok (.iconst (-1), 1) := by decide +kernel
theorem dX12_down_21 : decode cX12_down 21 = .ok (.if_icmp .ne 23, 3) := by decide +kernel
theorem dX12_down_24 : decode cX12_down 24 = .ok (.aload_n 0, 1) := by decide +kernel
theorem dX12_down_25 : decode cX12_down 25 = .ok (.iconst 1, 1) := by decide +kernel
theorem dX12_down_26 : decode cX12_down 26 = .ok (.invokevirtual 379, 3) := by decide +kernel
theorem dX12_down_29 : decode cX12_down 29 = .ok (.ifCond .le 7, 3) := by decide +kernel
theorem dX12_down_32 : decode cX12_down 32 = .ok (.iload_n 2, 1) := by decide +kernel
theorem dX12_down_33 : decode cX12_down 33 = .ok (.goto 4, 3) := by decide +kernel
theorem dX12_down_36 : decode cX12_down 36 = .ok (.iconst (-1), 1) := by decide +kernel
theorem dX12_down_37 : decode cX12_down 37 = .ok (.istore_n 1, 1) := by decide +kernel
theorem dX12_down_38 : decode cX12_down 38 = .ok (.iinc 2 1, 3) := by decide +kernel
theorem dX12_down_41 : decode cX12_down 41 = .ok (.goto (-28), 3) := by decide +kernel
theorem dX12_down_44 : decode cX12_down 44 = .ok (.aload_n 0, 1) := by decide +kernel
theorem dX12_down_45 : decode cX12_down 45 = .ok (.invokevirtual 353, 3) := by decide +kernel
theorem dX12_down_48 : decode cX12_down 48 = .ok (.iload_n 1, 1) := by decide +kernel
theorem dX12_down_49 : decode cX12_down 49 = .ok (.ireturn, 1) := by decide +kernel
set_option maxRecDepth 100000 in
set_option maxHeartbeats 200000 in
theorem T_X12_down_44 {X : CX} (hX : Ok X cX12_down 3 RX12 (some .int)) (hdx : dX X = 14) {r : Int32 × Hp} (x1 : Int32) (h : Hp) (hf : F_X12_down_44 x1 h = some r) : J X ((.inl (some (.int r.1)), r.2)) 44 [(0, .ref 30), (1, .int x1)] [] h := by
  unfold F_X12_down_44 at hf
  refine J_aload_n hX 0 dX12_down_44 rfl rfl ?_
  obtain ⟨r_1, e_2, hf⟩ := bdE hf
  refine V_0 hX [] dX12_down_45 cw_X12_353 ob_30 rfl (C_X12_bringsBack (okG hX) e_2) (ltD hdx rfl) rfl rfl rfl rfl ?_
  refine J_iload_n hX 1 dX12_down_48 rfl rfl ?_
  exact E_Ii hX dX12_down_49 hf
set_option maxRecDepth 100000 in
set_option maxHeartbeats 200000 in
theorem T_X12_down_13_s {X : CX} (hX : Ok X cX12_down 3 RX12 (some .int)) (hdx : dX X = 14) {r : Int32 × Hp} (q_13 : Int32 → Int32 → Hp → Option (Int32 × Hp)) (hq_13 : ∀ (x1 : Int32) (x2 : Int32) (h : Hp), q_13 x1 x2 h = some r → J X ((.inl (some (.int r.1)), r.2)) 13 [(0, .ref 30), (1, .int x1), (2, .int x2)] [] h) (x1 : Int32) (x2 : Int32) (h : Hp) (hf : S_X12_down_13 q_13 x1 x2 h = some r) : J X ((.inl (some (.int r.1)), r.2)) 13 [(0, .ref 30), (1, .int x1), (2, .int x2)] [] h := by
  unfold S_X12_down_13 at hf
  refine J_iload_n hX 2 dX12_down_13 rfl rfl ?_
  refine J_bipush hX 70 dX12_down_14 rfl ?_
  rcases ifE hf with ⟨c_1, hf⟩ | ⟨c_1, hf⟩
  · refine J_icmp_gtT hX 44 dX12_down_16 rfl c_1 ?_
    refine J_sub [0, 1] [(0, .ref 30), (1, .int x1)] rfl ?_
    exact T_X12_down_44 hX hdx x1 h hf
  · refine J_icmp_gtF hX 44 dX12_down_16 rfl c_1 ?_
    refine J_iload_n hX 1 dX12_down_19 rfl rfl ?_
    refine J_iconst hX (-1) dX12_down_20 rfl ?_
    rcases ifE hf with ⟨c_2, hf⟩ | ⟨c_2, hf⟩
    · refine J_icmp_neF hX 44 dX12_down_21 rfl c_2 ?_
      refine J_aload_n hX 0 dX12_down_24 rfl rfl ?_
      refine J_iconst hX 1 dX12_down_25 rfl ?_
      obtain ⟨r_3, e_4, hf⟩ := bdE hf
      refine V_1 hX [.int 1] dX12_down_26 cw_X12_379 ob_30 rfl (C_X12_oneEvening (okG hX) e_4) (ltD hdx rfl) rfl rfl rfl rfl ?_
      rcases ifE hf with ⟨c_5, hf⟩ | ⟨c_5, hf⟩
      · refine J_if_leF hX 36 dX12_down_29 rfl c_5 ?_
        refine J_iload_n hX 2 dX12_down_32 rfl rfl ?_
        refine J_goto hX 37 dX12_down_33 rfl ?_
        refine J_istore_n hX [(1, .int x2), (0, .ref 30), (2, .int x2)] dX12_down_37 rfl rfl rfl ?_
        refine J_iinc hX (x2 + 1) 2 [(2, .int (x2 + 1)), (1, .int x2), (0, .ref 30)] dX12_down_38 rfl rfl rfl rfl ?_
        refine J_goto hX 13 dX12_down_41 rfl ?_
        refine J_sub [2, 1, 0] [(0, .ref 30), (1, .int x2), (2, .int (x2 + 1))] rfl ?_
        exact hq_13 x2 (x2 + 1) r_3.2 hf
      · refine J_if_leT hX 36 dX12_down_29 rfl c_5 ?_
        refine J_iconst hX (-1) dX12_down_36 rfl ?_
        refine J_istore_n hX [(1, .int (-1)), (0, .ref 30), (2, .int x2)] dX12_down_37 rfl rfl rfl ?_
        refine J_iinc hX (x2 + 1) 2 [(2, .int (x2 + 1)), (1, .int (-1)), (0, .ref 30)] dX12_down_38 rfl rfl rfl rfl ?_
        refine J_goto hX 13 dX12_down_41 rfl ?_
        refine J_sub [2, 1, 0] [(0, .ref 30), (1, .int (-1)), (2, .int (x2 + 1))] rfl ?_
        exact hq_13 (-1) (x2 + 1) r_3.2 hf
    · refine J_icmp_neT hX 44 dX12_down_21 rfl c_2 ?_
      refine J_sub [0, 1] [(0, .ref 30), (1, .int x1)] rfl ?_
      exact T_X12_down_44 hX hdx x1 h hf
set_option maxRecDepth 100000 in
set_option maxHeartbeats 200000 in
theorem T_X12_down_13 {X : CX} (hX : Ok X cX12_down 3 RX12 (some .int)) (hdx : dX X = 14) {r : Int32 × Hp} : ∀ (n : Nat) (x1 : Int32) (x2 : Int32) (h : Hp), F_X12_down_13 n x1 x2 h = some r → J X ((.inl (some (.int r.1)), r.2)) 13 [(0, .ref 30), (1, .int x1), (2, .int x2)] [] h := by
  intro n
  induction n with
  | zero => intro x1 x2 h hf; exact nomatch hf
  | succ n ih => intro x1 x2 h hf; exact T_X12_down_13_s hX hdx _ (fun x1 x2 h hf => ih x1 x2 h hf) x1 x2 h hf
set_option maxRecDepth 100000 in
set_option maxHeartbeats 200000 in
theorem T_X12_down_0 {X : CX} (hX : Ok X cX12_down 3 RX12 (some .int)) (hdx : dX X = 14) {r : Int32 × Hp} (h : Hp) (hf : f_X12_down h = some r) : J X ((.inl (some (.int r.1)), r.2)) 0 [(0, .ref 30)] [] h := by
  unfold f_X12_down at hf
  refine J_aload_n hX 0 dX12_down_0 rfl rfl ?_
  refine J_iconst hX 0 dX12_down_1 rfl ?_
  obtain ⟨h_1, e_2, hf⟩ := bndE hf
  refine J_putI hX dX12_down_2 fl_X12_3 fw_10_0 ob_30 rfl rfl rfl ?_
  refine J_nmh e_2 ?_
  refine J_iconst hX (-1) dX12_down_5 rfl ?_
  refine J_istore_n hX [(1, .int (-1)), (0, .ref 30)] dX12_down_6 rfl rfl rfl ?_
  refine J_aload_n hX 1 dX12_down_7 rfl rfl ?_
  obtain ⟨r_3, e_4, hf⟩ := bdE hf
  refine V_0 hX [] dX12_down_8 cw_X12_356 ob_30 rfl (C_X12_keepsAll (okG hX) e_4) (ltD hdx rfl) rfl rfl rfl rfl ?_
  refine J_iconst hX 1 dX12_down_11 rfl ?_
  refine J_istore_n hX [(2, .int 1), (1, .int (-1)), (0, .ref 30)] dX12_down_12 rfl rfl rfl ?_
  refine J_sub [2, 1, 0] [(0, .ref 30), (1, .int (-1)), (2, .int 1)] rfl ?_
  exact T_X12_down_13 hX hdx FU (-1) 1 r_3 hf
set_option maxRecDepth 100000 in
set_option maxHeartbeats 200000 in
theorem C_X12_down {G : GX} (hG : GOk G) {h : Hp} {r : Int32 × Hp} (hf : f_X12_down h = some r) : Ctr G 14 yX12_down cX12_down 3 (some .int) [.ref 30] h ((.inl (some (.int r.1)), r.2)) :=
  Ctr_of hG RX12 rfl (by decide) rfl (fun X _ hdx hX => T_X12_down_0 hX hdx h hf)
theorem dX12_ahead_0 : decode cX12_ahead 0 = .ok (.aload_n 0, 1) := by decide +kernel
theorem dX12_ahead_1 : decode cX12_ahead 1 = .ok (.iconst 0, 1) := by decide +kernel
theorem dX12_ahead_2 : decode cX12_ahead 2 = .ok (.putfield 3, 3) := by decide +kernel
theorem dX12_ahead_5 : decode cX12_ahead 5 = .ok (.aload_n 0, 1) := by decide +kernel
theorem dX12_ahead_6 : decode cX12_ahead 6 = .ok (.iload_n 1, 1) := by decide +kernel
theorem dX12_ahead_7 : decode cX12_ahead 7 = .ok (.invokestatic 488, 3) := by decide +kernel
theorem dX12_ahead_10 : decode cX12_ahead 10 = .ok (.iconst 1, 1) := by decide +kernel
theorem dX12_ahead_11 : decode cX12_ahead 11 = .ok (.invokevirtual 280, 3) := by decide +kernel
theorem dX12_ahead_14 : decode cX12_ahead 14 = .ok (.ifCond .eq 5, 3) := by decide +kernel
theorem dX12_ahead_17 : decode cX12_ahead 17 = .ok (.iconst 0, 1) := by decide +kernel
theorem dX12_ahead_18 : decode cX12_ahead 18 = .ok (.ireturn, 1) := by decide +kernel
theorem dX12_ahead_19 : decode cX12_ahead 19 = .ok (.aload_n 0, 1) := by decide +kernel
theorem dX12_ahead_20 : decode cX12_ahead 20 = .ok (.invokevirtual 356, 3) := by decide +kernel
theorem dX12_ahead_23 : decode cX12_ahead 23 = .ok (.aload_n 0, 1) := by decide +kernel
theorem dX12_ahead_24 : decode cX12_ahead 24 = .ok (.iload_n 1, 1) := by decide +kernel
theorem dX12_ahead_25 : decode cX12_ahead 25 = .ok (.iconst 1, 1) := by decide +kernel
theorem dX12_ahead_26 : decode cX12_ahead 26 = .ok (.invokevirtual 385, 3) := by decide +kernel
theorem dX12_ahead_29 : decode cX12_ahead 29 = .ok (.pop, 1) := by decide +kernel
theorem dX12_ahead_30 : decode cX12_ahead 30 = .ok (.aload_n 0, 1) := by decide +kernel
theorem dX12_ahead_31 : decode cX12_ahead 31 = .ok (.invokevirtual 362, 3) := by decide +kernel
theorem dX12_ahead_34 : decode cX12_ahead 34 = .ok (.istore_n 2, 1) := by decide +kernel
theorem dX12_ahead_35 : decode cX12_ahead 35 = .ok (.aload_n 0, 1) := by decide +kernel
theorem dX12_ahead_36 : decode cX12_ahead 36 = .ok (.invokevirtual 353, 3) := by decide +kernel
theorem dX12_ahead_39 : decode cX12_ahead 39 = .ok (.iload_n 2, 1) := by decide +kernel
theorem dX12_ahead_40 : decode cX12_ahead 40 = .ok (.ireturn, 1) := by decide +kernel
set_option maxRecDepth 100000 in
set_option maxHeartbeats 200000 in
theorem T_X12_ahead_0 {X : CX} (hX : Ok X cX12_ahead 3 RX12 (some .int)) (hdx : dX X = 15) {r : Int32 × Hp} (x1 : Int32) (h : Hp) (hf : f_X12_ahead x1 h = some r) : J X ((.inl (some (.int r.1)), r.2)) 0 [(0, .ref 30), (1, .int x1)] [] h := by
  unfold f_X12_ahead at hf
  refine J_aload_n hX 0 dX12_ahead_0 rfl rfl ?_
  refine J_iconst hX 0 dX12_ahead_1 rfl ?_
  obtain ⟨h_1, e_2, hf⟩ := bndE hf
  refine J_putI hX dX12_ahead_2 fl_X12_3 fw_10_0 ob_30 rfl rfl rfl ?_
  refine J_nmh e_2 ?_
  refine J_aload_n hX 0 dX12_ahead_5 rfl rfl ?_
  refine J_iload_n hX 1 dX12_ahead_6 rfl rfl ?_
  refine S_1 hX [.int x1] dX12_ahead_7 cw_X12_488 (C_X12_noAhead (okG hX) rfl) (ltD hdx rfl) rfl rfl rfl rfl ?_
  refine J_iconst hX 1 dX12_ahead_10 rfl ?_
  obtain ⟨r_3, e_4, hf⟩ := bdE hf
  refine V_1 hX [.int (b2i (f_X12_noAhead x1 h_1)), .int 1] dX12_ahead_11 cw_X12_280 ob_30 rfl (C_X12_throwsIf (okG hX) e_4) (ltD hdx rfl) rfl rfl rfl rfl ?_
  rcases ifE hf with ⟨c_5, hf⟩ | ⟨c_5, hf⟩
  · refine J_if_eqF hX 19 dX12_ahead_14 rfl (b2iT c_5) ?_
    refine J_iconst hX 0 dX12_ahead_17 rfl ?_
    exact E_Ii hX dX12_ahead_18 hf
  · refine J_if_eqT hX 19 dX12_ahead_14 rfl (b2iF c_5) ?_
    refine J_aload_n hX 0 dX12_ahead_19 rfl rfl ?_
    obtain ⟨r_6, e_7, hf⟩ := bdE hf
    refine V_0 hX [] dX12_ahead_20 cw_X12_356 ob_30 rfl (C_X12_keepsAll (okG hX) e_7) (ltD hdx rfl) rfl rfl rfl rfl ?_
    refine J_aload_n hX 0 dX12_ahead_23 rfl rfl ?_
    refine J_iload_n hX 1 dX12_ahead_24 rfl rfl ?_
    refine J_iconst hX 1 dX12_ahead_25 rfl ?_
    obtain ⟨r_8, e_9, hf⟩ := bdE hf
    refine V_1 hX [.int x1, .int 1] dX12_ahead_26 cw_X12_385 ob_30 rfl (C_X12_goesOn (okG hX) e_9) (ltD hdx rfl) rfl rfl rfl rfl ?_
    refine J_pop hX dX12_ahead_29 rfl ?_
    refine J_aload_n hX 0 dX12_ahead_30 rfl rfl ?_
    obtain ⟨r_10, e_11, hf⟩ := bdE hf
    refine V_1 hX [] dX12_ahead_31 cw_X12_362 ob_30 rfl (C_X12_standing (okG hX) e_11) (ltD hdx rfl) rfl rfl rfl rfl ?_
    refine J_istore_n hX [(2, .int r_10), (0, .ref 30), (1, .int x1)] dX12_ahead_34 rfl rfl rfl ?_
    refine J_aload_n hX 1 dX12_ahead_35 rfl rfl ?_
    obtain ⟨r_12, e_13, hf⟩ := bdE hf
    refine V_0 hX [] dX12_ahead_36 cw_X12_353 ob_30 rfl (C_X12_bringsBack (okG hX) e_13) (ltD hdx rfl) rfl rfl rfl rfl ?_
    refine J_iload_n hX 0 dX12_ahead_39 rfl rfl ?_
    exact E_Ii hX dX12_ahead_40 hf
set_option maxRecDepth 100000 in
set_option maxHeartbeats 200000 in
theorem C_X12_ahead {G : GX} (hG : GOk G) {x1 : Int32} {h : Hp} {r : Int32 × Hp} (hf : f_X12_ahead x1 h = some r) : Ctr G 15 yX12_ahead cX12_ahead 3 (some .int) [.ref 30, .int x1] h ((.inl (some (.int r.1)), r.2)) :=
  Ctr_of hG RX12 rfl (by decide) rfl (fun X _ hdx hX => T_X12_ahead_0 hX hdx x1 h hf)
theorem dX12_holdOfAll_0 : decode cX12_holdOfAll 0 = .ok (.iconst 0, 1) := by decide +kernel
theorem dX12_holdOfAll_1 : decode cX12_holdOfAll 1 = .ok (.istore_n 1, 1) := by decide +kernel
theorem dX12_holdOfAll_2 : decode cX12_holdOfAll 2 = .ok (.iconst 0, 1) := by decide +kernel
theorem dX12_holdOfAll_3 : decode cX12_holdOfAll 3 = .ok (.istore_n 2, 1) := by decide +kernel
theorem dX12_holdOfAll_4 : decode cX12_holdOfAll 4 = .ok (.iload_n 2, 1) := by decide +kernel
theorem dX12_holdOfAll_5 : decode cX12_holdOfAll 5 = .ok (.aload_n 0, 1) := by decide +kernel
theorem dX12_holdOfAll_6 : decode cX12_holdOfAll 6 = .ok (.invokevirtual 99, 3) := by decide +kernel
theorem dX12_holdOfAll_9 : decode cX12_holdOfAll 9 = .ok (.if_icmp .ge 32, 3) := by decide +kernel
theorem dX12_holdOfAll_12 : decode cX12_holdOfAll 12 = .ok (.iload_n 1, 1) := by decide +kernel
theorem dX12_holdOfAll_13 : decode cX12_holdOfAll 13 = .ok (.aload_n 0, 1) := by decide +kernel
theorem dX12_holdOfAll_14 : decode cX12_holdOfAll 14 = .ok (.iload_n 2, 1) := by decide +kernel
theorem dX12_holdOfAll_15 : decode cX12_holdOfAll 15 = .ok (.iconst 0, 1) := by decide +kernel
theorem dX12_holdOfAll_16 : decode cX12_holdOfAll 16 = .ok (.invokevirtual 283, 3) := by decide +kernel
theorem dX12_holdOfAll_19 : decode cX12_holdOfAll 19 = .ok (.iconst (-1), 1) := by decide +kernel
theorem dX12_holdOfAll_20 : decode cX12_holdOfAll 20 = .ok (.if_icmp .ne 7, 3) := by decide +kernel
theorem dX12_holdOfAll_23 : decode cX12_holdOfAll 23 = .ok (.iconst 0, 1) := by decide +kernel
theorem dX12_holdOfAll_24 : decode cX12_holdOfAll 24 = .ok (.goto 9, 3) := by decide +kernel
theorem dX12_holdOfAll_27 : decode cX12_holdOfAll 27 = .ok (.aload_n 0, 1) := by decide +kernel
theorem dX12_holdOfAll_28 : decode cX12_holdOfAll 28 = .ok (.iload_n 2, 1) := by decide +kernel
theorem dX12_holdOfAll_29 : decode cX12_holdOfAll 29 = .ok (.iconst 1, 1) := by decide +kernel
theorem dX12_holdOfAll_30 : decode cX12_holdOfAll 30 = .ok (.invokevirtual 283, 3) := by decide +kernel
theorem dX12_holdOfAll_33 : decode cX12_holdOfAll 33 = .ok (.iadd, 1) := by decide +kernel
theorem dX12_holdOfAll_34 : decode cX12_holdOfAll 34 = .ok (.istore_n 1, 1) := by decide +kernel
theorem dX12_holdOfAll_35 : decode cX12_holdOfAll 35 = .ok (.iinc 2 1, 3) := by decide +kernel
theorem dX12_holdOfAll_38 : decode cX12_holdOfAll 38 = .ok (.goto (-34), 3) := by decide +kernel
theorem dX12_holdOfAll_41 : decode cX12_holdOfAll 41 = .ok (.iload_n 1, 1) := by decide +kernel
theorem dX12_holdOfAll_42 : decode cX12_holdOfAll 42 = .ok (.ireturn, 1) := by decide +kernel
set_option maxRecDepth 100000 in
set_option maxHeartbeats 200000 in
theorem T_X12_holdOfAll_33 {X : CX} (hX : Ok X cX12_holdOfAll 3 RX12 (some .int)) (hdx : dX X = 4) {r : Int32} (h : Hp) (x2 : Int32) (t0 : Int32) (t1 : Int32) (q_4 : Int32 → Int32 → Option Int32) (hq_4 : ∀ (x1 : Int32) (x2 : Int32), q_4 x1 x2 = some r → J X ((.inl (some (.int r)), h)) 4 [(0, .ref 30), (1, .int x1), (2, .int x2)] [] h) (hf : F_X12_holdOfAll_33 q_4 h x2 t0 t1 = some r) : J X ((.inl (some (.int r)), h)) 33 [(0, .ref 30), (2, .int x2)] [.int t0, .int t1] h := by
  unfold F_X12_holdOfAll_33 at hf
  refine J_iadd hX dX12_holdOfAll_33 ?_
  refine J_istore_n hX [(1, .int (t1 + t0)), (0, .ref 30), (2, .int x2)] dX12_holdOfAll_34 rfl rfl rfl ?_
  refine J_iinc hX (x2 + 1) 2 [(2, .int (x2 + 1)), (1, .int (t1 + t0)), (0, .ref 30)] dX12_holdOfAll_35 rfl rfl rfl rfl ?_
  refine J_goto hX 4 dX12_holdOfAll_38 rfl ?_
  refine J_sub [2, 1, 0] [(0, .ref 30), (1, .int (t1 + t0)), (2, .int (x2 + 1))] rfl ?_
  exact hq_4 (t1 + t0) (x2 + 1) hf
set_option maxRecDepth 100000 in
set_option maxHeartbeats 200000 in
theorem T_X12_holdOfAll_4_s {X : CX} (hX : Ok X cX12_holdOfAll 3 RX12 (some .int)) (hdx : dX X = 4) {r : Int32} (h : Hp) (q_4 : Int32 → Int32 → Option Int32) (hq_4 : ∀ (x1 : Int32) (x2 : Int32), q_4 x1 x2 = some r → J X ((.inl (some (.int r)), h)) 4 [(0, .ref 30), (1, .int x1), (2, .int x2)] [] h) (x1 : Int32) (x2 : Int32) (hf : S_X12_holdOfAll_4 h q_4 x1 x2 = some r) : J X ((.inl (some (.int r)), h)) 4 [(0, .ref 30), (1, .int x1), (2, .int x2)] [] h := by
  unfold S_X12_holdOfAll_4 at hf
  refine J_iload_n hX 2 dX12_holdOfAll_4 rfl rfl ?_
  refine J_aload_n hX 0 dX12_holdOfAll_5 rfl rfl ?_
  refine V_1 hX [] dX12_holdOfAll_6 cw_X12_99 ob_30 rfl (C_X12_people (okG hX) rfl) (ltD hdx rfl) rfl rfl rfl rfl ?_
  rcases ifE hf with ⟨c_1, hf⟩ | ⟨c_1, hf⟩
  · refine J_icmp_geF hX 41 dX12_holdOfAll_9 rfl c_1 ?_
    refine J_iload_n hX 1 dX12_holdOfAll_12 rfl rfl ?_
    refine J_aload_n hX 0 dX12_holdOfAll_13 rfl rfl ?_
    refine J_iload_n hX 2 dX12_holdOfAll_14 rfl rfl ?_
    refine J_iconst hX 0 dX12_holdOfAll_15 rfl ?_
    obtain ⟨r_2, e_3, hf⟩ := bdE hf
    refine V_1 hX [.int x2, .int 0] dX12_holdOfAll_16 cw_X12_283 ob_30 rfl (C_X12_ofPerson (okG hX) e_3) (ltD hdx rfl) rfl rfl rfl rfl ?_
    refine J_iconst hX (-1) dX12_holdOfAll_19 rfl ?_
    rcases ifE hf with ⟨c_4, hf⟩ | ⟨c_4, hf⟩
    · refine J_icmp_neF hX 27 dX12_holdOfAll_20 rfl c_4 ?_
      refine J_iconst hX 0 dX12_holdOfAll_23 rfl ?_
      refine J_goto hX 33 dX12_holdOfAll_24 rfl ?_
      refine J_sub [0, 2] [(0, .ref 30), (2, .int x2)] rfl ?_
      exact T_X12_holdOfAll_33 hX hdx h x2 0 x1 q_4 hq_4 hf
    · refine J_icmp_neT hX 27 dX12_holdOfAll_20 rfl c_4 ?_
      refine J_aload_n hX 0 dX12_holdOfAll_27 rfl rfl ?_
      refine J_iload_n hX 2 dX12_holdOfAll_28 rfl rfl ?_
      refine J_iconst hX 1 dX12_holdOfAll_29 rfl ?_
      obtain ⟨r_5, e_6, hf⟩ := bdE hf
      refine V_1 hX [.int x2, .int 1] dX12_holdOfAll_30 cw_X12_283 ob_30 rfl (C_X12_ofPerson (okG hX) e_6) (ltD hdx rfl) rfl rfl rfl rfl ?_
      refine J_sub [0, 2] [(0, .ref 30), (2, .int x2)] rfl ?_
      exact T_X12_holdOfAll_33 hX hdx h x2 r_5 x1 q_4 hq_4 hf
  · refine J_icmp_geT hX 41 dX12_holdOfAll_9 rfl c_1 ?_
    refine J_iload_n hX 1 dX12_holdOfAll_41 rfl rfl ?_
    exact E_Ip hX dX12_holdOfAll_42 hf
set_option maxRecDepth 100000 in
set_option maxHeartbeats 200000 in
theorem T_X12_holdOfAll_4 {X : CX} (hX : Ok X cX12_holdOfAll 3 RX12 (some .int)) (hdx : dX X = 4) {r : Int32} (h : Hp) : ∀ (n : Nat) (x1 : Int32) (x2 : Int32), F_X12_holdOfAll_4 h n x1 x2 = some r → J X ((.inl (some (.int r)), h)) 4 [(0, .ref 30), (1, .int x1), (2, .int x2)] [] h := by
  intro n
  induction n with
  | zero => intro x1 x2 hf; exact nomatch hf
  | succ n ih => intro x1 x2 hf; exact T_X12_holdOfAll_4_s hX hdx h _ (fun x1 x2 hf => ih x1 x2 hf) x1 x2 hf
set_option maxRecDepth 100000 in
set_option maxHeartbeats 200000 in
theorem T_X12_holdOfAll_0 {X : CX} (hX : Ok X cX12_holdOfAll 3 RX12 (some .int)) (hdx : dX X = 4) {r : Int32} (h : Hp) (hf : f_X12_holdOfAll h = some r) : J X ((.inl (some (.int r)), h)) 0 [(0, .ref 30)] [] h := by
  unfold f_X12_holdOfAll at hf
  refine J_iconst hX 0 dX12_holdOfAll_0 rfl ?_
  refine J_istore_n hX [(1, .int 0), (0, .ref 30)] dX12_holdOfAll_1 rfl rfl rfl ?_
  refine J_iconst hX 0 dX12_holdOfAll_2 rfl ?_
  refine J_istore_n hX [(2, .int 0), (1, .int 0), (0, .ref 30)] dX12_holdOfAll_3 rfl rfl rfl ?_
  refine J_sub [2, 1, 0] [(0, .ref 30), (1, .int 0), (2, .int 0)] rfl ?_
  exact T_X12_holdOfAll_4 hX hdx h FU 0 0 hf
set_option maxRecDepth 100000 in
set_option maxHeartbeats 200000 in
theorem C_X12_holdOfAll {G : GX} (hG : GOk G) {h : Hp} {r : Int32} (hf : f_X12_holdOfAll h = some r) : Ctr G 4 yX12_holdOfAll cX12_holdOfAll 3 (some .int) [.ref 30] h ((.inl (some (.int r)), h)) :=
  Ctr_of hG RX12 rfl (by decide) rfl (fun X _ hdx hX => T_X12_holdOfAll_0 hX hdx h hf)
theorem dX12_trial_0 : decode cX12_trial 0 = .ok (.aload_n 0, 1) := by decide +kernel
theorem dX12_trial_1 : decode cX12_trial 1 = .ok (.iconst 0, 1) := by decide +kernel
theorem dX12_trial_2 : decode cX12_trial 2 = .ok (.putfield 3, 3) := by decide +kernel
theorem dX12_trial_5 : decode cX12_trial 5 = .ok (.aload_n 0, 1) := by decide +kernel
theorem dX12_trial_6 : decode cX12_trial 6 = .ok (.iload_n 1, 1) := by decide +kernel
theorem dX12_trial_7 : decode cX12_trial 7 = .ok (.invokestatic 488, 3) := by decide +kernel
theorem dX12_trial_10 : decode cX12_trial 10 = .ok (.iconst 1, 1) := by decide +kernel
theorem dX12_trial_11 : decode cX12_trial 11 = .ok (.invokevirtual 280, 3) := by decide +kernel
theorem dX12_trial_14 : decode cX12_trial 14 = .ok (.ifCond .eq 5, 3) := by decide +kernel
theorem dX12_trial_17 : decode cX12_trial 17 = .ok (.iconst 0, 1) := by decide +kernel
theorem dX12_trial_18 : decode cX12_trial 18 = .ok (.ireturn, 1) := by decide +kernel
theorem dX12_trial_19 : decode cX12_trial 19 = .ok (.aload_n 0, 1) := by decide +kernel
theorem dX12_trial_20 : decode cX12_trial 20 = .ok (.invokevirtual 356, 3) := by decide +kernel
theorem dX12_trial_23 : decode cX12_trial 23 = .ok (.aload_n 0, 1) := by decide +kernel
theorem dX12_trial_24 : decode cX12_trial 24 = .ok (.iload_n 1, 1) := by decide +kernel
theorem dX12_trial_25 : decode cX12_trial 25 = .ok (.iconst 0, 1) := by decide +kernel
theorem dX12_trial_26 : decode cX12_trial 26 = .ok (.invokevirtual 385, 3) := by decide +kernel
theorem dX12_trial_29 : decode cX12_trial 29 = .ok (.pop, 1) := by decide +kernel
theorem dX12_trial_30 : decode cX12_trial 30 = .ok (.iload_n 2, 1) := by decide +kernel
theorem dX12_trial_31 : decode cX12_trial 31 = .ok (.ifCond .eq 10, 3) := by decide +kernel
theorem dX12_trial_34 : decode cX12_trial 34 = .ok (.aload_n 0, 1) := by decide +kernel
theorem dX12_trial_35 : decode cX12_trial 35 = .ok (.invokevirtual 491, 3) := by decide +kernel
theorem dX12_trial_38 : decode cX12_trial 38 = .ok (.goto 7, 3) := by decide +kernel
theorem dX12_trial_41 : decode cX12_trial 41 = .ok (.aload_n 0, 1) := by decide +kernel
theorem dX12_trial_42 : decode cX12_trial 42 = .ok (.invokevirtual 362, 3) := by decide +kernel
theorem dX12_trial_45 : decode cX12_trial 45 = .ok (.istore_n 3, 1) := by decide +kernel
theorem dX12_trial_46 : decode cX12_trial 46 = .ok (.aload_n 0, 1) := by decide +kernel
theorem dX12_trial_47 : decode cX12_trial 47 = .ok (.invokevirtual 353, 3) := by decide +kernel
theorem dX12_trial_50 : decode cX12_trial 50 = .ok (.iload_n 3, 1) := by decide +kernel
theorem dX12_trial_51 : decode cX12_trial 51 = .ok (.ireturn, 1) := by decide +kernel
set_option maxRecDepth 100000 in
set_option maxHeartbeats 200000 in
theorem T_X12_trial_45 {X : CX} (hX : Ok X cX12_trial 4 RX12 (some .int)) (hdx : dX X = 15) {r : Int32 × Hp} (t0 : Int32) (h : Hp) (hf : F_X12_trial_45 t0 h = some r) : J X ((.inl (some (.int r.1)), r.2)) 45 [(0, .ref 30)] [.int t0] h := by
  unfold F_X12_trial_45 at hf
  refine J_istore_n hX [(3, .int t0), (0, .ref 30)] dX12_trial_45 rfl rfl rfl ?_
  refine J_aload_n hX 1 dX12_trial_46 rfl rfl ?_
  obtain ⟨r_1, e_2, hf⟩ := bdE hf
  refine V_0 hX [] dX12_trial_47 cw_X12_353 ob_30 rfl (C_X12_bringsBack (okG hX) e_2) (ltD hdx rfl) rfl rfl rfl rfl ?_
  refine J_iload_n hX 0 dX12_trial_50 rfl rfl ?_
  exact E_Ii hX dX12_trial_51 hf
set_option maxRecDepth 100000 in
set_option maxHeartbeats 200000 in
theorem T_X12_trial_0 {X : CX} (hX : Ok X cX12_trial 4 RX12 (some .int)) (hdx : dX X = 15) {r : Int32 × Hp} (x1 : Int32) (x2 : Int32) (h : Hp) (hf : f_X12_trial x1 x2 h = some r) : J X ((.inl (some (.int r.1)), r.2)) 0 [(0, .ref 30), (1, .int x1), (2, .int x2)] [] h := by
  unfold f_X12_trial at hf
  refine J_aload_n hX 0 dX12_trial_0 rfl rfl ?_
  refine J_iconst hX 0 dX12_trial_1 rfl ?_
  obtain ⟨h_1, e_2, hf⟩ := bndE hf
  refine J_putI hX dX12_trial_2 fl_X12_3 fw_10_0 ob_30 rfl rfl rfl ?_
  refine J_nmh e_2 ?_
  refine J_aload_n hX 0 dX12_trial_5 rfl rfl ?_
  refine J_iload_n hX 1 dX12_trial_6 rfl rfl ?_
  refine S_1 hX [.int x1] dX12_trial_7 cw_X12_488 (C_X12_noAhead (okG hX) rfl) (ltD hdx rfl) rfl rfl rfl rfl ?_
  refine J_iconst hX 1 dX12_trial_10 rfl ?_
  obtain ⟨r_3, e_4, hf⟩ := bdE hf
  refine V_1 hX [.int (b2i (f_X12_noAhead x1 h_1)), .int 1] dX12_trial_11 cw_X12_280 ob_30 rfl (C_X12_throwsIf (okG hX) e_4) (ltD hdx rfl) rfl rfl rfl rfl ?_
  rcases ifE hf with ⟨c_5, hf⟩ | ⟨c_5, hf⟩
  · refine J_if_eqF hX 19 dX12_trial_14 rfl (b2iT c_5) ?_
    refine J_iconst hX 0 dX12_trial_17 rfl ?_
    exact E_Ii hX dX12_trial_18 hf
  · refine J_if_eqT hX 19 dX12_trial_14 rfl (b2iF c_5) ?_
    refine J_aload_n hX 0 dX12_trial_19 rfl rfl ?_
    obtain ⟨r_6, e_7, hf⟩ := bdE hf
    refine V_0 hX [] dX12_trial_20 cw_X12_356 ob_30 rfl (C_X12_keepsAll (okG hX) e_7) (ltD hdx rfl) rfl rfl rfl rfl ?_
    refine J_aload_n hX 0 dX12_trial_23 rfl rfl ?_
    refine J_iload_n hX 1 dX12_trial_24 rfl rfl ?_
    refine J_iconst hX 0 dX12_trial_25 rfl ?_
    obtain ⟨r_8, e_9, hf⟩ := bdE hf
    refine V_1 hX [.int x1, .int 0] dX12_trial_26 cw_X12_385 ob_30 rfl (C_X12_goesOn (okG hX) e_9) (ltD hdx rfl) rfl rfl rfl rfl ?_
    refine J_pop hX dX12_trial_29 rfl ?_
    refine J_iload_n hX 2 dX12_trial_30 rfl rfl ?_
    rcases ifE hf with ⟨c_10, hf⟩ | ⟨c_10, hf⟩
    · refine J_if_eqT hX 41 dX12_trial_31 rfl c_10 ?_
      refine J_aload_n hX 0 dX12_trial_41 rfl rfl ?_
      obtain ⟨r_11, e_12, hf⟩ := bdE hf
      refine V_1 hX [] dX12_trial_42 cw_X12_362 ob_30 rfl (C_X12_standing (okG hX) e_12) (ltD hdx rfl) rfl rfl rfl rfl ?_
      refine J_sub [0] [(0, .ref 30)] rfl ?_
      exact T_X12_trial_45 hX hdx r_11 r_8.2 hf
    · refine J_if_eqF hX 41 dX12_trial_31 rfl c_10 ?_
      refine J_aload_n hX 0 dX12_trial_34 rfl rfl ?_
      obtain ⟨r_13, e_14, hf⟩ := bdE hf
      refine V_1 hX [] dX12_trial_35 cw_X12_491 ob_30 rfl (C_X12_holdOfAll (okG hX) e_14) (ltD hdx rfl) rfl rfl rfl rfl ?_
      refine J_goto hX 45 dX12_trial_38 rfl ?_
      refine J_sub [0] [(0, .ref 30)] rfl ?_
      exact T_X12_trial_45 hX hdx r_13 r_8.2 hf
set_option maxRecDepth 100000 in
set_option maxHeartbeats 200000 in
theorem C_X12_trial {G : GX} (hG : GOk G) {x1 : Int32} {x2 : Int32} {h : Hp} {r : Int32 × Hp} (hf : f_X12_trial x1 x2 h = some r) : Ctr G 15 yX12_trial cX12_trial 4 (some .int) [.ref 30, .int x1, .int x2] h ((.inl (some (.int r.1)), r.2)) :=
  Ctr_of hG RX12 rfl (by decide) rfl (fun X _ hdx hX => T_X12_trial_0 hX hdx x1 x2 h hf)
theorem dX12_span_0 : decode cX12_span 0 = .ok (.aload_n 0, 1) := by decide +kernel
theorem dX12_span_1 : decode cX12_span 1 = .ok (.iconst 0, 1) := by decide +kernel
theorem dX12_span_2 : decode cX12_span 2 = .ok (.putfield 3, 3) := by decide +kernel
theorem dX12_span_5 : decode cX12_span 5 = .ok (.aload_n 0, 1) := by decide +kernel
theorem dX12_span_6 : decode cX12_span 6 = .ok (.iload_n 1, 1) := by decide +kernel
theorem dX12_span_7 : decode cX12_span 7 = .ok (.invokestatic 488, 3) := by decide +kernel
theorem dX12_span_10 : decode cX12_span 10 = .ok (.iconst 1, 1) := by decide +kernel
theorem dX12_span_11 : decode cX12_span 11 = .ok (.invokevirtual 280, 3) := by decide +kernel
theorem dX12_span_14 : decode cX12_span 14 = .ok (.ifCond .eq 5, 3) := by decide +kernel
theorem dX12_span_17 : decode cX12_span 17 = .ok (.iconst 0, 1) := by decide +kernel
theorem dX12_span_18 : decode cX12_span 18 = .ok (.ireturn, 1) := by decide +kernel
theorem dX12_span_19 : decode cX12_span 19 = .ok (.aload_n 0, 1) := by decide +kernel
theorem dX12_span_20 : decode cX12_span 20 = .ok (.invokevirtual 356, 3) := by decide +kernel
theorem dX12_span_23 : decode cX12_span 23 = .ok (.iconst (-1), 1) := by decide +kernel
theorem dX12_span_24 : decode cX12_span 24 = .ok (.istore_n 3, 1) := by decide +kernel
theorem dX12_span_25 : decode cX12_span 25 = .ok (.iconst 1, 1) := by decide +kernel
theorem dX12_span_26 : decode cX12_span 26 = .ok (.istore 4, 2) := by decide +kernel
theorem dX12_span_28 : decode cX12_span 28 = .ok (.iload 4, 2) := by decide +kernel
theorem dX12_span_30 : decode cX12_span 30 = .ok (.bipush 6, 2) := by decide +kernel
theorem dX12_span_32 : decode cX12_span 32 = .ok (.if_icmp .gt 67, 3) := by decide +kernel
theorem dX12_span_35 : decode cX12_span 35 = .ok (.aload_n 0, 1) := by decide +kernel
theorem dX12_span_36 : decode cX12_span 36 = .ok (.getfield 13, 3) := by decide +kernel
theorem dX12_span_39 : decode cX12_span 39 = .ok (.bipush 9, 2) := by decide +kernel
theorem dX12_span_41 : decode cX12_span 41 = .ok (.iload 4, 2) := by decide +kernel
theorem dX12_span_43 : decode cX12_span 43 = .ok (.iastore, 1) := by decide +kernel
theorem dX12_span_44 : decode cX12_span 44 = .ok (.aload_n 0, 1) := by decide +kernel
theorem dX12_span_45 : decode cX12_span 45 = .ok (.iload_n 1, 1) := by decide +kernel
theorem dX12_span_46 : decode cX12_span 46 = .ok (.iconst 0, 1) := by decide +kernel
theorem dX12_span_47 : decode cX12_span 47 = .ok (.invokevirtual 385, 3) := by decide +kernel
theorem dX12_span_50 : decode cX12_span 50 = .ok (.pop, 1) := by decide +kernel
theorem dX12_span_51 : decode cX12_span 51 = .ok (.aload_n 0, 1) := by decide +kernel
theorem dX12_span_52 : decode cX12_span 52 = .ok (.invokevirtual 362, 3) := by decide +kernel
theorem dX12_span_55 : decode cX12_span 55 = .ok (.invokestatic 368, 3) := by decide +kernel
theorem dX12_span_58 : decode cX12_span 58 = .ok (.istore 5, 2) := by decide +kernel
theorem dX12_span_60 : decode cX12_span 60 = .ok (.aload_n 0, 1) := by decide +kernel
theorem dX12_span_61 : decode cX12_span 61 = .ok (.invokevirtual 353, 3) := by decide +kernel
theorem dX12_span_64 : decode cX12_span 64 = .ok (.iload_n 3, 1) := by decide +kernel
theorem dX12_span_65 : decode cX12_span 65 = .ok (.ifCond .ge 8, 3) := by decide +kernel
theorem dX12_span_68 : decode cX12_span 68 = .ok (.iload 5, 2) := by decide +kernel
theorem dX12_span_70 : decode cX12_span 70 = .ok (.goto 22, 3) := by decide +kernel
theorem dX12_span_73 : decode cX12_span 73 = .ok (.iload_n 2, 1) := by decide +kernel
theorem dX12_span_74 : decode cX12_span 74 = .ok (.ifCond .eq 12, 3) := by decide +kernel
theorem dX12_span_77 : decode cX12_span 77 = .ok (.iload_n 3, 1) := by decide +kernel
theorem dX12_span_78 : decode cX12_span 78 = .ok (.iload 5, 2) := by decide +kernel
theorem dX12_span_80 : decode cX12_span 80 = .ok (.invokestatic 314, 3) := by decide +kernel
theorem dX12_span_83 : decode cX12_span 83 = .ok (.goto 9, 3) := by decide +kernel
theorem dX12_span_86 : decode cX12_span 86 = .ok (.iload_n 3, 1) := by decide +kernel
theorem dX12_span_87 : decode cX12_span 87 = .ok (.iload 5, 2) := by decide +kernel
theorem dX12_span_89 : decode cX12_span 89 = .ok (.invokestatic 328, 3) := by decide +kernel
theorem dX12_span_92 : decode cX12_span 92 = .ok (.istore_n 3, 1) := by decide +kernel
theorem dX12_span_93 : decode cX12_span 93 = .ok (.iinc 4 1, 3) := by decide +kernel
theorem dX12_span_96 : decode cX12_span 96 = .ok (.goto (-68), 3) := by decide +kernel
theorem dX12_span_99 : decode cX12_span 99 = .ok (.iload_n 3, 1) := by decide +kernel
theorem dX12_span_100 : decode cX12_span 100 = .ok (.ireturn, 1) := by decide +kernel
set_option maxRecDepth 100000 in
set_option maxHeartbeats 200000 in
theorem T_X12_span_28_s {X : CX} (hX : Ok X cX12_span 6 RX12 (some .int)) (hdx : dX X = 15) {r : Int32 × Hp} (x1 : Int32) (x2 : Int32) (q_28 : Int32 → Int32 → Hp → Option (Int32 × Hp)) (hq_28 : ∀ (x3 : Int32) (x4 : Int32) (h : Hp), q_28 x3 x4 h = some r → J X ((.inl (some (.int r.1)), r.2)) 28 [(0, .ref 30), (1, .int x1), (2, .int x2), (3, .int x3), (4, .int x4)] [] h) (x3 : Int32) (x4 : Int32) (h : Hp) (hf : S_X12_span_28 x1 x2 q_28 x3 x4 h = some r) : J X ((.inl (some (.int r.1)), r.2)) 28 [(0, .ref 30), (1, .int x1), (2, .int x2), (3, .int x3), (4, .int x4)] [] h := by
  unfold S_X12_span_28 at hf
  refine J_iload hX 4 dX12_span_28 rfl ?_
  refine J_bipush hX 6 dX12_span_30 rfl ?_
  rcases ifE hf with ⟨c_1, hf⟩ | ⟨c_1, hf⟩
  · refine J_icmp_gtT hX 99 dX12_span_32 rfl c_1 ?_
    refine J_iload_n hX 3 dX12_span_99 rfl rfl ?_
    exact E_Ii hX dX12_span_100 hf
  · refine J_icmp_gtF hX 99 dX12_span_32 rfl c_1 ?_
    refine J_aload_n hX 0 dX12_span_35 rfl rfl ?_
    refine J_getR hX 31 dX12_span_36 fl_X12_13 ob_30 rfl rfl ?_
    refine J_bipush hX 9 dX12_span_39 rfl ?_
    refine J_iload hX 4 dX12_span_41 rfl ?_
    obtain ⟨h_2, e_3, hf⟩ := bndE hf
    refine J_ast hX 9 x4 dX12_span_43 ar_31 (Or.inl ⟨rfl, rfl, rfl⟩) (by decide) (by decide) ?_
    refine J_nmh e_3 ?_
    refine J_aload_n hX 0 dX12_span_44 rfl rfl ?_
    refine J_iload_n hX 1 dX12_span_45 rfl rfl ?_
    refine J_iconst hX 0 dX12_span_46 rfl ?_
    obtain ⟨r_4, e_5, hf⟩ := bdE hf
    refine V_1 hX [.int x1, .int 0] dX12_span_47 cw_X12_385 ob_30 rfl (C_X12_goesOn (okG hX) e_5) (ltD hdx rfl) rfl rfl rfl rfl ?_
    refine J_pop hX dX12_span_50 rfl ?_
    refine J_aload_n hX 0 dX12_span_51 rfl rfl ?_
    obtain ⟨r_6, e_7, hf⟩ := bdE hf
    refine V_1 hX [] dX12_span_52 cw_X12_362 ob_30 rfl (C_X12_standing (okG hX) e_7) (ltD hdx rfl) rfl rfl rfl rfl ?_
    refine S_1 hX [.int r_6] dX12_span_55 cw_X12_368 (C_J6_bitCount_0f7a4 (okG hX) rfl) (ltD hdx rfl) rfl rfl rfl rfl ?_
    obtain ⟨x5_8, e_9, hf⟩ := bndE hf
    refine J_nm e_9 ?_
    refine J_istore hX [(5, .int x5_8), (0, .ref 30), (1, .int x1), (2, .int x2), (3, .int x3), (4, .int x4)] dX12_span_58 rfl rfl ?_
    refine J_aload_n hX 1 dX12_span_60 rfl rfl ?_
    obtain ⟨r_10, e_11, hf⟩ := bdE hf
    refine V_0 hX [] dX12_span_61 cw_X12_353 ob_30 rfl (C_X12_bringsBack (okG hX) e_11) (ltD hdx rfl) rfl rfl rfl rfl ?_
    refine J_iload_n hX 4 dX12_span_64 rfl rfl ?_
    rcases ifE hf with ⟨c_12, hf⟩ | ⟨c_12, hf⟩
    · refine J_if_geF hX 73 dX12_span_65 rfl c_12 ?_
      refine J_iload hX 0 dX12_span_68 rfl ?_
      refine J_goto hX 92 dX12_span_70 rfl ?_
      refine J_istore_n hX [(3, .int x5_8), (5, .int x5_8), (0, .ref 30), (1, .int x1), (2, .int x2), (4, .int x4)] dX12_span_92 rfl rfl rfl ?_
      refine J_iinc hX (x4 + 1) 5 [(4, .int (x4 + 1)), (3, .int x5_8), (5, .int x5_8), (0, .ref 30), (1, .int x1), (2, .int x2)] dX12_span_93 rfl rfl rfl rfl ?_
      refine J_goto hX 28 dX12_span_96 rfl ?_
      refine J_sub [3, 4, 5, 1, 0] [(0, .ref 30), (1, .int x1), (2, .int x2), (3, .int x5_8), (4, .int (x4 + 1))] rfl ?_
      exact hq_28 x5_8 (x4 + 1) r_10 hf
    · refine J_if_geT hX 73 dX12_span_65 rfl c_12 ?_
      refine J_iload_n hX 3 dX12_span_73 rfl rfl ?_
      rcases ifE hf with ⟨c_13, hf⟩ | ⟨c_13, hf⟩
      · refine J_if_eqT hX 86 dX12_span_74 rfl c_13 ?_
        refine J_iload_n hX 4 dX12_span_86 rfl rfl ?_
        refine J_iload hX 0 dX12_span_87 rfl ?_
        refine J_min hX dX12_span_89 mw_X12_328 (ltD hdx rfl) rfl ?_
        obtain ⟨x3_14, e_15, hf⟩ := bndE hf
        refine J_nm e_15 ?_
        refine J_istore_n hX [(3, .int x3_14), (5, .int x5_8), (0, .ref 30), (1, .int x1), (2, .int x2), (4, .int x4)] dX12_span_92 rfl rfl rfl ?_
        refine J_iinc hX (x4 + 1) 5 [(4, .int (x4 + 1)), (3, .int x3_14), (5, .int x5_8), (0, .ref 30), (1, .int x1), (2, .int x2)] dX12_span_93 rfl rfl rfl rfl ?_
        refine J_goto hX 28 dX12_span_96 rfl ?_
        refine J_sub [3, 4, 5, 1, 0] [(0, .ref 30), (1, .int x1), (2, .int x2), (3, .int x3_14), (4, .int (x4 + 1))] rfl ?_
        exact hq_28 x3_14 (x4 + 1) r_10 hf
      · refine J_if_eqF hX 86 dX12_span_74 rfl c_13 ?_
        refine J_iload_n hX 4 dX12_span_77 rfl rfl ?_
        refine J_iload hX 0 dX12_span_78 rfl ?_
        refine J_max hX dX12_span_80 mw_X12_314 (ltD hdx rfl) rfl ?_
        refine J_goto hX 92 dX12_span_83 rfl ?_
        obtain ⟨x3_16, e_17, hf⟩ := bndE hf
        refine J_nm e_17 ?_
        refine J_istore_n hX [(3, .int x3_16), (5, .int x5_8), (0, .ref 30), (1, .int x1), (2, .int x2), (4, .int x4)] dX12_span_92 rfl rfl rfl ?_
        refine J_iinc hX (x4 + 1) 5 [(4, .int (x4 + 1)), (3, .int x3_16), (5, .int x5_8), (0, .ref 30), (1, .int x1), (2, .int x2)] dX12_span_93 rfl rfl rfl rfl ?_
        refine J_goto hX 28 dX12_span_96 rfl ?_
        refine J_sub [3, 4, 5, 1, 0] [(0, .ref 30), (1, .int x1), (2, .int x2), (3, .int x3_16), (4, .int (x4 + 1))] rfl ?_
        exact hq_28 x3_16 (x4 + 1) r_10 hf
set_option maxRecDepth 100000 in
set_option maxHeartbeats 200000 in
theorem T_X12_span_28 {X : CX} (hX : Ok X cX12_span 6 RX12 (some .int)) (hdx : dX X = 15) {r : Int32 × Hp} (x1 : Int32) (x2 : Int32) : ∀ (n : Nat) (x3 : Int32) (x4 : Int32) (h : Hp), F_X12_span_28 x1 x2 n x3 x4 h = some r → J X ((.inl (some (.int r.1)), r.2)) 28 [(0, .ref 30), (1, .int x1), (2, .int x2), (3, .int x3), (4, .int x4)] [] h := by
  intro n
  induction n with
  | zero => intro x3 x4 h hf; exact nomatch hf
  | succ n ih => intro x3 x4 h hf; exact T_X12_span_28_s hX hdx x1 x2 _ (fun x3 x4 h hf => ih x3 x4 h hf) x3 x4 h hf
set_option maxRecDepth 100000 in
set_option maxHeartbeats 200000 in
theorem T_X12_span_0 {X : CX} (hX : Ok X cX12_span 6 RX12 (some .int)) (hdx : dX X = 15) {r : Int32 × Hp} (x1 : Int32) (x2 : Int32) (h : Hp) (hf : f_X12_span x1 x2 h = some r) : J X ((.inl (some (.int r.1)), r.2)) 0 [(0, .ref 30), (1, .int x1), (2, .int x2)] [] h := by
  unfold f_X12_span at hf
  refine J_aload_n hX 0 dX12_span_0 rfl rfl ?_
  refine J_iconst hX 0 dX12_span_1 rfl ?_
  obtain ⟨h_1, e_2, hf⟩ := bndE hf
  refine J_putI hX dX12_span_2 fl_X12_3 fw_10_0 ob_30 rfl rfl rfl ?_
  refine J_nmh e_2 ?_
  refine J_aload_n hX 0 dX12_span_5 rfl rfl ?_
  refine J_iload_n hX 1 dX12_span_6 rfl rfl ?_
  refine S_1 hX [.int x1] dX12_span_7 cw_X12_488 (C_X12_noAhead (okG hX) rfl) (ltD hdx rfl) rfl rfl rfl rfl ?_
  refine J_iconst hX 1 dX12_span_10 rfl ?_
  obtain ⟨r_3, e_4, hf⟩ := bdE hf
  refine V_1 hX [.int (b2i (f_X12_noAhead x1 h_1)), .int 1] dX12_span_11 cw_X12_280 ob_30 rfl (C_X12_throwsIf (okG hX) e_4) (ltD hdx rfl) rfl rfl rfl rfl ?_
  rcases ifE hf with ⟨c_5, hf⟩ | ⟨c_5, hf⟩
  · refine J_if_eqF hX 19 dX12_span_14 rfl (b2iT c_5) ?_
    refine J_iconst hX 0 dX12_span_17 rfl ?_
    exact E_Ii hX dX12_span_18 hf
  · refine J_if_eqT hX 19 dX12_span_14 rfl (b2iF c_5) ?_
    refine J_aload_n hX 0 dX12_span_19 rfl rfl ?_
    obtain ⟨r_6, e_7, hf⟩ := bdE hf
    refine V_0 hX [] dX12_span_20 cw_X12_356 ob_30 rfl (C_X12_keepsAll (okG hX) e_7) (ltD hdx rfl) rfl rfl rfl rfl ?_
    refine J_iconst hX (-1) dX12_span_23 rfl ?_
    refine J_istore_n hX [(3, .int (-1)), (0, .ref 30), (1, .int x1), (2, .int x2)] dX12_span_24 rfl rfl rfl ?_
    refine J_iconst hX 1 dX12_span_25 rfl ?_
    refine J_istore hX [(4, .int 1), (3, .int (-1)), (0, .ref 30), (1, .int x1), (2, .int x2)] dX12_span_26 rfl rfl ?_
    refine J_sub [2, 3, 4, 1, 0] [(0, .ref 30), (1, .int x1), (2, .int x2), (3, .int (-1)), (4, .int 1)] rfl ?_
    exact T_X12_span_28 hX hdx x1 x2 FU (-1) 1 r_6 hf
set_option maxRecDepth 100000 in
set_option maxHeartbeats 200000 in
theorem C_X12_span {G : GX} (hG : GOk G) {x1 : Int32} {x2 : Int32} {h : Hp} {r : Int32 × Hp} (hf : f_X12_span x1 x2 h = some r) : Ctr G 15 yX12_span cX12_span 6 (some .int) [.ref 30, .int x1, .int x2] h ((.inl (some (.int r.1)), r.2)) :=
  Ctr_of hG RX12 rfl (by decide) rfl (fun X _ hdx hX => T_X12_span_0 hX hdx x1 x2 h hf)
theorem dX12_ofLog_0 : decode cX12_ofLog 0 = .ok (.aload_n 0, 1) := by decide +kernel
theorem dX12_ofLog_1 : decode cX12_ofLog 1 = .ok (.getfield 13, 3) := by decide +kernel
theorem dX12_ofLog_4 : decode cX12_ofLog 4 = .ok (.sipush 132, 3) := by decide +kernel
theorem dX12_ofLog_7 : decode cX12_ofLog 7 = .ok (.bipush 6, 2) := by decide +kernel
theorem dX12_ofLog_9 : decode cX12_ofLog 9 = .ok (.iload_n 1, 1) := by decide +kernel
theorem dX12_ofLog_10 : decode cX12_ofLog 10 = .ok (.imul, 1) := by decide +kernel
theorem dX12_ofLog_11 : decode cX12_ofLog 11 = .ok (.iadd, 1) := by decide +kernel
theorem dX12_ofLog_12 : decode cX12_ofLog 12 = .ok (.iload_n 2, 1) := by decide +kernel
theorem dX12_ofLog_13 : decode cX12_ofLog 13 = .ok (.iadd, 1) := by decide +kernel
theorem dX12_ofLog_14 : decode cX12_ofLog 14 = .ok (.iaload, 1) := by decide +kernel
theorem dX12_ofLog_15 : decode cX12_ofLog 15 = .ok (.ireturn, 1) := by decide +kernel
set_option maxRecDepth 100000 in
set_option maxHeartbeats 200000 in
theorem T_X12_ofLog_0 {X : CX} (hX : Ok X cX12_ofLog 3 RX12 (some .int)) (hdx : dX X = 2) {r : Int32} (x1 : Int32) (x2 : Int32) (h : Hp) (hf : f_X12_ofLog x1 x2 h = some r) : J X ((.inl (some (.int r)), h)) 0 [(0, .ref 30), (1, .int x1), (2, .int x2)] [] h := by
  unfold f_X12_ofLog at hf
  refine J_aload_n hX 0 dX12_ofLog_0 rfl rfl ?_
  refine J_getR hX 31 dX12_ofLog_1 fl_X12_13 ob_30 rfl rfl ?_
  refine J_sipush hX 132 dX12_ofLog_4 rfl ?_
  refine J_bipush hX 6 dX12_ofLog_7 rfl ?_
  refine J_iload_n hX 1 dX12_ofLog_9 rfl rfl ?_
  refine J_imul hX dX12_ofLog_10 ?_
  refine J_iadd hX dX12_ofLog_11 ?_
  refine J_iload_n hX 2 dX12_ofLog_12 rfl rfl ?_
  refine J_iadd hX dX12_ofLog_13 ?_
  obtain ⟨g_1, hf⟩ := gdE hf
  refine J_ald hX (((132 + (6 * x1)) + x2).toNatClampNeg) dX12_ofLog_14 ar_31 (Or.inl ⟨rfl, rfl⟩) g_1 rfl ?_
  exact E_Ip hX dX12_ofLog_15 hf
set_option maxRecDepth 100000 in
set_option maxHeartbeats 200000 in
theorem C_X12_ofLog {G : GX} (hG : GOk G) {x1 : Int32} {x2 : Int32} {h : Hp} {r : Int32} (hf : f_X12_ofLog x1 x2 h = some r) : Ctr G 2 yX12_ofLog cX12_ofLog 3 (some .int) [.ref 30, .int x1, .int x2] h ((.inl (some (.int r)), h)) :=
  Ctr_of hG RX12 rfl (by decide) rfl (fun X _ hdx hX => T_X12_ofLog_0 hX hdx x1 x2 h hf)
theorem dX12_led_0 : decode cX12_led 0 = .ok (.aload_n 0, 1) := by decide +kernel
theorem dX12_led_1 : decode cX12_led 1 = .ok (.iconst 0, 1) := by decide +kernel
theorem dX12_led_2 : decode cX12_led 2 = .ok (.putfield 3, 3) := by decide +kernel
theorem dX12_led_5 : decode cX12_led 5 = .ok (.aload_n 0, 1) := by decide +kernel
theorem dX12_led_6 : decode cX12_led 6 = .ok (.aload_n 0, 1) := by decide +kernel
theorem dX12_led_7 : decode cX12_led 7 = .ok (.iload_n 1, 1) := by decide +kernel
theorem dX12_led_8 : decode cX12_led 8 = .ok (.invokevirtual 392, 3) := by decide +kernel
theorem dX12_led_11 : decode cX12_led 11 = .ok (.iconst 1, 1) := by decide +kernel
theorem dX12_led_12 : decode cX12_led 12 = .ok (.invokevirtual 280, 3) := by decide +kernel
theorem dX12_led_15 : decode cX12_led 15 = .ok (.ifCond .eq 5, 3) := by decide +kernel
theorem dX12_led_18 : decode cX12_led 18 = .ok (.iconst 0, 1) := by decide +kernel
theorem dX12_led_19 : decode cX12_led 19 = .ok (.ireturn, 1) := by decide +kernel
theorem dX12_led_20 : decode cX12_led 20 = .ok (.iconst 0, 1) := by decide +kernel
theorem dX12_led_21 : decode cX12_led 21 = .ok (.istore_n 3, 1) := by decide +kernel
theorem dX12_led_22 : decode cX12_led 22 = .ok (.iconst (-1), 1) := by decide +kernel
theorem dX12_led_23 : decode cX12_led 23 = .ok (.istore 4, 2) := by decide +kernel
theorem dX12_led_25 : decode cX12_led 25 = .ok (.aload_n 0, 1) := by decide +kernel
theorem dX12_led_26 : decode cX12_led 26 = .ok (.getfield 13, 3) := by decide +kernel
theorem dX12_led_29 : decode cX12_led 29 = .ok (.bipush 8, 2) := by decide +kernel
theorem dX12_led_31 : decode cX12_led 31 = .ok (.iaload, 1) := by decide +kernel
theorem dX12_led_32 : decode cX12_led 32 = .ok (.iconst 1, 1) := by decide +kernel
theorem dX12_led_33 : decode cX12_led 33 = .ok (.isub, 1) := by decide +kernel
theorem dX12_led_34 : decode cX12_led 34 = .ok (.istore 5, 2) := by decide +kernel
theorem dX12_led_36 : decode cX12_led 36 = .ok (.iload 5, 2) := by decide +kernel
theorem dX12_led_38 : decode cX12_led 38 = .ok (.ifCond .lt 35, 3) := by decide +kernel
theorem dX12_led_41 : decode cX12_led 41 = .ok (.aload_n 0, 1) := by decide +kernel
theorem dX12_led_42 : decode cX12_led 42 = .ok (.iload 5, 2) := by decide +kernel
theorem dX12_led_44 : decode cX12_led 44 = .ok (.iconst 2, 1) := by decide +kernel
theorem dX12_led_45 : decode cX12_led 45 = .ok (.invokevirtual 494, 3) := by decide +kernel
theorem dX12_led_48 : decode cX12_led 48 = .ok (.iload_n 1, 1) := by decide +kernel
theorem dX12_led_49 : decode cX12_led 49 = .ok (.if_icmp .eq 6, 3) := by decide +kernel
theorem dX12_led_52 : decode cX12_led 52 = .ok (.goto 15, 3) := by decide +kernel
theorem dX12_led_55 : decode cX12_led 55 = .ok (.iinc 3 1, 3) := by decide +kernel
theorem dX12_led_58 : decode cX12_led 58 = .ok (.aload_n 0, 1) := by decide +kernel
theorem dX12_led_59 : decode cX12_led 59 = .ok (.iload 5, 2) := by decide +kernel
theorem dX12_led_61 : decode cX12_led 61 = .ok (.iconst 0, 1) := by decide +kernel
theorem dX12_led_62 : decode cX12_led 62 = .ok (.invokevirtual 494, 3) := by decide +kernel
theorem dX12_led_65 : decode cX12_led 65 = .ok (.istore 4, 2) := by decide +kernel
theorem dX12_led_67 : decode cX12_led 67 = .ok (.iinc 5 (-1), 3) := by decide +kernel
theorem dX12_led_70 : decode cX12_led 70 = .ok (.goto (-34), 3) := by decide +kernel
theorem dX12_led_73 : decode cX12_led 73 = .ok (.iload_n 2, 1) := by decide +kernel
theorem dX12_led_74 : decode cX12_led 74 = .ok (.ifCond .eq 8, 3) := by decide +kernel
theorem dX12_led_77 : decode cX12_led 77 = .ok (.iload 4, 2) := by decide +kernel
theorem dX12_led_79 : decode cX12_led 79 = .ok (.goto 4, 3) := by decide +kernel
theorem dX12_led_82 : decode cX12_led 82 = .ok (.iload_n 3, 1) := by decide +kernel
theorem dX12_led_83 : decode cX12_led 83 = .ok (.ireturn, 1) := by decide +kernel
set_option maxRecDepth 100000 in
set_option maxHeartbeats 200000 in
theorem T_X12_led_36_s {X : CX} (hX : Ok X cX12_led 6 RX12 (some .int)) (hdx : dX X = 4) {r : Int32 × Hp} (x1 : Int32) (x2 : Int32) (q_36 : Int32 → Int32 → Int32 → Hp → Option (Int32 × Hp)) (hq_36 : ∀ (x3 : Int32) (x4 : Int32) (x5 : Int32) (h : Hp), q_36 x3 x4 x5 h = some r → J X ((.inl (some (.int r.1)), r.2)) 36 [(0, .ref 30), (1, .int x1), (2, .int x2), (3, .int x3), (4, .int x4), (5, .int x5)] [] h) (x3 : Int32) (x4 : Int32) (x5 : Int32) (h : Hp) (hf : S_X12_led_36 x1 x2 q_36 x3 x4 x5 h = some r) : J X ((.inl (some (.int r.1)), r.2)) 36 [(0, .ref 30), (1, .int x1), (2, .int x2), (3, .int x3), (4, .int x4), (5, .int x5)] [] h := by
  unfold S_X12_led_36 at hf
  refine J_iload hX 5 dX12_led_36 rfl ?_
  rcases ifE hf with ⟨c_1, hf⟩ | ⟨c_1, hf⟩
  · refine J_if_ltT hX 73 dX12_led_38 rfl c_1 ?_
    refine J_iload_n hX 2 dX12_led_73 rfl rfl ?_
    rcases ifE hf with ⟨c_2, hf⟩ | ⟨c_2, hf⟩
    · refine J_if_eqT hX 82 dX12_led_74 rfl c_2 ?_
      refine J_iload_n hX 3 dX12_led_82 rfl rfl ?_
      exact E_Ii hX dX12_led_83 hf
    · refine J_if_eqF hX 82 dX12_led_74 rfl c_2 ?_
      refine J_iload hX 4 dX12_led_77 rfl ?_
      refine J_goto hX 83 dX12_led_79 rfl ?_
      exact E_Ii hX dX12_led_83 hf
  · refine J_if_ltF hX 73 dX12_led_38 rfl c_1 ?_
    refine J_aload_n hX 0 dX12_led_41 rfl rfl ?_
    refine J_iload hX 5 dX12_led_42 rfl ?_
    refine J_iconst hX 2 dX12_led_44 rfl ?_
    obtain ⟨r_3, e_4, hf⟩ := bdE hf
    refine V_1 hX [.int x5, .int 2] dX12_led_45 cw_X12_494 ob_30 rfl (C_X12_ofLog (okG hX) e_4) (ltD hdx rfl) rfl rfl rfl rfl ?_
    refine J_iload_n hX 1 dX12_led_48 rfl rfl ?_
    rcases ifE hf with ⟨c_5, hf⟩ | ⟨c_5, hf⟩
    · refine J_icmp_eqT hX 55 dX12_led_49 rfl c_5 ?_
      refine J_iinc hX (x3 + 1) 3 [(3, .int (x3 + 1)), (0, .ref 30), (1, .int x1), (2, .int x2), (4, .int x4), (5, .int x5)] dX12_led_55 rfl rfl rfl rfl ?_
      refine J_aload_n hX 1 dX12_led_58 rfl rfl ?_
      refine J_iload hX 5 dX12_led_59 rfl ?_
      refine J_iconst hX 0 dX12_led_61 rfl ?_
      obtain ⟨r_6, e_7, hf⟩ := bdE hf
      refine V_1 hX [.int x5, .int 0] dX12_led_62 cw_X12_494 ob_30 rfl (C_X12_ofLog (okG hX) e_7) (ltD hdx rfl) rfl rfl rfl rfl ?_
      refine J_istore hX [(4, .int r_6), (3, .int (x3 + 1)), (0, .ref 30), (1, .int x1), (2, .int x2), (5, .int x5)] dX12_led_65 rfl rfl ?_
      refine J_iinc hX (x5 + (-1)) 5 [(5, .int (x5 + (-1))), (4, .int r_6), (3, .int (x3 + 1)), (0, .ref 30), (1, .int x1), (2, .int x2)] dX12_led_67 rfl rfl rfl rfl ?_
      refine J_goto hX 36 dX12_led_70 rfl ?_
      refine J_sub [3, 4, 5, 2, 1, 0] [(0, .ref 30), (1, .int x1), (2, .int x2), (3, .int (x3 + 1)), (4, .int r_6), (5, .int (x5 + (-1)))] rfl ?_
      exact hq_36 (x3 + 1) r_6 (x5 + (-1)) h hf
    · refine J_icmp_eqF hX 55 dX12_led_49 rfl c_5 ?_
      refine J_goto hX 67 dX12_led_52 rfl ?_
      refine J_iinc hX (x5 + (-1)) 5 [(5, .int (x5 + (-1))), (0, .ref 30), (1, .int x1), (2, .int x2), (3, .int x3), (4, .int x4)] dX12_led_67 rfl rfl rfl rfl ?_
      refine J_goto hX 36 dX12_led_70 rfl ?_
      refine J_sub [1, 2, 3, 4, 5, 0] [(0, .ref 30), (1, .int x1), (2, .int x2), (3, .int x3), (4, .int x4), (5, .int (x5 + (-1)))] rfl ?_
      exact hq_36 x3 x4 (x5 + (-1)) h hf
set_option maxRecDepth 100000 in
set_option maxHeartbeats 200000 in
theorem T_X12_led_36 {X : CX} (hX : Ok X cX12_led 6 RX12 (some .int)) (hdx : dX X = 4) {r : Int32 × Hp} (x1 : Int32) (x2 : Int32) : ∀ (n : Nat) (x3 : Int32) (x4 : Int32) (x5 : Int32) (h : Hp), F_X12_led_36 x1 x2 n x3 x4 x5 h = some r → J X ((.inl (some (.int r.1)), r.2)) 36 [(0, .ref 30), (1, .int x1), (2, .int x2), (3, .int x3), (4, .int x4), (5, .int x5)] [] h := by
  intro n
  induction n with
  | zero => intro x3 x4 x5 h hf; exact nomatch hf
  | succ n ih => intro x3 x4 x5 h hf; exact T_X12_led_36_s hX hdx x1 x2 _ (fun x3 x4 x5 h hf => ih x3 x4 x5 h hf) x3 x4 x5 h hf
set_option maxRecDepth 100000 in
set_option maxHeartbeats 200000 in
theorem T_X12_led_0 {X : CX} (hX : Ok X cX12_led 6 RX12 (some .int)) (hdx : dX X = 4) {r : Int32 × Hp} (x1 : Int32) (x2 : Int32) (h : Hp) (hf : f_X12_led x1 x2 h = some r) : J X ((.inl (some (.int r.1)), r.2)) 0 [(0, .ref 30), (1, .int x1), (2, .int x2)] [] h := by
  unfold f_X12_led at hf
  refine J_aload_n hX 0 dX12_led_0 rfl rfl ?_
  refine J_iconst hX 0 dX12_led_1 rfl ?_
  obtain ⟨h_1, e_2, hf⟩ := bndE hf
  refine J_putI hX dX12_led_2 fl_X12_3 fw_10_0 ob_30 rfl rfl rfl ?_
  refine J_nmh e_2 ?_
  refine J_aload_n hX 0 dX12_led_5 rfl rfl ?_
  refine J_aload_n hX 0 dX12_led_6 rfl rfl ?_
  refine J_iload_n hX 1 dX12_led_7 rfl rfl ?_
  refine V_1 hX [.int x1] dX12_led_8 cw_X12_392 ob_30 rfl (C_X12_noHouse (okG hX) rfl) (ltD hdx rfl) rfl rfl rfl rfl ?_
  refine J_iconst hX 1 dX12_led_11 rfl ?_
  obtain ⟨r_3, e_4, hf⟩ := bdE hf
  refine V_1 hX [.int (b2i (f_X12_noHouse x1 h_1)), .int 1] dX12_led_12 cw_X12_280 ob_30 rfl (C_X12_throwsIf (okG hX) e_4) (ltD hdx rfl) rfl rfl rfl rfl ?_
  rcases ifE hf with ⟨c_5, hf⟩ | ⟨c_5, hf⟩
  · refine J_if_eqF hX 20 dX12_led_15 rfl (b2iT c_5) ?_
    refine J_iconst hX 0 dX12_led_18 rfl ?_
    exact E_Ii hX dX12_led_19 hf
  · refine J_if_eqT hX 20 dX12_led_15 rfl (b2iF c_5) ?_
    refine J_iconst hX 0 dX12_led_20 rfl ?_
    refine J_istore_n hX [(3, .int 0), (0, .ref 30), (1, .int x1), (2, .int x2)] dX12_led_21 rfl rfl rfl ?_
    refine J_iconst hX (-1) dX12_led_22 rfl ?_
    refine J_istore hX [(4, .int (-1)), (3, .int 0), (0, .ref 30), (1, .int x1), (2, .int x2)] dX12_led_23 rfl rfl ?_
    refine J_aload_n hX 2 dX12_led_25 rfl rfl ?_
    refine J_getR hX 31 dX12_led_26 fl_X12_13 ob_30 rfl rfl ?_
    refine J_bipush hX 8 dX12_led_29 rfl ?_
    refine J_ald hX 8 dX12_led_31 ar_31 (Or.inl ⟨rfl, rfl⟩) (by decide) (by decide) ?_
    refine J_iconst hX 1 dX12_led_32 rfl ?_
    refine J_isub hX dX12_led_33 ?_
    obtain ⟨x5_6, e_7, hf⟩ := bndE hf
    refine J_nm e_7 ?_
    refine J_istore hX [(5, .int x5_6), (4, .int (-1)), (3, .int 0), (0, .ref 30), (1, .int x1), (2, .int x2)] dX12_led_34 rfl rfl ?_
    refine J_sub [3, 4, 5, 2, 1, 0] [(0, .ref 30), (1, .int x1), (2, .int x2), (3, .int 0), (4, .int (-1)), (5, .int x5_6)] rfl ?_
    exact T_X12_led_36 hX hdx x1 x2 FU 0 (-1) x5_6 r_3.2 hf
set_option maxRecDepth 100000 in
set_option maxHeartbeats 200000 in
theorem C_X12_led {G : GX} (hG : GOk G) {x1 : Int32} {x2 : Int32} {h : Hp} {r : Int32 × Hp} (hf : f_X12_led x1 x2 h = some r) : Ctr G 4 yX12_led cX12_led 6 (some .int) [.ref 30, .int x1, .int x2] h ((.inl (some (.int r.1)), r.2)) :=
  Ctr_of hG RX12 rfl (by decide) rfl (fun X _ hdx hX => T_X12_led_0 hX hdx x1 x2 h hf)
theorem dX12_log_0 : decode cX12_log 0 = .ok (.aload_n 0, 1) := by decide +kernel
theorem dX12_log_1 : decode cX12_log 1 = .ok (.iconst 0, 1) := by decide +kernel
theorem dX12_log_2 : decode cX12_log 2 = .ok (.putfield 3, 3) := by decide +kernel
theorem dX12_log_5 : decode cX12_log 5 = .ok (.aload_n 0, 1) := by decide +kernel
theorem dX12_log_6 : decode cX12_log 6 = .ok (.iload_n 2, 1) := by decide +kernel
theorem dX12_log_7 : decode cX12_log 7 = .ok (.iconst 0, 1) := by decide +kernel
theorem dX12_log_8 : decode cX12_log 8 = .ok (.iconst 5, 1) := by decide +kernel
theorem dX12_log_9 : decode cX12_log 9 = .ok (.invokestatic 95, 3) := by decide +kernel
theorem dX12_log_12 : decode cX12_log 12 = .ok (.ifCond .ne 7, 3) := by decide +kernel
theorem dX12_log_15 : decode cX12_log 15 = .ok (.iconst 1, 1) := by decide +kernel
theorem dX12_log_16 : decode cX12_log 16 = .ok (.goto 4, 3) := by decide +kernel
theorem dX12_log_19 : decode cX12_log 19 = .ok (.iconst 0, 1) := by decide +kernel
theorem dX12_log_20 : decode cX12_log 20 = .ok (.iconst 1, 1) := by decide +kernel
theorem dX12_log_21 : decode cX12_log 21 = .ok (.invokevirtual 280, 3) := by decide +kernel
theorem dX12_log_24 : decode cX12_log 24 = .ok (.ifCond .eq 5, 3) := by decide +kernel
theorem dX12_log_27 : decode cX12_log 27 = .ok (.iconst 0, 1) := by decide +kernel
theorem dX12_log_28 : decode cX12_log 28 = .ok (.ireturn, 1) := by decide +kernel
theorem dX12_log_29 : decode cX12_log 29 = .ok (.iload_n 1, 1) := by decide +kernel
theorem dX12_log_30 : decode cX12_log 30 = .ok (.iconst 0, 1) := by decide +kernel
theorem dX12_log_31 : decode cX12_log 31 = .ok (.aload_n 0, 1) := by decide +kernel
theorem dX12_log_32 : decode cX12_log 32 = .ok (.getfield 13, 3) := by decide +kernel
theorem dX12_log_35 : decode cX12_log 35 = .ok (.bipush 8, 2) := by decide +kernel
theorem dX12_log_37 : decode cX12_log 37 = .ok (.iaload, 1) := by decide +kernel
theorem dX12_log_38 : decode cX12_log 38 = .ok (.iconst 1, 1) := by decide +kernel
theorem dX12_log_39 : decode cX12_log 39 = .ok (.isub, 1) := by decide +kernel
theorem dX12_log_40 : decode cX12_log 40 = .ok (.invokestatic 95, 3) := by decide +kernel
theorem dX12_log_43 : decode cX12_log 43 = .ok (.ifCond .eq 12, 3) := by decide +kernel
theorem dX12_log_46 : decode cX12_log 46 = .ok (.aload_n 0, 1) := by decide +kernel
theorem dX12_log_47 : decode cX12_log 47 = .ok (.iload_n 1, 1) := by decide +kernel
theorem dX12_log_48 : decode cX12_log 48 = .ok (.iload_n 2, 1) := by decide +kernel
theorem dX12_log_49 : decode cX12_log 49 = .ok (.invokevirtual 494, 3) := by decide +kernel
theorem dX12_log_52 : decode cX12_log 52 = .ok (.goto 4, 3) := by decide +kernel
theorem dX12_log_55 : decode cX12_log 55 = .ok (.iconst (-1), 1) := by decide +kernel
theorem dX12_log_56 : decode cX12_log 56 = .ok (.ireturn, 1) := by decide +kernel
set_option maxRecDepth 100000 in
set_option maxHeartbeats 200000 in
theorem T_X12_log_20 {X : CX} (hX : Ok X cX12_log 3 RX12 (some .int)) (hdx : dX X = 3) {r : Int32 × Hp} (x1 : Int32) (x2 : Int32) (t0 : Int32) (h : Hp) (hf : F_X12_log_20 x1 x2 t0 h = some r) : J X ((.inl (some (.int r.1)), r.2)) 20 [(0, .ref 30), (1, .int x1), (2, .int x2)] [.int t0, .ref 30] h := by
  unfold F_X12_log_20 at hf
  refine J_iconst hX 1 dX12_log_20 rfl ?_
  obtain ⟨r_1, e_2, hf⟩ := bdE hf
  refine V_1 hX [.int t0, .int 1] dX12_log_21 cw_X12_280 ob_30 rfl (C_X12_throwsIf (okG hX) e_2) (ltD hdx rfl) rfl rfl rfl rfl ?_
  rcases ifE hf with ⟨c_3, hf⟩ | ⟨c_3, hf⟩
  · refine J_if_eqF hX 29 dX12_log_24 rfl (b2iT c_3) ?_
    refine J_iconst hX 0 dX12_log_27 rfl ?_
    exact E_Ii hX dX12_log_28 hf
  · refine J_if_eqT hX 29 dX12_log_24 rfl (b2iF c_3) ?_
    refine J_iload_n hX 1 dX12_log_29 rfl rfl ?_
    refine J_iconst hX 0 dX12_log_30 rfl ?_
    refine J_aload_n hX 0 dX12_log_31 rfl rfl ?_
    refine J_getR hX 31 dX12_log_32 fl_X12_13 ob_30 rfl rfl ?_
    refine J_bipush hX 8 dX12_log_35 rfl ?_
    refine J_ald hX 8 dX12_log_37 ar_31 (Or.inl ⟨rfl, rfl⟩) (by decide) (by decide) ?_
    refine J_iconst hX 1 dX12_log_38 rfl ?_
    refine J_isub hX dX12_log_39 ?_
    refine S_1 hX [.int x1, .int 0, .int ((r_1.2 31 8) - 1)] dX12_log_40 cw_X12_95 (C_X12_in (okG hX) rfl) (ltD hdx rfl) rfl rfl rfl rfl ?_
    rcases ifE hf with ⟨c_4, hf⟩ | ⟨c_4, hf⟩
    · refine J_if_eqF hX 55 dX12_log_43 rfl (b2iT c_4) ?_
      refine J_aload_n hX 0 dX12_log_46 rfl rfl ?_
      refine J_iload_n hX 1 dX12_log_47 rfl rfl ?_
      refine J_iload_n hX 2 dX12_log_48 rfl rfl ?_
      obtain ⟨r_5, e_6, hf⟩ := bdE hf
      refine V_1 hX [.int x1, .int x2] dX12_log_49 cw_X12_494 ob_30 rfl (C_X12_ofLog (okG hX) e_6) (ltD hdx rfl) rfl rfl rfl rfl ?_
      refine J_goto hX 56 dX12_log_52 rfl ?_
      exact E_Ii hX dX12_log_56 hf
    · refine J_if_eqT hX 55 dX12_log_43 rfl (b2iF c_4) ?_
      refine J_iconst hX (-1) dX12_log_55 rfl ?_
      exact E_Ii hX dX12_log_56 hf
set_option maxRecDepth 100000 in
set_option maxHeartbeats 200000 in
theorem T_X12_log_0 {X : CX} (hX : Ok X cX12_log 3 RX12 (some .int)) (hdx : dX X = 3) {r : Int32 × Hp} (x1 : Int32) (x2 : Int32) (h : Hp) (hf : f_X12_log x1 x2 h = some r) : J X ((.inl (some (.int r.1)), r.2)) 0 [(0, .ref 30), (1, .int x1), (2, .int x2)] [] h := by
  unfold f_X12_log at hf
  refine J_aload_n hX 0 dX12_log_0 rfl rfl ?_
  refine J_iconst hX 0 dX12_log_1 rfl ?_
  obtain ⟨h_1, e_2, hf⟩ := bndE hf
  refine J_putI hX dX12_log_2 fl_X12_3 fw_10_0 ob_30 rfl rfl rfl ?_
  refine J_nmh e_2 ?_
  refine J_aload_n hX 0 dX12_log_5 rfl rfl ?_
  refine J_iload_n hX 2 dX12_log_6 rfl rfl ?_
  refine J_iconst hX 0 dX12_log_7 rfl ?_
  refine J_iconst hX 5 dX12_log_8 rfl ?_
  refine S_1 hX [.int x2, .int 0, .int 5] dX12_log_9 cw_X12_95 (C_X12_in (okG hX) rfl) (ltD hdx rfl) rfl rfl rfl rfl ?_
  rcases ifE hf with ⟨c_3, hf⟩ | ⟨c_3, hf⟩
  · refine J_if_neT hX 19 dX12_log_12 rfl (b2iT c_3) ?_
    refine J_iconst hX 0 dX12_log_19 rfl ?_
    exact T_X12_log_20 hX hdx x1 x2 0 h_1 hf
  · refine J_if_neF hX 19 dX12_log_12 rfl (b2iF c_3) ?_
    refine J_iconst hX 1 dX12_log_15 rfl ?_
    refine J_goto hX 20 dX12_log_16 rfl ?_
    exact T_X12_log_20 hX hdx x1 x2 1 h_1 hf
set_option maxRecDepth 100000 in
set_option maxHeartbeats 200000 in
theorem C_X12_log {G : GX} (hG : GOk G) {x1 : Int32} {x2 : Int32} {h : Hp} {r : Int32 × Hp} (hf : f_X12_log x1 x2 h = some r) : Ctr G 3 yX12_log cX12_log 3 (some .int) [.ref 30, .int x1, .int x2] h ((.inl (some (.int r.1)), r.2)) :=
  Ctr_of hG RX12 rfl (by decide) rfl (fun X _ hdx hX => T_X12_log_0 hX hdx x1 x2 h hf)
theorem dX12_seed_0 : decode cX12_seed 0 = .ok (.aload_n 0, 1) := by decide +kernel
theorem dX12_seed_1 : decode cX12_seed 1 = .ok (.iconst 0, 1) := by decide +kernel
theorem dX12_seed_2 : decode cX12_seed 2 = .ok (.putfield 3, 3) := by decide +kernel
theorem dX12_seed_5 : decode cX12_seed 5 = .ok (.aload_n 0, 1) := by decide +kernel
theorem dX12_seed_6 : decode cX12_seed 6 = .ok (.getfield 13, 3) := by decide +kernel
theorem dX12_seed_9 : decode cX12_seed 9 = .ok (.bipush 9, 2) := by decide +kernel
theorem dX12_seed_11 : decode cX12_seed 11 = .ok (.iaload, 1) := by decide +kernel
theorem dX12_seed_12 : decode cX12_seed 12 = .ok (.istore_n 2, 1) := by decide +kernel
theorem dX12_seed_13 : decode cX12_seed 13 = .ok (.aload_n 0, 1) := by decide +kernel
theorem dX12_seed_14 : decode cX12_seed 14 = .ok (.getfield 13, 3) := by decide +kernel
theorem dX12_seed_17 : decode cX12_seed 17 = .ok (.bipush 9, 2) := by decide +kernel
theorem dX12_seed_19 : decode cX12_seed 19 = .ok (.iload_n 1, 1) := by decide +kernel
theorem dX12_seed_20 : decode cX12_seed 20 = .ok (.iastore, 1) := by decide +kernel
theorem dX12_seed_21 : decode cX12_seed 21 = .ok (.iload_n 2, 1) := by decide +kernel
theorem dX12_seed_22 : decode cX12_seed 22 = .ok (.ireturn, 1) := by decide +kernel
set_option maxRecDepth 100000 in
set_option maxHeartbeats 200000 in
theorem T_X12_seed_0 {X : CX} (hX : Ok X cX12_seed 3 RX12 (some .int)) (hdx : dX X = 2) {r : Int32 × Hp} (x1 : Int32) (h : Hp) (hf : f_X12_seed x1 h = some r) : J X ((.inl (some (.int r.1)), r.2)) 0 [(0, .ref 30), (1, .int x1)] [] h := by
  unfold f_X12_seed at hf
  refine J_aload_n hX 0 dX12_seed_0 rfl rfl ?_
  refine J_iconst hX 0 dX12_seed_1 rfl ?_
  obtain ⟨h_1, e_2, hf⟩ := bndE hf
  refine J_putI hX dX12_seed_2 fl_X12_3 fw_10_0 ob_30 rfl rfl rfl ?_
  refine J_nmh e_2 ?_
  refine J_aload_n hX 0 dX12_seed_5 rfl rfl ?_
  refine J_getR hX 31 dX12_seed_6 fl_X12_13 ob_30 rfl rfl ?_
  refine J_bipush hX 9 dX12_seed_9 rfl ?_
  refine J_ald hX 9 dX12_seed_11 ar_31 (Or.inl ⟨rfl, rfl⟩) (by decide) (by decide) ?_
  refine J_istore_n hX [(2, .int (h_1 31 9)), (0, .ref 30), (1, .int x1)] dX12_seed_12 rfl rfl rfl ?_
  refine J_aload_n hX 1 dX12_seed_13 rfl rfl ?_
  refine J_getR hX 31 dX12_seed_14 fl_X12_13 ob_30 rfl rfl ?_
  refine J_bipush hX 9 dX12_seed_17 rfl ?_
  refine J_iload_n hX 2 dX12_seed_19 rfl rfl ?_
  obtain ⟨h_3, e_4, hf⟩ := bndE hf
  refine J_ast hX 9 x1 dX12_seed_20 ar_31 (Or.inl ⟨rfl, rfl, rfl⟩) (by decide) (by decide) ?_
  refine J_nmh e_4 ?_
  refine J_iload_n hX 0 dX12_seed_21 rfl rfl ?_
  exact E_Ii hX dX12_seed_22 hf
set_option maxRecDepth 100000 in
set_option maxHeartbeats 200000 in
theorem C_X12_seed {G : GX} (hG : GOk G) {x1 : Int32} {h : Hp} {r : Int32 × Hp} (hf : f_X12_seed x1 h = some r) : Ctr G 2 yX12_seed cX12_seed 3 (some .int) [.ref 30, .int x1] h ((.inl (some (.int r.1)), r.2)) :=
  Ctr_of hG RX12 rfl (by decide) rfl (fun X _ hdx hX => T_X12_seed_0 hX hdx x1 h hf)
theorem dX12_count_0 : decode cX12_count 0 = .ok (.aload_n 0, 1) := by decide +kernel
theorem dX12_count_1 : decode cX12_count 1 = .ok (.iconst 0, 1) := by decide +kernel
theorem dX12_count_2 : decode cX12_count 2 = .ok (.putfield 3, 3) := by decide +kernel
theorem dX12_count_5 : decode cX12_count 5 = .ok (.aload_n 0, 1) := by decide +kernel
theorem dX12_count_6 : decode cX12_count 6 = .ok (.invokevirtual 347, 3) := by decide +kernel
theorem dX12_count_9 : decode cX12_count 9 = .ok (.iload_n 1, 1) := by decide +kernel
theorem dX12_count_10 : decode cX12_count 10 = .ok (.tableswitch 96 3 11 #[50, 96, 96, 96, 96, 73, 78, 83, 91], 50) := by decide +kernel
theorem dX12_count_60 : decode cX12_count 60 = .ok (.aload_n 0, 1) := by decide +kernel
theorem dX12_count_61 : decode cX12_count 61 = .ok (.getfield 13, 3) := by decide +kernel
theorem dX12_count_64 : decode cX12_count 64 = .ok (.iconst 3, 1) := by decide +kernel
theorem dX12_count_65 : decode cX12_count 65 = .ok (.iaload, 1) := by decide +kernel
theorem dX12_count_66 : decode cX12_count 66 = .ok (.iconst 1, 1) := by decide +kernel
theorem dX12_count_67 : decode cX12_count 67 = .ok (.if_icmp .ne 14, 3) := by decide +kernel
theorem dX12_count_70 : decode cX12_count 70 = .ok (.aload_n 0, 1) := by decide +kernel
theorem dX12_count_71 : decode cX12_count 71 = .ok (.getfield 13, 3) := by decide +kernel
theorem dX12_count_74 : decode cX12_count 74 = .ok (.sipush 492, 3) := by decide +kernel
theorem dX12_count_77 : decode cX12_count 77 = .ok (.iaload, 1) := by decide +kernel
theorem dX12_count_78 : decode cX12_count 78 = .ok (.goto 4, 3) := by decide +kernel
theorem dX12_count_81 : decode cX12_count 81 = .ok (.iconst (-1), 1) := by decide +kernel
theorem dX12_count_82 : decode cX12_count 82 = .ok (.ireturn, 1) := by decide +kernel
theorem dX12_count_83 : decode cX12_count 83 = .ok (.aload_n 0, 1) := by decide +kernel
theorem dX12_count_84 : decode cX12_count 84 = .ok (.invokevirtual 362, 3) := by decide +kernel
theorem dX12_count_87 : decode cX12_count 87 = .ok (.ireturn, 1) := by decide +kernel
theorem dX12_count_88 : decode cX12_count 88 = .ok (.aload_n 0, 1) := by decide +kernel
theorem dX12_count_89 : decode cX12_count 89 = .ok (.invokevirtual 389, 3) := by decide +kernel
theorem dX12_count_92 : decode cX12_count 92 = .ok (.ireturn, 1) := by decide +kernel
theorem dX12_count_93 : decode cX12_count 93 = .ok (.aload_n 0, 1) := by decide +kernel
theorem dX12_count_94 : decode cX12_count 94 = .ok (.getfield 13, 3) := by decide +kernel
theorem dX12_count_97 : decode cX12_count 97 = .ok (.bipush 8, 2) := by decide +kernel
theorem dX12_count_99 : decode cX12_count 99 = .ok (.iaload, 1) := by decide +kernel
theorem dX12_count_100 : decode cX12_count 100 = .ok (.ireturn, 1) := by decide +kernel
theorem dX12_count_101 : decode cX12_count 101 = .ok (.aload_n 0, 1) := by decide +kernel
theorem dX12_count_102 : decode cX12_count 102 = .ok (.getfield 71, 3) := by decide +kernel
theorem dX12_count_105 : decode cX12_count 105 = .ok (.ireturn, 1) := by decide +kernel
theorem dX12_count_106 : decode cX12_count 106 = .ok (.iload_n 1, 1) := by decide +kernel
theorem dX12_count_107 : decode cX12_count 107 = .ok (.iconst 0, 1) := by decide +kernel
theorem dX12_count_108 : decode cX12_count 108 = .ok (.bipush 7, 2) := by decide +kernel
theorem dX12_count_110 : decode cX12_count 110 = .ok (.invokestatic 95, 3) := by decide +kernel
theorem dX12_count_113 : decode cX12_count 113 = .ok (.ifCond .eq 12, 3) := by decide +kernel
theorem dX12_count_116 : decode cX12_count 116 = .ok (.aload_n 0, 1) := by decide +kernel
theorem dX12_count_117 : decode cX12_count 117 = .ok (.getfield 13, 3) := by decide +kernel
theorem dX12_count_120 : decode cX12_count 120 = .ok (.iload_n 1, 1) := by decide +kernel
theorem dX12_count_121 : decode cX12_count 121 = .ok (.iaload, 1) := by decide +kernel
theorem dX12_count_122 : decode cX12_count 122 = .ok (.goto 4, 3) := by decide +kernel
theorem dX12_count_125 : decode cX12_count 125 = .ok (.iconst (-1), 1) := by decide +kernel
theorem dX12_count_126 : decode cX12_count 126 = .ok (.ireturn, 1) := by decide +kernel
set_option maxRecDepth 100000 in
set_option maxHeartbeats 200000 in
theorem T_X12_count_106 {X : CX} (hX : Ok X cX12_count 2 RX12 (some .int)) (hdx : dX X = 7) {r : Int32 × Hp} (x1 : Int32) (h : Hp) (hf : F_X12_count_106 x1 h = some r) : J X ((.inl (some (.int r.1)), r.2)) 106 [(0, .ref 30), (1, .int x1)] [] h := by
  unfold F_X12_count_106 at hf
  refine J_iload_n hX 1 dX12_count_106 rfl rfl ?_
  refine J_iconst hX 0 dX12_count_107 rfl ?_
  refine J_bipush hX 7 dX12_count_108 rfl ?_
  refine S_1 hX [.int x1, .int 0, .int 7] dX12_count_110 cw_X12_95 (C_X12_in (okG hX) rfl) (ltD hdx rfl) rfl rfl rfl rfl ?_
  rcases ifE hf with ⟨c_1, hf⟩ | ⟨c_1, hf⟩
  · refine J_if_eqF hX 125 dX12_count_113 rfl (b2iT c_1) ?_
    refine J_aload_n hX 0 dX12_count_116 rfl rfl ?_
    refine J_getR hX 31 dX12_count_117 fl_X12_13 ob_30 rfl rfl ?_
    refine J_iload_n hX 1 dX12_count_120 rfl rfl ?_
    obtain ⟨g_2, hf⟩ := gdE hf
    refine J_ald hX x1.toNatClampNeg dX12_count_121 ar_31 (Or.inl ⟨rfl, rfl⟩) g_2 rfl ?_
    refine J_goto hX 126 dX12_count_122 rfl ?_
    exact E_Ii hX dX12_count_126 hf
  · refine J_if_eqT hX 125 dX12_count_113 rfl (b2iF c_1) ?_
    refine J_iconst hX (-1) dX12_count_125 rfl ?_
    exact E_Ii hX dX12_count_126 hf
set_option maxRecDepth 100000 in
set_option maxHeartbeats 200000 in
theorem T_X12_count_0 {X : CX} (hX : Ok X cX12_count 2 RX12 (some .int)) (hdx : dX X = 7) {r : Int32 × Hp} (x1 : Int32) (h : Hp) (hf : f_X12_count x1 h = some r) : J X ((.inl (some (.int r.1)), r.2)) 0 [(0, .ref 30), (1, .int x1)] [] h := by
  unfold f_X12_count at hf
  refine J_aload_n hX 0 dX12_count_0 rfl rfl ?_
  refine J_iconst hX 0 dX12_count_1 rfl ?_
  obtain ⟨h_1, e_2, hf⟩ := bndE hf
  refine J_putI hX dX12_count_2 fl_X12_3 fw_10_0 ob_30 rfl rfl rfl ?_
  refine J_nmh e_2 ?_
  refine J_aload_n hX 0 dX12_count_5 rfl rfl ?_
  obtain ⟨r_3, e_4, hf⟩ := bdE hf
  refine V_0 hX [] dX12_count_6 cw_X12_347 ob_30 rfl (C_X12_lays (okG hX) e_4) (ltD hdx rfl) rfl rfl rfl rfl ?_
  refine J_iload_n hX 1 dX12_count_9 rfl rfl ?_
  rcases ifE hf with ⟨c_5, hf⟩ | ⟨c_5, hf⟩
  · refine J_nm c_5 ?_
    refine J_switchIn hX (off := 50) 60 dX12_count_10 (by decide) (by decide) (by decide) rfl ?_
    refine J_aload_n hX 0 dX12_count_60 rfl rfl ?_
    refine J_getR hX 31 dX12_count_61 fl_X12_13 ob_30 rfl rfl ?_
    refine J_iconst hX 3 dX12_count_64 rfl ?_
    refine J_ald hX 3 dX12_count_65 ar_31 (Or.inl ⟨rfl, rfl⟩) (by decide) (by decide) ?_
    refine J_iconst hX 1 dX12_count_66 rfl ?_
    rcases ifE hf with ⟨c_6, hf⟩ | ⟨c_6, hf⟩
    · refine J_icmp_neF hX 81 dX12_count_67 rfl c_6 ?_
      refine J_aload_n hX 0 dX12_count_70 rfl rfl ?_
      refine J_getR hX 31 dX12_count_71 fl_X12_13 ob_30 rfl rfl ?_
      refine J_sipush hX 492 dX12_count_74 rfl ?_
      refine J_ald hX 492 dX12_count_77 ar_31 (Or.inl ⟨rfl, rfl⟩) (by decide) (by decide) ?_
      refine J_goto hX 82 dX12_count_78 rfl ?_
      exact E_Ii hX dX12_count_82 hf
    · refine J_icmp_neT hX 81 dX12_count_67 rfl c_6 ?_
      refine J_iconst hX (-1) dX12_count_81 rfl ?_
      exact E_Ii hX dX12_count_82 hf
  rcases ifE hf with ⟨c_7, hf⟩ | ⟨c_7, hf⟩
  · refine J_nm c_7 ?_
    refine J_switchIn hX (off := 96) 106 dX12_count_10 (by decide) (by decide) (by decide) rfl ?_
    exact T_X12_count_106 hX hdx x1 r_3 hf
  rcases ifE hf with ⟨c_8, hf⟩ | ⟨c_8, hf⟩
  · refine J_nm c_8 ?_
    refine J_switchIn hX (off := 96) 106 dX12_count_10 (by decide) (by decide) (by decide) rfl ?_
    exact T_X12_count_106 hX hdx x1 r_3 hf
  rcases ifE hf with ⟨c_9, hf⟩ | ⟨c_9, hf⟩
  · refine J_nm c_9 ?_
    refine J_switchIn hX (off := 96) 106 dX12_count_10 (by decide) (by decide) (by decide) rfl ?_
    exact T_X12_count_106 hX hdx x1 r_3 hf
  rcases ifE hf with ⟨c_10, hf⟩ | ⟨c_10, hf⟩
  · refine J_nm c_10 ?_
    refine J_switchIn hX (off := 96) 106 dX12_count_10 (by decide) (by decide) (by decide) rfl ?_
    exact T_X12_count_106 hX hdx x1 r_3 hf
  rcases ifE hf with ⟨c_11, hf⟩ | ⟨c_11, hf⟩
  · refine J_nm c_11 ?_
    refine J_switchIn hX (off := 73) 83 dX12_count_10 (by decide) (by decide) (by decide) rfl ?_
    refine J_aload_n hX 0 dX12_count_83 rfl rfl ?_
    obtain ⟨r_12, e_13, hf⟩ := bdE hf
    refine V_1 hX [] dX12_count_84 cw_X12_362 ob_30 rfl (C_X12_standing (okG hX) e_13) (ltD hdx rfl) rfl rfl rfl rfl ?_
    exact E_Ii hX dX12_count_87 hf
  rcases ifE hf with ⟨c_14, hf⟩ | ⟨c_14, hf⟩
  · refine J_nm c_14 ?_
    refine J_switchIn hX (off := 78) 88 dX12_count_10 (by decide) (by decide) (by decide) rfl ?_
    refine J_aload_n hX 0 dX12_count_88 rfl rfl ?_
    obtain ⟨r_15, e_16, hf⟩ := bdE hf
    refine V_1 hX [] dX12_count_89 cw_X12_389 ob_30 rfl (C_X12_bearsAll (okG hX) e_16) (ltD hdx rfl) rfl rfl rfl rfl ?_
    exact E_Ii hX dX12_count_92 hf
  rcases ifE hf with ⟨c_17, hf⟩ | ⟨c_17, hf⟩
  · refine J_nm c_17 ?_
    refine J_switchIn hX (off := 83) 93 dX12_count_10 (by decide) (by decide) (by decide) rfl ?_
    refine J_aload_n hX 0 dX12_count_93 rfl rfl ?_
    refine J_getR hX 31 dX12_count_94 fl_X12_13 ob_30 rfl rfl ?_
    refine J_bipush hX 8 dX12_count_97 rfl ?_
    refine J_ald hX 8 dX12_count_99 ar_31 (Or.inl ⟨rfl, rfl⟩) (by decide) (by decide) ?_
    exact E_Ii hX dX12_count_100 hf
  rcases ifE hf with ⟨c_18, hf⟩ | ⟨c_18, hf⟩
  · refine J_nm c_18 ?_
    refine J_switchIn hX (off := 91) 101 dX12_count_10 (by decide) (by decide) (by decide) rfl ?_
    refine J_aload_n hX 0 dX12_count_101 rfl rfl ?_
    refine J_getI hX dX12_count_102 fl_X12_71 ob_30 rfl ?_
    exact E_Ii hX dX12_count_105 hf
  refine J_switchOut hX 106 dX12_count_10 (sw_def 3 11 x1 (fun v_ a_ b_ => ?_)) rfl ?_
  · rcases (show v_ = 3 ∨ v_ = 4 ∨ v_ = 5 ∨ v_ = 6 ∨ v_ = 7 ∨ v_ = 8 ∨ v_ = 9 ∨ v_ = 10 ∨ v_ = 11 by omega) with rfl | rfl | rfl | rfl | rfl | rfl | rfl | rfl | rfl
    · exact c_5
    · exact c_7
    · exact c_8
    · exact c_9
    · exact c_10
    · exact c_11
    · exact c_14
    · exact c_17
    · exact c_18
  exact T_X12_count_106 hX hdx x1 r_3 hf
set_option maxRecDepth 100000 in
set_option maxHeartbeats 200000 in
theorem C_X12_count {G : GX} (hG : GOk G) {x1 : Int32} {h : Hp} {r : Int32 × Hp} (hf : f_X12_count x1 h = some r) : Ctr G 7 yX12_count cX12_count 2 (some .int) [.ref 30, .int x1] h ((.inl (some (.int r.1)), r.2)) :=
  Ctr_of hG RX12 rfl (by decide) rfl (fun X _ hdx hX => T_X12_count_0 hX hdx x1 h hf)
