theorem dX11_down_0 : decode cX11_down 0 = .ok (.aload_n 0, 1) := by decide +kernel
theorem dX11_down_1 : decode cX11_down 1 = .ok (.getfield 23, 3) := by decide +kernel
theorem dX11_down_4 : decode cX11_down 4 = .ok (.aload_n 0, 1) := by decide +kernel
theorem dX11_down_5 : decode cX11_down 5 = .ok (.getfield 19, 3) := by decide +kernel
theorem dX11_down_8 : decode cX11_down 8 = .ok (.invokevirtual 82, 3) := by decide +kernel
theorem dX11_down_11 : decode cX11_down 11 = .ok (.iconst 1, 1) := by decide +kernel
theorem dX11_down_12 : decode cX11_down 12 = .ok (.istore_n 1, 1) := by decide +kernel
theorem dX11_down_13 : decode cX11_down 13 = .ok (.iload_n 1, 1) := by decide +kernel
theorem dX11_down_14 : decode cX11_down 14 = .ok (.bipush 70, 2) := by decide +kernel
theorem dX11_down_16 : decode cX11_down 16 = .ok (.if_icmp .gt 44, 3) := by decide +kernel
theorem dX11_down_19 : decode cX11_down 19 = .ok (.aload_n 0, 1) := by decide +kernel
theorem dX11_down_20 : decode cX11_down 20 = .ok (.getfield 39, 3) := by decide +kernel
theorem dX11_down_23 : decode cX11_down 23 = .ok (.aload_n 0, 1) := by decide +kernel
theorem dX11_down_24 : decode cX11_down 24 = .ok (.getfield 23, 3) := by decide +kernel
theorem dX11_down_27 : decode cX11_down 27 = .ok (.aload_n 0, 1) := by decide +kernel
theorem dX11_down_28 : decode cX11_down 28 = .ok (.getfield 29, 3) := by decide +kernel
theorem dX11_down_31 : decode cX11_down 31 = .ok (.iconst 0, 1) := by decide +kernel
theorem dX11_down_32 : decode cX11_down 32 = .ok (.invokevirtual 375, 3) := by decide +kernel
theorem dX11_down_35 : decode cX11_down 35 = .ok (.aload_n 0, 1) := by decide +kernel
theorem dX11_down_36 : decode cX11_down 36 = .ok (.getfield 23, 3) := by decide +kernel
theorem dX11_down_39 : decode cX11_down 39 = .ok (.getfield 229, 3) := by decide +kernel
theorem dX11_down_42 : decode cX11_down 42 = .ok (.aload_n 0, 1) := by decide +kernel
theorem dX11_down_43 : decode cX11_down 43 = .ok (.getfield 19, 3) := by decide +kernel
theorem dX11_down_46 : decode cX11_down 46 = .ok (.getfield 229, 3) := by decide +kernel
theorem dX11_down_49 : decode cX11_down 49 = .ok (.if_icmp .eq 5, 3) := by decide +kernel
theorem dX11_down_52 : decode cX11_down 52 = .ok (.iload_n 1, 1) := by decide +kernel
theorem dX11_down_53 : decode cX11_down 53 = .ok (.ireturn, 1) := by decide +kernel
theorem dX11_down_54 : decode cX11_down 54 = .ok (.iinc 1 1, 3) := by decide +kernel
theorem dX11_down_57 : decode cX11_down 57 = .ok (.goto (-44), 3) := by decide +kernel
theorem dX11_down_60 : decode cX11_down 60 = .ok (.iconst (-1), 1) := by decide +kernel
theorem dX11_down_61 : decode cX11_down 61 = .ok (.ireturn, 1) := by decide +kernel
set_option maxRecDepth 100000 in
set_option maxHeartbeats 200000 in
theorem T_X11_down_13_s {X : CX} (hX : Ok X cX11_down 2 RX11 (some .int)) (hdx : dX X = 8) {r : Int32 × Hp} (q_13 : Int32 → Hp → Option (Int32 × Hp)) (hq_13 : ∀ (x1 : Int32) (h : Hp), q_13 x1 h = some r → J X ((.inl (some (.int r.1)), r.2)) 13 [(0, .ref 1), (1, .int x1)] [] h) (x1 : Int32) (h : Hp) (hf : S_X11_down_13 q_13 x1 h = some r) : J X ((.inl (some (.int r.1)), r.2)) 13 [(0, .ref 1), (1, .int x1)] [] h := by
  unfold S_X11_down_13 at hf
  refine J_iload_n hX 1 dX11_down_13 rfl rfl ?_
  refine J_bipush hX 70 dX11_down_14 rfl ?_
  rcases ifE hf with ⟨c_1, hf⟩ | ⟨c_1, hf⟩
  · refine J_icmp_gtT hX 60 dX11_down_16 rfl c_1 ?_
    refine J_iconst hX (-1) dX11_down_60 rfl ?_
    exact E_Ii hX dX11_down_61 hf
  · refine J_icmp_gtF hX 60 dX11_down_16 rfl c_1 ?_
    refine J_aload_n hX 0 dX11_down_19 rfl rfl ?_
    refine J_getR hX 4 dX11_down_20 fl_X11_39 ob_1 rfl rfl ?_
    refine J_aload_n hX 0 dX11_down_23 rfl rfl ?_
    refine J_getR hX 116 dX11_down_24 fl_X11_23 ob_1 rfl rfl ?_
    refine J_aload_n hX 0 dX11_down_27 rfl rfl ?_
    refine J_getR hX 500 dX11_down_28 fl_X11_29 ob_1 rfl rfl ?_
    refine J_iconst hX 0 dX11_down_31 rfl ?_
    obtain ⟨r_2, e_3, hf⟩ := bdE hf
    refine V_0 hX [.ref 116, .ref 500, .int 0] dX11_down_32 cw_X11_375 ob_4 rfl (C_X3_pass (okG hX) isc_116 isl_500 e_3) (ltD hdx rfl) rfl rfl rfl rfl ?_
    refine J_aload_n hX 0 dX11_down_35 rfl rfl ?_
    refine J_getR hX 116 dX11_down_36 fl_X11_23 ob_1 rfl rfl ?_
    refine J_getI hX dX11_down_39 fl_X11_229 (city_ob isc_116) rfl ?_
    refine J_aload_n hX 0 dX11_down_42 rfl rfl ?_
    refine J_getR hX 100 dX11_down_43 fl_X11_19 ob_1 rfl rfl ?_
    refine J_getI hX dX11_down_46 fl_X11_229 (city_ob isc_100) rfl ?_
    rcases ifE hf with ⟨c_4, hf⟩ | ⟨c_4, hf⟩
    · refine J_icmp_eqT hX 54 dX11_down_49 rfl c_4 ?_
      refine J_iinc hX (x1 + 1) 1 [(1, .int (x1 + 1)), (0, .ref 1)] dX11_down_54 rfl rfl rfl rfl ?_
      refine J_goto hX 13 dX11_down_57 rfl ?_
      refine J_sub [1, 0] [(0, .ref 1), (1, .int (x1 + 1))] rfl ?_
      exact hq_13 (x1 + 1) r_2 hf
    · refine J_icmp_eqF hX 54 dX11_down_49 rfl c_4 ?_
      refine J_iload_n hX 1 dX11_down_52 rfl rfl ?_
      exact E_Ii hX dX11_down_53 hf
set_option maxRecDepth 100000 in
set_option maxHeartbeats 200000 in
theorem T_X11_down_13 {X : CX} (hX : Ok X cX11_down 2 RX11 (some .int)) (hdx : dX X = 8) {r : Int32 × Hp} : ∀ (n : Nat) (x1 : Int32) (h : Hp), F_X11_down_13 n x1 h = some r → J X ((.inl (some (.int r.1)), r.2)) 13 [(0, .ref 1), (1, .int x1)] [] h := by
  intro n
  induction n with
  | zero => intro x1 h hf; exact nomatch hf
  | succ n ih => intro x1 h hf; exact T_X11_down_13_s hX hdx _ (fun x1 h hf => ih x1 h hf) x1 h hf
set_option maxRecDepth 100000 in
set_option maxHeartbeats 200000 in
theorem T_X11_down_0 {X : CX} (hX : Ok X cX11_down 2 RX11 (some .int)) (hdx : dX X = 8) {r : Int32 × Hp} (h : Hp) (hf : f_X11_down h = some r) : J X ((.inl (some (.int r.1)), r.2)) 0 [(0, .ref 1)] [] h := by
  unfold f_X11_down at hf
  refine J_aload_n hX 0 dX11_down_0 rfl rfl ?_
  refine J_getR hX 116 dX11_down_1 fl_X11_23 ob_1 rfl rfl ?_
  refine J_aload_n hX 0 dX11_down_4 rfl rfl ?_
  refine J_getR hX 100 dX11_down_5 fl_X11_19 ob_1 rfl rfl ?_
  obtain ⟨r_1, e_2, hf⟩ := bdE hf
  refine V_0 hX [.ref 100] dX11_down_8 cw_X11_82 (city_ob isc_116) rfl (C_X1_copyFrom (okG hX) isc_116 isc_100 e_2) (ltD hdx rfl) rfl rfl rfl rfl ?_
  refine J_iconst hX 1 dX11_down_11 rfl ?_
  refine J_istore_n hX [(1, .int 1), (0, .ref 1)] dX11_down_12 rfl rfl rfl ?_
  refine J_sub [1, 0] [(0, .ref 1), (1, .int 1)] rfl ?_
  exact T_X11_down_13 hX hdx FU 1 r_1 hf
set_option maxRecDepth 100000 in
set_option maxHeartbeats 200000 in
theorem C_X11_down {G : GX} (hG : GOk G) {h : Hp} {r : Int32 × Hp} (hf : f_X11_down h = some r) : Ctr G 8 yX11_down cX11_down 2 (some .int) [.ref 1] h ((.inl (some (.int r.1)), r.2)) :=
  Ctr_of hG RX11 rfl (by decide) rfl (fun X _ hdx hX => T_X11_down_0 hX hdx h hf)
theorem dX11_ahead_0 : decode cX11_ahead 0 = .ok (.iload_n 1, 1) := by decide +kernel
theorem dX11_ahead_1 : decode cX11_ahead 1 = .ok (.iconst 0, 1) := by decide +kernel
theorem dX11_ahead_2 : decode cX11_ahead 2 = .ok (.bipush 70, 2) := by decide +kernel
theorem dX11_ahead_4 : decode cX11_ahead 4 = .ok (.invokestatic 241, 3) := by decide +kernel
theorem dX11_ahead_7 : decode cX11_ahead 7 = .ok (.aload_n 0, 1) := by decide +kernel
theorem dX11_ahead_8 : decode cX11_ahead 8 = .ok (.getfield 23, 3) := by decide +kernel
theorem dX11_ahead_11 : decode cX11_ahead 11 = .ok (.aload_n 0, 1) := by decide +kernel
theorem dX11_ahead_12 : decode cX11_ahead 12 = .ok (.getfield 19, 3) := by decide +kernel
theorem dX11_ahead_15 : decode cX11_ahead 15 = .ok (.invokevirtual 82, 3) := by decide +kernel
theorem dX11_ahead_18 : decode cX11_ahead 18 = .ok (.aload_n 0, 1) := by decide +kernel
theorem dX11_ahead_19 : decode cX11_ahead 19 = .ok (.getfield 39, 3) := by decide +kernel
theorem dX11_ahead_22 : decode cX11_ahead 22 = .ok (.aload_n 0, 1) := by decide +kernel
theorem dX11_ahead_23 : decode cX11_ahead 23 = .ok (.getfield 23, 3) := by decide +kernel
theorem dX11_ahead_26 : decode cX11_ahead 26 = .ok (.aload_n 0, 1) := by decide +kernel
theorem dX11_ahead_27 : decode cX11_ahead 27 = .ok (.getfield 29, 3) := by decide +kernel
theorem dX11_ahead_30 : decode cX11_ahead 30 = .ok (.iload_n 1, 1) := by decide +kernel
theorem dX11_ahead_31 : decode cX11_ahead 31 = .ok (.iconst 0, 1) := by decide +kernel
theorem dX11_ahead_32 : decode cX11_ahead 32 = .ok (.invokevirtual 253, 3) := by decide +kernel
theorem dX11_ahead_35 : decode cX11_ahead 35 = .ok (.aload_n 0, 1) := by decide +kernel
theorem dX11_ahead_36 : decode cX11_ahead 36 = .ok (.getfield 23, 3) := by decide +kernel
theorem dX11_ahead_39 : decode cX11_ahead 39 = .ok (.getfield 229, 3) := by decide +kernel
theorem dX11_ahead_42 : decode cX11_ahead 42 = .ok (.ireturn, 1) := by decide +kernel
set_option maxRecDepth 100000 in
set_option maxHeartbeats 200000 in
theorem T_X11_ahead_0 {X : CX} (hX : Ok X cX11_ahead 2 RX11 (some .int)) (hdx : dX X = 11) {r : Except String Int32 × Hp} (x1 : Int32) (h : Hp) (hf : f_X11_ahead x1 h = some r) : J X (oX tvI r) 0 [(0, .ref 1), (1, .int x1)] [] h := by
  unfold f_X11_ahead at hf
  refine J_iload_n hX 1 dX11_ahead_0 rfl rfl ?_
  refine J_iconst hX 0 dX11_ahead_1 rfl ?_
  refine J_bipush hX 70 dX11_ahead_2 rfl ?_
  obtain ⟨r_1, e_2, hf⟩ := bdE hf
  rcases exE hf with ⟨v_3, h_4, z_6, hg⟩ | ⟨E_5, h_4, z_6, z_6r⟩
  all_goals clear hf
  rotate_left
  · subst z_6
    exact S_kx hX [.int x1, .int 0, .int 70] dX11_ahead_4 cw_X11_241 (C_X11_checkAmount (okG hX) e_2) (ltD hdx rfl) rfl rfl rfl rfl z_6r
  subst z_6
  have hf := hg
  clear hg
  refine S_k0 hX [.int x1, .int 0, .int 70] dX11_ahead_4 cw_X11_241 (C_X11_checkAmount (okG hX) e_2) (ltD hdx rfl) rfl rfl rfl rfl rfl ?_
  refine J_aload_n hX 0 dX11_ahead_7 rfl rfl ?_
  refine J_getR hX 116 dX11_ahead_8 fl_X11_23 ob_1 rfl rfl ?_
  refine J_aload_n hX 0 dX11_ahead_11 rfl rfl ?_
  refine J_getR hX 100 dX11_ahead_12 fl_X11_19 ob_1 rfl rfl ?_
  obtain ⟨r_7, e_8, hf⟩ := bdE hf
  refine V_0 hX [.ref 100] dX11_ahead_15 cw_X11_82 (city_ob isc_116) rfl (C_X1_copyFrom (okG hX) isc_116 isc_100 e_8) (ltD hdx rfl) rfl rfl rfl rfl ?_
  refine J_aload_n hX 0 dX11_ahead_18 rfl rfl ?_
  refine J_getR hX 4 dX11_ahead_19 fl_X11_39 ob_1 rfl rfl ?_
  refine J_aload_n hX 0 dX11_ahead_22 rfl rfl ?_
  refine J_getR hX 116 dX11_ahead_23 fl_X11_23 ob_1 rfl rfl ?_
  refine J_aload_n hX 0 dX11_ahead_26 rfl rfl ?_
  refine J_getR hX 500 dX11_ahead_27 fl_X11_29 ob_1 rfl rfl ?_
  refine J_iload_n hX 1 dX11_ahead_30 rfl rfl ?_
  refine J_iconst hX 0 dX11_ahead_31 rfl ?_
  obtain ⟨r_9, e_10, hf⟩ := bdE hf
  refine V_0 hX [.ref 116, .ref 500, .int x1, .int 0] dX11_ahead_32 cw_X11_253 ob_4 rfl (C_X3_run (okG hX) isc_116 isl_500 e_10) (ltD hdx rfl) rfl rfl rfl rfl ?_
  refine J_aload_n hX 0 dX11_ahead_35 rfl rfl ?_
  refine J_getR hX 116 dX11_ahead_36 fl_X11_23 ob_1 rfl rfl ?_
  refine J_getI hX dX11_ahead_39 fl_X11_229 (city_ob isc_116) rfl ?_
  exact E_Ix hX dX11_ahead_42 hf
set_option maxRecDepth 100000 in
set_option maxHeartbeats 200000 in
theorem C_X11_ahead {G : GX} (hG : GOk G) {x1 : Int32} {h : Hp} {r : Except String Int32 × Hp} (hf : f_X11_ahead x1 h = some r) : Ctr G 11 yX11_ahead cX11_ahead 2 (some .int) [.ref 1, .int x1] h (oX tvI r) :=
  Ctr_of hG RX11 rfl (by decide) rfl (fun X _ hdx hX => T_X11_ahead_0 hX hdx x1 h hf)
theorem dX11_trial_0 : decode cX11_trial 0 = .ok (.iload_n 1, 1) := by decide +kernel
theorem dX11_trial_1 : decode cX11_trial 1 = .ok (.iconst 0, 1) := by decide +kernel
theorem dX11_trial_2 : decode cX11_trial 2 = .ok (.bipush 70, 2) := by decide +kernel
theorem dX11_trial_4 : decode cX11_trial 4 = .ok (.invokestatic 241, 3) := by decide +kernel
theorem dX11_trial_7 : decode cX11_trial 7 = .ok (.aload_n 0, 1) := by decide +kernel
theorem dX11_trial_8 : decode cX11_trial 8 = .ok (.getfield 23, 3) := by decide +kernel
theorem dX11_trial_11 : decode cX11_trial 11 = .ok (.aload_n 0, 1) := by decide +kernel
theorem dX11_trial_12 : decode cX11_trial 12 = .ok (.getfield 19, 3) := by decide +kernel
theorem dX11_trial_15 : decode cX11_trial 15 = .ok (.invokevirtual 82, 3) := by decide +kernel
theorem dX11_trial_18 : decode cX11_trial 18 = .ok (.aload_n 0, 1) := by decide +kernel
theorem dX11_trial_19 : decode cX11_trial 19 = .ok (.getfield 39, 3) := by decide +kernel
theorem dX11_trial_22 : decode cX11_trial 22 = .ok (.aload_n 0, 1) := by decide +kernel
theorem dX11_trial_23 : decode cX11_trial 23 = .ok (.getfield 23, 3) := by decide +kernel
theorem dX11_trial_26 : decode cX11_trial 26 = .ok (.aload_n 0, 1) := by decide +kernel
theorem dX11_trial_27 : decode cX11_trial 27 = .ok (.getfield 29, 3) := by decide +kernel
theorem dX11_trial_30 : decode cX11_trial 30 = .ok (.iload_n 1, 1) := by decide +kernel
theorem dX11_trial_31 : decode cX11_trial 31 = .ok (.iconst 1, 1) := by decide +kernel
theorem dX11_trial_32 : decode cX11_trial 32 = .ok (.invokevirtual 253, 3) := by decide +kernel
theorem dX11_trial_35 : decode cX11_trial 35 = .ok (.iload_n 2, 1) := by decide +kernel
theorem dX11_trial_36 : decode cX11_trial 36 = .ok (.ifCond .eq 13, 3) := by decide +kernel
theorem dX11_trial_39 : decode cX11_trial 39 = .ok (.aload_n 0, 1) := by decide +kernel
theorem dX11_trial_40 : decode cX11_trial 40 = .ok (.getfield 23, 3) := by decide +kernel
theorem dX11_trial_43 : decode cX11_trial 43 = .ok (.invokevirtual 379, 3) := by decide +kernel
theorem dX11_trial_46 : decode cX11_trial 46 = .ok (.goto 10, 3) := by decide +kernel
theorem dX11_trial_49 : decode cX11_trial 49 = .ok (.aload_n 0, 1) := by decide +kernel
theorem dX11_trial_50 : decode cX11_trial 50 = .ok (.getfield 23, 3) := by decide +kernel
theorem dX11_trial_53 : decode cX11_trial 53 = .ok (.getfield 229, 3) := by decide +kernel
theorem dX11_trial_56 : decode cX11_trial 56 = .ok (.ireturn, 1) := by decide +kernel
set_option maxRecDepth 100000 in
set_option maxHeartbeats 200000 in
theorem T_X11_trial_0 {X : CX} (hX : Ok X cX11_trial 3 RX11 (some .int)) (hdx : dX X = 11) {r : Except String Int32 × Hp} (x1 : Int32) (x2 : Int32) (h : Hp) (hf : f_X11_trial x1 x2 h = some r) : J X (oX tvI r) 0 [(0, .ref 1), (1, .int x1), (2, .int x2)] [] h := by
  unfold f_X11_trial at hf
  refine J_iload_n hX 1 dX11_trial_0 rfl rfl ?_
  refine J_iconst hX 0 dX11_trial_1 rfl ?_
  refine J_bipush hX 70 dX11_trial_2 rfl ?_
  obtain ⟨r_1, e_2, hf⟩ := bdE hf
  rcases exE hf with ⟨v_3, h_4, z_6, hg⟩ | ⟨E_5, h_4, z_6, z_6r⟩
  all_goals clear hf
  rotate_left
  · subst z_6
    exact S_kx hX [.int x1, .int 0, .int 70] dX11_trial_4 cw_X11_241 (C_X11_checkAmount (okG hX) e_2) (ltD hdx rfl) rfl rfl rfl rfl z_6r
  subst z_6
  have hf := hg
  clear hg
  refine S_k0 hX [.int x1, .int 0, .int 70] dX11_trial_4 cw_X11_241 (C_X11_checkAmount (okG hX) e_2) (ltD hdx rfl) rfl rfl rfl rfl rfl ?_
  refine J_aload_n hX 0 dX11_trial_7 rfl rfl ?_
  refine J_getR hX 116 dX11_trial_8 fl_X11_23 ob_1 rfl rfl ?_
  refine J_aload_n hX 0 dX11_trial_11 rfl rfl ?_
  refine J_getR hX 100 dX11_trial_12 fl_X11_19 ob_1 rfl rfl ?_
  obtain ⟨r_7, e_8, hf⟩ := bdE hf
  refine V_0 hX [.ref 100] dX11_trial_15 cw_X11_82 (city_ob isc_116) rfl (C_X1_copyFrom (okG hX) isc_116 isc_100 e_8) (ltD hdx rfl) rfl rfl rfl rfl ?_
  refine J_aload_n hX 0 dX11_trial_18 rfl rfl ?_
  refine J_getR hX 4 dX11_trial_19 fl_X11_39 ob_1 rfl rfl ?_
  refine J_aload_n hX 0 dX11_trial_22 rfl rfl ?_
  refine J_getR hX 116 dX11_trial_23 fl_X11_23 ob_1 rfl rfl ?_
  refine J_aload_n hX 0 dX11_trial_26 rfl rfl ?_
  refine J_getR hX 500 dX11_trial_27 fl_X11_29 ob_1 rfl rfl ?_
  refine J_iload_n hX 1 dX11_trial_30 rfl rfl ?_
  refine J_iconst hX 1 dX11_trial_31 rfl ?_
  obtain ⟨r_9, e_10, hf⟩ := bdE hf
  refine V_0 hX [.ref 116, .ref 500, .int x1, .int 1] dX11_trial_32 cw_X11_253 ob_4 rfl (C_X3_run (okG hX) isc_116 isl_500 e_10) (ltD hdx rfl) rfl rfl rfl rfl ?_
  refine J_iload_n hX 2 dX11_trial_35 rfl rfl ?_
  rcases ifE hf with ⟨c_11, hf⟩ | ⟨c_11, hf⟩
  · refine J_if_eqT hX 49 dX11_trial_36 rfl c_11 ?_
    refine J_aload_n hX 0 dX11_trial_49 rfl rfl ?_
    refine J_getR hX 116 dX11_trial_50 fl_X11_23 ob_1 rfl rfl ?_
    refine J_getI hX dX11_trial_53 fl_X11_229 (city_ob isc_116) rfl ?_
    exact E_Ix hX dX11_trial_56 hf
  · refine J_if_eqF hX 49 dX11_trial_36 rfl c_11 ?_
    refine J_aload_n hX 0 dX11_trial_39 rfl rfl ?_
    refine J_getR hX 116 dX11_trial_40 fl_X11_23 ob_1 rfl rfl ?_
    obtain ⟨r_12, e_13, hf⟩ := bdE hf
    refine V_1 hX [] dX11_trial_43 cw_X11_379 (city_ob isc_116) rfl (C_X1_holdOfAll (okG hX) isc_116 e_13) (ltD hdx rfl) rfl rfl rfl rfl ?_
    refine J_goto hX 56 dX11_trial_46 rfl ?_
    exact E_Ix hX dX11_trial_56 hf
set_option maxRecDepth 100000 in
set_option maxHeartbeats 200000 in
theorem C_X11_trial {G : GX} (hG : GOk G) {x1 : Int32} {x2 : Int32} {h : Hp} {r : Except String Int32 × Hp} (hf : f_X11_trial x1 x2 h = some r) : Ctr G 11 yX11_trial cX11_trial 3 (some .int) [.ref 1, .int x1, .int x2] h (oX tvI r) :=
  Ctr_of hG RX11 rfl (by decide) rfl (fun X _ hdx hX => T_X11_trial_0 hX hdx x1 x2 h hf)
theorem dX11_span_0 : decode cX11_span 0 = .ok (.iload_n 1, 1) := by decide +kernel
theorem dX11_span_1 : decode cX11_span 1 = .ok (.iconst 0, 1) := by decide +kernel
theorem dX11_span_2 : decode cX11_span 2 = .ok (.bipush 70, 2) := by decide +kernel
theorem dX11_span_4 : decode cX11_span 4 = .ok (.invokestatic 241, 3) := by decide +kernel
theorem dX11_span_7 : decode cX11_span 7 = .ok (.bipush 8, 2) := by decide +kernel
theorem dX11_span_9 : decode cX11_span 9 = .ok (.istore_n 3, 1) := by decide +kernel
theorem dX11_span_10 : decode cX11_span 10 = .ok (.iconst 0, 1) := by decide +kernel
theorem dX11_span_11 : decode cX11_span 11 = .ok (.istore 4, 2) := by decide +kernel
theorem dX11_span_13 : decode cX11_span 13 = .ok (.iconst 1, 1) := by decide +kernel
theorem dX11_span_14 : decode cX11_span 14 = .ok (.istore 5, 2) := by decide +kernel
theorem dX11_span_16 : decode cX11_span 16 = .ok (.iload 5, 2) := by decide +kernel
theorem dX11_span_18 : decode cX11_span 18 = .ok (.bipush 6, 2) := by decide +kernel
theorem dX11_span_20 : decode cX11_span 20 = .ok (.if_icmp .gt 74, 3) := by decide +kernel
theorem dX11_span_23 : decode cX11_span 23 = .ok (.aload_n 0, 1) := by decide +kernel
theorem dX11_span_24 : decode cX11_span 24 = .ok (.getfield 23, 3) := by decide +kernel
theorem dX11_span_27 : decode cX11_span 27 = .ok (.aload_n 0, 1) := by decide +kernel
theorem dX11_span_28 : decode cX11_span 28 = .ok (.getfield 19, 3) := by decide +kernel
theorem dX11_span_31 : decode cX11_span 31 = .ok (.invokevirtual 82, 3) := by decide +kernel
theorem dX11_span_34 : decode cX11_span 34 = .ok (.aload_n 0, 1) := by decide +kernel
theorem dX11_span_35 : decode cX11_span 35 = .ok (.getfield 23, 3) := by decide +kernel
theorem dX11_span_38 : decode cX11_span 38 = .ok (.iload 5, 2) := by decide +kernel
theorem dX11_span_40 : decode cX11_span 40 = .ok (.putfield 382, 3) := by decide +kernel
theorem dX11_span_43 : decode cX11_span 43 = .ok (.aload_n 0, 1) := by decide +kernel
theorem dX11_span_44 : decode cX11_span 44 = .ok (.getfield 39, 3) := by decide +kernel
theorem dX11_span_47 : decode cX11_span 47 = .ok (.aload_n 0, 1) := by decide +kernel
theorem dX11_span_48 : decode cX11_span 48 = .ok (.getfield 23, 3) := by decide +kernel
theorem dX11_span_51 : decode cX11_span 51 = .ok (.aload_n 0, 1) := by decide +kernel
theorem dX11_span_52 : decode cX11_span 52 = .ok (.getfield 29, 3) := by decide +kernel
theorem dX11_span_55 : decode cX11_span 55 = .ok (.iload_n 1, 1) := by decide +kernel
theorem dX11_span_56 : decode cX11_span 56 = .ok (.iconst 1, 1) := by decide +kernel
theorem dX11_span_57 : decode cX11_span 57 = .ok (.invokevirtual 253, 3) := by decide +kernel
theorem dX11_span_60 : decode cX11_span 60 = .ok (.aload_n 0, 1) := by decide +kernel
theorem dX11_span_61 : decode cX11_span 61 = .ok (.getfield 23, 3) := by decide +kernel
theorem dX11_span_64 : decode cX11_span 64 = .ok (.getfield 229, 3) := by decide +kernel
theorem dX11_span_67 : decode cX11_span 67 = .ok (.invokestatic 248, 3) := by decide +kernel
theorem dX11_span_70 : decode cX11_span 70 = .ok (.istore 6, 2) := by decide +kernel
theorem dX11_span_72 : decode cX11_span 72 = .ok (.iload_n 3, 1) := by decide +kernel
theorem dX11_span_73 : decode cX11_span 73 = .ok (.iload 6, 2) := by decide +kernel
theorem dX11_span_75 : decode cX11_span 75 = .ok (.invokestatic 385, 3) := by decide +kernel
theorem dX11_span_78 : decode cX11_span 78 = .ok (.istore_n 3, 1) := by decide +kernel
theorem dX11_span_79 : decode cX11_span 79 = .ok (.iload 4, 2) := by decide +kernel
theorem dX11_span_81 : decode cX11_span 81 = .ok (.iload 6, 2) := by decide +kernel
theorem dX11_span_83 : decode cX11_span 83 = .ok (.invokestatic 390, 3) := by decide +kernel
theorem dX11_span_86 : decode cX11_span 86 = .ok (.istore 4, 2) := by decide +kernel
theorem dX11_span_88 : decode cX11_span 88 = .ok (.iinc 5 1, 3) := by decide +kernel
theorem dX11_span_91 : decode cX11_span 91 = .ok (.goto (-75), 3) := by decide +kernel
theorem dX11_span_94 : decode cX11_span 94 = .ok (.iload_n 2, 1) := by decide +kernel
theorem dX11_span_95 : decode cX11_span 95 = .ok (.ifCond .eq 8, 3) := by decide +kernel
theorem dX11_span_98 : decode cX11_span 98 = .ok (.iload 4, 2) := by decide +kernel
theorem dX11_span_100 : decode cX11_span 100 = .ok (.goto 4, 3) := by decide +kernel
theorem dX11_span_103 : decode cX11_span 103 = .ok (.iload_n 3, 1) := by decide +kernel
theorem dX11_span_104 : decode cX11_span 104 = .ok (.ireturn, 1) := by decide +kernel
set_option maxRecDepth 100000 in
set_option maxHeartbeats 200000 in
theorem T_X11_span_16_s {X : CX} (hX : Ok X cX11_span 7 RX11 (some .int)) (hdx : dX X = 11) {r : Except String Int32 × Hp} (x1 : Int32) (x2 : Int32) (q_16 : Int32 → Int32 → Int32 → Hp → Option (Except String Int32 × Hp)) (hq_16 : ∀ (x3 : Int32) (x4 : Int32) (x5 : Int32) (h : Hp), q_16 x3 x4 x5 h = some r → J X (oX tvI r) 16 [(0, .ref 1), (1, .int x1), (2, .int x2), (3, .int x3), (4, .int x4), (5, .int x5)] [] h) (x3 : Int32) (x4 : Int32) (x5 : Int32) (h : Hp) (hf : S_X11_span_16 x1 x2 q_16 x3 x4 x5 h = some r) : J X (oX tvI r) 16 [(0, .ref 1), (1, .int x1), (2, .int x2), (3, .int x3), (4, .int x4), (5, .int x5)] [] h := by
  unfold S_X11_span_16 at hf
  refine J_iload hX 5 dX11_span_16 rfl ?_
  refine J_bipush hX 6 dX11_span_18 rfl ?_
  rcases ifE hf with ⟨c_1, hf⟩ | ⟨c_1, hf⟩
  · refine J_icmp_gtT hX 94 dX11_span_20 rfl c_1 ?_
    refine J_iload_n hX 2 dX11_span_94 rfl rfl ?_
    rcases ifE hf with ⟨c_2, hf⟩ | ⟨c_2, hf⟩
    · refine J_if_eqT hX 103 dX11_span_95 rfl c_2 ?_
      refine J_iload_n hX 3 dX11_span_103 rfl rfl ?_
      exact E_Ix hX dX11_span_104 hf
    · refine J_if_eqF hX 103 dX11_span_95 rfl c_2 ?_
      refine J_iload hX 4 dX11_span_98 rfl ?_
      refine J_goto hX 104 dX11_span_100 rfl ?_
      exact E_Ix hX dX11_span_104 hf
  · refine J_icmp_gtF hX 94 dX11_span_20 rfl c_1 ?_
    refine J_aload_n hX 0 dX11_span_23 rfl rfl ?_
    refine J_getR hX 116 dX11_span_24 fl_X11_23 ob_1 rfl rfl ?_
    refine J_aload_n hX 0 dX11_span_27 rfl rfl ?_
    refine J_getR hX 100 dX11_span_28 fl_X11_19 ob_1 rfl rfl ?_
    obtain ⟨r_3, e_4, hf⟩ := bdE hf
    refine V_0 hX [.ref 100] dX11_span_31 cw_X11_82 (city_ob isc_116) rfl (C_X1_copyFrom (okG hX) isc_116 isc_100 e_4) (ltD hdx rfl) rfl rfl rfl rfl ?_
    refine J_aload_n hX 0 dX11_span_34 rfl rfl ?_
    refine J_getR hX 116 dX11_span_35 fl_X11_23 ob_1 rfl rfl ?_
    refine J_iload hX 5 dX11_span_38 rfl ?_
    obtain ⟨h_5, e_6, hf⟩ := bndE hf
    refine J_putI hX dX11_span_40 fl_X11_382 fw_1_17 (city_ob isc_116) rfl rfl rfl ?_
    refine J_nmh e_6 ?_
    refine J_aload_n hX 0 dX11_span_43 rfl rfl ?_
    refine J_getR hX 4 dX11_span_44 fl_X11_39 ob_1 rfl rfl ?_
    refine J_aload_n hX 0 dX11_span_47 rfl rfl ?_
    refine J_getR hX 116 dX11_span_48 fl_X11_23 ob_1 rfl rfl ?_
    refine J_aload_n hX 0 dX11_span_51 rfl rfl ?_
    refine J_getR hX 500 dX11_span_52 fl_X11_29 ob_1 rfl rfl ?_
    refine J_iload_n hX 1 dX11_span_55 rfl rfl ?_
    refine J_iconst hX 1 dX11_span_56 rfl ?_
    obtain ⟨r_7, e_8, hf⟩ := bdE hf
    refine V_0 hX [.ref 116, .ref 500, .int x1, .int 1] dX11_span_57 cw_X11_253 ob_4 rfl (C_X3_run (okG hX) isc_116 isl_500 e_8) (ltD hdx rfl) rfl rfl rfl rfl ?_
    refine J_aload_n hX 0 dX11_span_60 rfl rfl ?_
    refine J_getR hX 116 dX11_span_61 fl_X11_23 ob_1 rfl rfl ?_
    refine J_getI hX dX11_span_64 fl_X11_229 (city_ob isc_116) rfl ?_
    refine S_1 hX [.int (r_7 116 11)] dX11_span_67 cw_X11_248 (C_J6_bitCount_0f7a4 (okG hX) rfl) (ltD hdx rfl) rfl rfl rfl rfl ?_
    obtain ⟨x6_9, e_10, hf⟩ := bndE hf
    refine J_nm e_10 ?_
    refine J_istore hX [(6, .int x6_9), (0, .ref 1), (1, .int x1), (2, .int x2), (3, .int x3), (4, .int x4), (5, .int x5)] dX11_span_70 rfl rfl ?_
    refine J_iload_n hX 4 dX11_span_72 rfl rfl ?_
    refine J_iload hX 0 dX11_span_73 rfl ?_
    refine J_min hX dX11_span_75 mw_X11_385 (ltD hdx rfl) rfl ?_
    obtain ⟨x3_11, e_12, hf⟩ := bndE hf
    refine J_nm e_12 ?_
    refine J_istore_n hX [(3, .int x3_11), (6, .int x6_9), (0, .ref 1), (1, .int x1), (2, .int x2), (4, .int x4), (5, .int x5)] dX11_span_78 rfl rfl rfl ?_
    refine J_iload hX 5 dX11_span_79 rfl ?_
    refine J_iload hX 1 dX11_span_81 rfl ?_
    refine J_max hX dX11_span_83 mw_X11_390 (ltD hdx rfl) rfl ?_
    obtain ⟨x4_13, e_14, hf⟩ := bndE hf
    refine J_nm e_14 ?_
    refine J_istore hX [(4, .int x4_13), (3, .int x3_11), (6, .int x6_9), (0, .ref 1), (1, .int x1), (2, .int x2), (5, .int x5)] dX11_span_86 rfl rfl ?_
    refine J_iinc hX (x5 + 1) 6 [(5, .int (x5 + 1)), (4, .int x4_13), (3, .int x3_11), (6, .int x6_9), (0, .ref 1), (1, .int x1), (2, .int x2)] dX11_span_88 rfl rfl rfl rfl ?_
    refine J_goto hX 16 dX11_span_91 rfl ?_
    refine J_sub [4, 5, 6, 2, 1, 0] [(0, .ref 1), (1, .int x1), (2, .int x2), (3, .int x3_11), (4, .int x4_13), (5, .int (x5 + 1))] rfl ?_
    exact hq_16 x3_11 x4_13 (x5 + 1) r_7 hf
set_option maxRecDepth 100000 in
set_option maxHeartbeats 200000 in
theorem T_X11_span_16 {X : CX} (hX : Ok X cX11_span 7 RX11 (some .int)) (hdx : dX X = 11) {r : Except String Int32 × Hp} (x1 : Int32) (x2 : Int32) : ∀ (n : Nat) (x3 : Int32) (x4 : Int32) (x5 : Int32) (h : Hp), F_X11_span_16 x1 x2 n x3 x4 x5 h = some r → J X (oX tvI r) 16 [(0, .ref 1), (1, .int x1), (2, .int x2), (3, .int x3), (4, .int x4), (5, .int x5)] [] h := by
  intro n
  induction n with
  | zero => intro x3 x4 x5 h hf; exact nomatch hf
  | succ n ih => intro x3 x4 x5 h hf; exact T_X11_span_16_s hX hdx x1 x2 _ (fun x3 x4 x5 h hf => ih x3 x4 x5 h hf) x3 x4 x5 h hf
set_option maxRecDepth 100000 in
set_option maxHeartbeats 200000 in
theorem T_X11_span_0 {X : CX} (hX : Ok X cX11_span 7 RX11 (some .int)) (hdx : dX X = 11) {r : Except String Int32 × Hp} (x1 : Int32) (x2 : Int32) (h : Hp) (hf : f_X11_span x1 x2 h = some r) : J X (oX tvI r) 0 [(0, .ref 1), (1, .int x1), (2, .int x2)] [] h := by
  unfold f_X11_span at hf
  refine J_iload_n hX 1 dX11_span_0 rfl rfl ?_
  refine J_iconst hX 0 dX11_span_1 rfl ?_
  refine J_bipush hX 70 dX11_span_2 rfl ?_
  obtain ⟨r_1, e_2, hf⟩ := bdE hf
  rcases exE hf with ⟨v_3, h_4, z_6, hg⟩ | ⟨E_5, h_4, z_6, z_6r⟩
  all_goals clear hf
  rotate_left
  · subst z_6
    exact S_kx hX [.int x1, .int 0, .int 70] dX11_span_4 cw_X11_241 (C_X11_checkAmount (okG hX) e_2) (ltD hdx rfl) rfl rfl rfl rfl z_6r
  subst z_6
  have hf := hg
  clear hg
  refine S_k0 hX [.int x1, .int 0, .int 70] dX11_span_4 cw_X11_241 (C_X11_checkAmount (okG hX) e_2) (ltD hdx rfl) rfl rfl rfl rfl rfl ?_
  refine J_bipush hX 8 dX11_span_7 rfl ?_
  refine J_istore_n hX [(3, .int 8), (0, .ref 1), (1, .int x1), (2, .int x2)] dX11_span_9 rfl rfl rfl ?_
  refine J_iconst hX 0 dX11_span_10 rfl ?_
  refine J_istore hX [(4, .int 0), (3, .int 8), (0, .ref 1), (1, .int x1), (2, .int x2)] dX11_span_11 rfl rfl ?_
  refine J_iconst hX 1 dX11_span_13 rfl ?_
  refine J_istore hX [(5, .int 1), (4, .int 0), (3, .int 8), (0, .ref 1), (1, .int x1), (2, .int x2)] dX11_span_14 rfl rfl ?_
  refine J_sub [3, 4, 5, 2, 1, 0] [(0, .ref 1), (1, .int x1), (2, .int x2), (3, .int 8), (4, .int 0), (5, .int 1)] rfl ?_
  exact T_X11_span_16 hX hdx x1 x2 FU 8 0 1 h_4 hf
set_option maxRecDepth 100000 in
set_option maxHeartbeats 200000 in
theorem C_X11_span {G : GX} (hG : GOk G) {x1 : Int32} {x2 : Int32} {h : Hp} {r : Except String Int32 × Hp} (hf : f_X11_span x1 x2 h = some r) : Ctr G 11 yX11_span cX11_span 7 (some .int) [.ref 1, .int x1, .int x2] h (oX tvI r) :=
  Ctr_of hG RX11 rfl (by decide) rfl (fun X _ hdx hX => T_X11_span_0 hX hdx x1 x2 h hf)
theorem dX11_led_0 : decode cX11_led 0 = .ok (.aload_n 0, 1) := by decide +kernel
theorem dX11_led_1 : decode cX11_led 1 = .ok (.iload_n 1, 1) := by decide +kernel
theorem dX11_led_2 : decode cX11_led 2 = .ok (.invokevirtual 118, 3) := by decide +kernel
theorem dX11_led_5 : decode cX11_led 5 = .ok (.iconst 0, 1) := by decide +kernel
theorem dX11_led_6 : decode cX11_led 6 = .ok (.istore_n 3, 1) := by decide +kernel
theorem dX11_led_7 : decode cX11_led 7 = .ok (.iconst 0, 1) := by decide +kernel
theorem dX11_led_8 : decode cX11_led 8 = .ok (.istore 4, 2) := by decide +kernel
theorem dX11_led_10 : decode cX11_led 10 = .ok (.iload 4, 2) := by decide +kernel
theorem dX11_led_12 : decode cX11_led 12 = .ok (.aload_n 0, 1) := by decide +kernel
theorem dX11_led_13 : decode cX11_led 13 = .ok (.getfield 19, 3) := by decide +kernel
theorem dX11_led_16 : decode cX11_led 16 = .ok (.getfield 232, 3) := by decide +kernel
theorem dX11_led_19 : decode cX11_led 19 = .ok (.getfield 236, 3) := by decide +kernel
theorem dX11_led_22 : decode cX11_led 22 = .ok (.if_icmp .ge 47, 3) := by decide +kernel
theorem dX11_led_25 : decode cX11_led 25 = .ok (.aload_n 0, 1) := by decide +kernel
theorem dX11_led_26 : decode cX11_led 26 = .ok (.getfield 19, 3) := by decide +kernel
theorem dX11_led_29 : decode cX11_led 29 = .ok (.getfield 232, 3) := by decide +kernel
theorem dX11_led_32 : decode cX11_led 32 = .ok (.iload 4, 2) := by decide +kernel
theorem dX11_led_34 : decode cX11_led 34 = .ok (.iconst 2, 1) := by decide +kernel
theorem dX11_led_35 : decode cX11_led 35 = .ok (.invokevirtual 393, 3) := by decide +kernel
theorem dX11_led_38 : decode cX11_led 38 = .ok (.iload_n 1, 1) := by decide +kernel
theorem dX11_led_39 : decode cX11_led 39 = .ok (.if_icmp .ne 24, 3) := by decide +kernel
theorem dX11_led_42 : decode cX11_led 42 = .ok (.iload_n 2, 1) := by decide +kernel
theorem dX11_led_43 : decode cX11_led 43 = .ok (.ifCond .eq 17, 3) := by decide +kernel
theorem dX11_led_46 : decode cX11_led 46 = .ok (.aload_n 0, 1) := by decide +kernel
theorem dX11_led_47 : decode cX11_led 47 = .ok (.getfield 19, 3) := by decide +kernel
theorem dX11_led_50 : decode cX11_led 50 = .ok (.getfield 232, 3) := by decide +kernel
theorem dX11_led_53 : decode cX11_led 53 = .ok (.iload 4, 2) := by decide +kernel
theorem dX11_led_55 : decode cX11_led 55 = .ok (.iconst 0, 1) := by decide +kernel
theorem dX11_led_56 : decode cX11_led 56 = .ok (.invokevirtual 393, 3) := by decide +kernel
theorem dX11_led_59 : decode cX11_led 59 = .ok (.ireturn, 1) := by decide +kernel
theorem dX11_led_60 : decode cX11_led 60 = .ok (.iinc 3 1, 3) := by decide +kernel
theorem dX11_led_63 : decode cX11_led 63 = .ok (.iinc 4 1, 3) := by decide +kernel
theorem dX11_led_66 : decode cX11_led 66 = .ok (.goto (-56), 3) := by decide +kernel
theorem dX11_led_69 : decode cX11_led 69 = .ok (.iload_n 2, 1) := by decide +kernel
theorem dX11_led_70 : decode cX11_led 70 = .ok (.ifCond .eq 7, 3) := by decide +kernel
theorem dX11_led_73 : decode cX11_led 73 = .ok (.iconst (-1), 1) := by decide +kernel
theorem dX11_led_74 : decode cX11_led 74 = .ok (.goto 4, 3) := by decide +kernel
theorem dX11_led_77 : decode cX11_led 77 = .ok (.iload_n 3, 1) := by decide +kernel
theorem dX11_led_78 : decode cX11_led 78 = .ok (.ireturn, 1) := by decide +kernel
set_option maxRecDepth 100000 in
set_option maxHeartbeats 200000 in
theorem T_X11_led_10_s {X : CX} (hX : Ok X cX11_led 5 RX11 (some .int)) (hdx : dX X = 11) {r : Except String Int32 × Hp} (x1 : Int32) (x2 : Int32) (q_10 : Int32 → Int32 → Hp → Option (Except String Int32 × Hp)) (hq_10 : ∀ (x3 : Int32) (x4 : Int32) (h : Hp), q_10 x3 x4 h = some r → J X (oX tvI r) 10 [(0, .ref 1), (1, .int x1), (2, .int x2), (3, .int x3), (4, .int x4)] [] h) (x3 : Int32) (x4 : Int32) (h : Hp) (hf : S_X11_led_10 x1 x2 q_10 x3 x4 h = some r) : J X (oX tvI r) 10 [(0, .ref 1), (1, .int x1), (2, .int x2), (3, .int x3), (4, .int x4)] [] h := by
  unfold S_X11_led_10 at hf
  refine J_iload hX 4 dX11_led_10 rfl ?_
  refine J_aload_n hX 0 dX11_led_12 rfl rfl ?_
  refine J_getR hX 100 dX11_led_13 fl_X11_19 ob_1 rfl rfl ?_
  refine J_getR hX 109 dX11_led_16 fl_X11_232 (city_ob isc_100) rfl rfl ?_
  refine J_getI hX dX11_led_19 fl_X11_236 (log_ob (city_log isc_100)) rfl ?_
  rcases ifE hf with ⟨c_1, hf⟩ | ⟨c_1, hf⟩
  · refine J_icmp_geF hX 69 dX11_led_22 rfl c_1 ?_
    refine J_aload_n hX 0 dX11_led_25 rfl rfl ?_
    refine J_getR hX 100 dX11_led_26 fl_X11_19 ob_1 rfl rfl ?_
    refine J_getR hX 109 dX11_led_29 fl_X11_232 (city_ob isc_100) rfl rfl ?_
    refine J_iload hX 4 dX11_led_32 rfl ?_
    refine J_iconst hX 2 dX11_led_34 rfl ?_
    obtain ⟨r_2, e_3, hf⟩ := bdE hf
    refine V_1 hX [.int x4, .int 2] dX11_led_35 cw_X11_393 (log_ob (city_log isc_100)) rfl (C_X6_cell (okG hX) (city_log isc_100) e_3) (ltD hdx rfl) rfl rfl rfl rfl ?_
    refine J_iload_n hX 1 dX11_led_38 rfl rfl ?_
    rcases ifE hf with ⟨c_4, hf⟩ | ⟨c_4, hf⟩
    · refine J_icmp_neF hX 63 dX11_led_39 rfl c_4 ?_
      refine J_iload_n hX 2 dX11_led_42 rfl rfl ?_
      rcases ifE hf with ⟨c_5, hf⟩ | ⟨c_5, hf⟩
      · refine J_if_eqT hX 60 dX11_led_43 rfl c_5 ?_
        refine J_iinc hX (x3 + 1) 3 [(3, .int (x3 + 1)), (0, .ref 1), (1, .int x1), (2, .int x2), (4, .int x4)] dX11_led_60 rfl rfl rfl rfl ?_
        refine J_iinc hX (x4 + 1) 4 [(4, .int (x4 + 1)), (3, .int (x3 + 1)), (0, .ref 1), (1, .int x1), (2, .int x2)] dX11_led_63 rfl rfl rfl rfl ?_
        refine J_goto hX 10 dX11_led_66 rfl ?_
        refine J_sub [2, 3, 4, 1, 0] [(0, .ref 1), (1, .int x1), (2, .int x2), (3, .int (x3 + 1)), (4, .int (x4 + 1))] rfl ?_
        exact hq_10 (x3 + 1) (x4 + 1) h hf
      · refine J_if_eqF hX 60 dX11_led_43 rfl c_5 ?_
        refine J_aload_n hX 0 dX11_led_46 rfl rfl ?_
        refine J_getR hX 100 dX11_led_47 fl_X11_19 ob_1 rfl rfl ?_
        refine J_getR hX 109 dX11_led_50 fl_X11_232 (city_ob isc_100) rfl rfl ?_
        refine J_iload hX 4 dX11_led_53 rfl ?_
        refine J_iconst hX 0 dX11_led_55 rfl ?_
        obtain ⟨r_6, e_7, hf⟩ := bdE hf
        refine V_1 hX [.int x4, .int 0] dX11_led_56 cw_X11_393 (log_ob (city_log isc_100)) rfl (C_X6_cell (okG hX) (city_log isc_100) e_7) (ltD hdx rfl) rfl rfl rfl rfl ?_
        exact E_Ix hX dX11_led_59 hf
    · refine J_icmp_neT hX 63 dX11_led_39 rfl c_4 ?_
      refine J_iinc hX (x4 + 1) 4 [(4, .int (x4 + 1)), (0, .ref 1), (1, .int x1), (2, .int x2), (3, .int x3)] dX11_led_63 rfl rfl rfl rfl ?_
      refine J_goto hX 10 dX11_led_66 rfl ?_
      refine J_sub [1, 2, 3, 4, 0] [(0, .ref 1), (1, .int x1), (2, .int x2), (3, .int x3), (4, .int (x4 + 1))] rfl ?_
      exact hq_10 x3 (x4 + 1) h hf
  · refine J_icmp_geT hX 69 dX11_led_22 rfl c_1 ?_
    refine J_iload_n hX 2 dX11_led_69 rfl rfl ?_
    rcases ifE hf with ⟨c_8, hf⟩ | ⟨c_8, hf⟩
    · refine J_if_eqT hX 77 dX11_led_70 rfl c_8 ?_
      refine J_iload_n hX 3 dX11_led_77 rfl rfl ?_
      exact E_Ix hX dX11_led_78 hf
    · refine J_if_eqF hX 77 dX11_led_70 rfl c_8 ?_
      refine J_iconst hX (-1) dX11_led_73 rfl ?_
      refine J_goto hX 78 dX11_led_74 rfl ?_
      exact E_Ix hX dX11_led_78 hf
set_option maxRecDepth 100000 in
set_option maxHeartbeats 200000 in
theorem T_X11_led_10 {X : CX} (hX : Ok X cX11_led 5 RX11 (some .int)) (hdx : dX X = 11) {r : Except String Int32 × Hp} (x1 : Int32) (x2 : Int32) : ∀ (n : Nat) (x3 : Int32) (x4 : Int32) (h : Hp), F_X11_led_10 x1 x2 n x3 x4 h = some r → J X (oX tvI r) 10 [(0, .ref 1), (1, .int x1), (2, .int x2), (3, .int x3), (4, .int x4)] [] h := by
  intro n
  induction n with
  | zero => intro x3 x4 h hf; exact nomatch hf
  | succ n ih => intro x3 x4 h hf; exact T_X11_led_10_s hX hdx x1 x2 _ (fun x3 x4 h hf => ih x3 x4 h hf) x3 x4 h hf
set_option maxRecDepth 100000 in
set_option maxHeartbeats 200000 in
theorem T_X11_led_0 {X : CX} (hX : Ok X cX11_led 5 RX11 (some .int)) (hdx : dX X = 11) {r : Except String Int32 × Hp} (x1 : Int32) (x2 : Int32) (h : Hp) (hf : f_X11_led x1 x2 h = some r) : J X (oX tvI r) 0 [(0, .ref 1), (1, .int x1), (2, .int x2)] [] h := by
  unfold f_X11_led at hf
  refine J_aload_n hX 0 dX11_led_0 rfl rfl ?_
  refine J_iload_n hX 1 dX11_led_1 rfl rfl ?_
  obtain ⟨r_1, e_2, hf⟩ := bdE hf
  rcases exE hf with ⟨v_3, h_4, z_6, hg⟩ | ⟨E_5, h_4, z_6, z_6r⟩
  all_goals clear hf
  rotate_left
  · subst z_6
    exact V_kx hX [.int x1] dX11_led_2 cw_X11_118 ob_1 rfl (C_X11_checkHouse (okG hX) e_2) (ltD hdx rfl) rfl rfl rfl rfl z_6r
  subst z_6
  have hf := hg
  clear hg
  refine V_k0 hX [.int x1] dX11_led_2 cw_X11_118 ob_1 rfl (C_X11_checkHouse (okG hX) e_2) (ltD hdx rfl) rfl rfl rfl rfl rfl ?_
  refine J_iconst hX 0 dX11_led_5 rfl ?_
  refine J_istore_n hX [(3, .int 0), (0, .ref 1), (1, .int x1), (2, .int x2)] dX11_led_6 rfl rfl rfl ?_
  refine J_iconst hX 0 dX11_led_7 rfl ?_
  refine J_istore hX [(4, .int 0), (3, .int 0), (0, .ref 1), (1, .int x1), (2, .int x2)] dX11_led_8 rfl rfl ?_
  refine J_sub [2, 3, 4, 1, 0] [(0, .ref 1), (1, .int x1), (2, .int x2), (3, .int 0), (4, .int 0)] rfl ?_
  exact T_X11_led_10 hX hdx x1 x2 FU 0 0 h_4 hf
set_option maxRecDepth 100000 in
set_option maxHeartbeats 200000 in
theorem C_X11_led {G : GX} (hG : GOk G) {x1 : Int32} {x2 : Int32} {h : Hp} {r : Except String Int32 × Hp} (hf : f_X11_led x1 x2 h = some r) : Ctr G 11 yX11_led cX11_led 5 (some .int) [.ref 1, .int x1, .int x2] h (oX tvI r) :=
  Ctr_of hG RX11 rfl (by decide) rfl (fun X _ hdx hX => T_X11_led_0 hX hdx x1 x2 h hf)
theorem dX11_log_0 : decode cX11_log 0 = .ok (.iload_n 2, 1) := by decide +kernel
theorem dX11_log_1 : decode cX11_log 1 = .ok (.ifCond .lt 9, 3) := by decide +kernel
theorem dX11_log_4 : decode cX11_log 4 = .ok (.iload_n 2, 1) := by decide +kernel
theorem dX11_log_5 : decode cX11_log 5 = .ok (.bipush 6, 2) := by decide +kernel
theorem dX11_log_7 : decode cX11_log 7 = .ok (.if_icmp .lt 11, 3) := by decide +kernel
theorem dX11_log_10 : decode cX11_log 10 = .ok (.new 121, 3) := by decide +kernel
theorem dX11_log_13 : decode cX11_log 13 = .ok (.dup, 1) := by decide +kernel
theorem dX11_log_14 : decode cX11_log 14 = .ok (.invokespecial 123, 3) := by decide +kernel
theorem dX11_log_17 : decode cX11_log 17 = .ok (.athrow, 1) := by decide +kernel
theorem dX11_log_18 : decode cX11_log 18 = .ok (.aload_n 0, 1) := by decide +kernel
theorem dX11_log_19 : decode cX11_log 19 = .ok (.getfield 19, 3) := by decide +kernel
theorem dX11_log_22 : decode cX11_log 22 = .ok (.getfield 232, 3) := by decide +kernel
theorem dX11_log_25 : decode cX11_log 25 = .ok (.iload_n 1, 1) := by decide +kernel
theorem dX11_log_26 : decode cX11_log 26 = .ok (.iload_n 2, 1) := by decide +kernel
theorem dX11_log_27 : decode cX11_log 27 = .ok (.invokevirtual 393, 3) := by decide +kernel
theorem dX11_log_30 : decode cX11_log 30 = .ok (.ireturn, 1) := by decide +kernel
set_option maxRecDepth 100000 in
set_option maxHeartbeats 200000 in
theorem T_X11_log_10 {X : CX} (hX : Ok X cX11_log 3 RX11 (some .int)) (hdx : dX X = 10) {r : Except String Int32 × Hp} (h : Hp) (hf : F_X11_log_10 h = some r) : J X (oX tvI r) 10 [] [] h := by
  unfold F_X11_log_10 at hf
  exact E_thr hX exN dX11_log_10 dX11_log_13 dX11_log_14 dX11_log_17 tw_X11_121_123 (ltD hdx rfl) rfl hf
set_option maxRecDepth 100000 in
set_option maxHeartbeats 200000 in
theorem T_X11_log_0 {X : CX} (hX : Ok X cX11_log 3 RX11 (some .int)) (hdx : dX X = 10) {r : Except String Int32 × Hp} (x1 : Int32) (x2 : Int32) (h : Hp) (hf : f_X11_log x1 x2 h = some r) : J X (oX tvI r) 0 [(0, .ref 1), (1, .int x1), (2, .int x2)] [] h := by
  unfold f_X11_log at hf
  refine J_iload_n hX 2 dX11_log_0 rfl rfl ?_
  rcases ifE hf with ⟨c_1, hf⟩ | ⟨c_1, hf⟩
  · refine J_if_ltT hX 10 dX11_log_1 rfl c_1 ?_
    refine J_sub [] [] rfl ?_
    exact T_X11_log_10 hX hdx h hf
  · refine J_if_ltF hX 10 dX11_log_1 rfl c_1 ?_
    refine J_iload_n hX 2 dX11_log_4 rfl rfl ?_
    refine J_bipush hX 6 dX11_log_5 rfl ?_
    rcases ifE hf with ⟨c_2, hf⟩ | ⟨c_2, hf⟩
    · refine J_icmp_ltT hX 18 dX11_log_7 rfl c_2 ?_
      refine J_aload_n hX 0 dX11_log_18 rfl rfl ?_
      refine J_getR hX 100 dX11_log_19 fl_X11_19 ob_1 rfl rfl ?_
      refine J_getR hX 109 dX11_log_22 fl_X11_232 (city_ob isc_100) rfl rfl ?_
      refine J_iload_n hX 1 dX11_log_25 rfl rfl ?_
      refine J_iload_n hX 2 dX11_log_26 rfl rfl ?_
      obtain ⟨r_3, e_4, hf⟩ := bdE hf
      refine V_1 hX [.int x1, .int x2] dX11_log_27 cw_X11_393 (log_ob (city_log isc_100)) rfl (C_X6_cell (okG hX) (city_log isc_100) e_4) (ltD hdx rfl) rfl rfl rfl rfl ?_
      exact E_Ix hX dX11_log_30 hf
    · refine J_icmp_ltF hX 18 dX11_log_7 rfl c_2 ?_
      refine J_sub [] [] rfl ?_
      exact T_X11_log_10 hX hdx h hf
set_option maxRecDepth 100000 in
set_option maxHeartbeats 200000 in
theorem C_X11_log {G : GX} (hG : GOk G) {x1 : Int32} {x2 : Int32} {h : Hp} {r : Except String Int32 × Hp} (hf : f_X11_log x1 x2 h = some r) : Ctr G 10 yX11_log cX11_log 3 (some .int) [.ref 1, .int x1, .int x2] h (oX tvI r) :=
  Ctr_of hG RX11 rfl (by decide) rfl (fun X _ hdx hX => T_X11_log_0 hX hdx x1 x2 h hf)
theorem dX11_seed_0 : decode cX11_seed 0 = .ok (.aload_n 0, 1) := by decide +kernel
theorem dX11_seed_1 : decode cX11_seed 1 = .ok (.getfield 19, 3) := by decide +kernel
theorem dX11_seed_4 : decode cX11_seed 4 = .ok (.getfield 382, 3) := by decide +kernel
theorem dX11_seed_7 : decode cX11_seed 7 = .ok (.istore_n 2, 1) := by decide +kernel
theorem dX11_seed_8 : decode cX11_seed 8 = .ok (.aload_n 0, 1) := by decide +kernel
theorem dX11_seed_9 : decode cX11_seed 9 = .ok (.getfield 19, 3) := by decide +kernel
theorem dX11_seed_12 : decode cX11_seed 12 = .ok (.iload_n 1, 1) := by decide +kernel
theorem dX11_seed_13 : decode cX11_seed 13 = .ok (.putfield 382, 3) := by decide +kernel
theorem dX11_seed_16 : decode cX11_seed 16 = .ok (.iload_n 2, 1) := by decide +kernel
theorem dX11_seed_17 : decode cX11_seed 17 = .ok (.ireturn, 1) := by decide +kernel
set_option maxRecDepth 100000 in
set_option maxHeartbeats 200000 in
theorem T_X11_seed_0 {X : CX} (hX : Ok X cX11_seed 3 RX11 (some .int)) (hdx : dX X = 2) {r : Int32 × Hp} (x1 : Int32) (h : Hp) (hf : f_X11_seed x1 h = some r) : J X ((.inl (some (.int r.1)), r.2)) 0 [(0, .ref 1), (1, .int x1)] [] h := by
  unfold f_X11_seed at hf
  refine J_aload_n hX 0 dX11_seed_0 rfl rfl ?_
  refine J_getR hX 100 dX11_seed_1 fl_X11_19 ob_1 rfl rfl ?_
  refine J_getI hX dX11_seed_4 fl_X11_382 (city_ob isc_100) rfl ?_
  refine J_istore_n hX [(2, .int (h 100 17)), (0, .ref 1), (1, .int x1)] dX11_seed_7 rfl rfl rfl ?_
  refine J_aload_n hX 1 dX11_seed_8 rfl rfl ?_
  refine J_getR hX 100 dX11_seed_9 fl_X11_19 ob_1 rfl rfl ?_
  refine J_iload_n hX 2 dX11_seed_12 rfl rfl ?_
  obtain ⟨h_1, e_2, hf⟩ := bndE hf
  refine J_putI hX dX11_seed_13 fl_X11_382 fw_1_17 (city_ob isc_100) rfl rfl rfl ?_
  refine J_nmh e_2 ?_
  refine J_iload_n hX 0 dX11_seed_16 rfl rfl ?_
  exact E_Ii hX dX11_seed_17 hf
set_option maxRecDepth 100000 in
set_option maxHeartbeats 200000 in
theorem C_X11_seed {G : GX} (hG : GOk G) {x1 : Int32} {h : Hp} {r : Int32 × Hp} (hf : f_X11_seed x1 h = some r) : Ctr G 2 yX11_seed cX11_seed 3 (some .int) [.ref 1, .int x1] h ((.inl (some (.int r.1)), r.2)) :=
  Ctr_of hG RX11 rfl (by decide) rfl (fun X _ hdx hX => T_X11_seed_0 hX hdx x1 h hf)
theorem dX11_undo_0 : decode cX11_undo 0 = .ok (.aload_n 0, 1) := by decide +kernel
theorem dX11_undo_1 : decode cX11_undo 1 = .ok (.getfield 101, 3) := by decide +kernel
theorem dX11_undo_4 : decode cX11_undo 4 = .ok (.ifCond .gt 5, 3) := by decide +kernel
theorem dX11_undo_7 : decode cX11_undo 7 = .ok (.iconst 0, 1) := by decide +kernel
theorem dX11_undo_8 : decode cX11_undo 8 = .ok (.ireturn, 1) := by decide +kernel
theorem dX11_undo_9 : decode cX11_undo 9 = .ok (.aload_n 0, 1) := by decide +kernel
theorem dX11_undo_10 : decode cX11_undo 10 = .ok (.aload_n 0, 1) := by decide +kernel
theorem dX11_undo_11 : decode cX11_undo 11 = .ok (.getfield 101, 3) := by decide +kernel
theorem dX11_undo_14 : decode cX11_undo 14 = .ok (.iconst 1, 1) := by decide +kernel
theorem dX11_undo_15 : decode cX11_undo 15 = .ok (.isub, 1) := by decide +kernel
theorem dX11_undo_16 : decode cX11_undo 16 = .ok (.invokevirtual 396, 3) := by decide +kernel
theorem dX11_undo_19 : decode cX11_undo 19 = .ok (.astore_n 1, 1) := by decide +kernel
theorem dX11_undo_20 : decode cX11_undo 20 = .ok (.aload_n 1, 1) := by decide +kernel
theorem dX11_undo_21 : decode cX11_undo 21 = .ok (.ifnonnull 5, 3) := by decide +kernel
theorem dX11_undo_24 : decode cX11_undo 24 = .ok (.iconst 0, 1) := by decide +kernel
theorem dX11_undo_25 : decode cX11_undo 25 = .ok (.ireturn, 1) := by decide +kernel
theorem dX11_undo_26 : decode cX11_undo 26 = .ok (.aload_n 0, 1) := by decide +kernel
theorem dX11_undo_27 : decode cX11_undo 27 = .ok (.getfield 19, 3) := by decide +kernel
theorem dX11_undo_30 : decode cX11_undo 30 = .ok (.aload_n 1, 1) := by decide +kernel
theorem dX11_undo_31 : decode cX11_undo 31 = .ok (.invokevirtual 82, 3) := by decide +kernel
theorem dX11_undo_34 : decode cX11_undo 34 = .ok (.aload_n 0, 1) := by decide +kernel
theorem dX11_undo_35 : decode cX11_undo 35 = .ok (.dup, 1) := by decide +kernel
theorem dX11_undo_36 : decode cX11_undo 36 = .ok (.getfield 101, 3) := by decide +kernel
theorem dX11_undo_39 : decode cX11_undo 39 = .ok (.iconst 1, 1) := by decide +kernel
theorem dX11_undo_40 : decode cX11_undo 40 = .ok (.isub, 1) := by decide +kernel
theorem dX11_undo_41 : decode cX11_undo 41 = .ok (.putfield 101, 3) := by decide +kernel
theorem dX11_undo_44 : decode cX11_undo 44 = .ok (.iconst 1, 1) := by decide +kernel
theorem dX11_undo_45 : decode cX11_undo 45 = .ok (.ireturn, 1) := by decide +kernel
set_option maxRecDepth 100000 in
set_option maxHeartbeats 200000 in
theorem T_X11_undo_0 {X : CX} (hX : Ok X cX11_undo 2 RX11 (some .boolean)) (hdx : dX X = 4) {r : Bool × Hp} (h : Hp) (hf : f_X11_undo h = some r) : J X ((.inl (some (.int (b2i r.1))), r.2)) 0 [(0, .ref 1)] [] h := by
  unfold f_X11_undo at hf
  refine J_aload_n hX 0 dX11_undo_0 rfl rfl ?_
  refine J_getI hX dX11_undo_1 fl_X11_101 ob_1 rfl ?_
  rcases ifE hf with ⟨c_1, hf⟩ | ⟨c_1, hf⟩
  · refine J_if_gtT hX 9 dX11_undo_4 rfl c_1 ?_
    refine J_aload_n hX 0 dX11_undo_9 rfl rfl ?_
    refine J_aload_n hX 0 dX11_undo_10 rfl rfl ?_
    refine J_getI hX dX11_undo_11 fl_X11_101 ob_1 rfl ?_
    refine J_iconst hX 1 dX11_undo_14 rfl ?_
    refine J_isub hX dX11_undo_15 ?_
    obtain ⟨r_2, e_3, hf⟩ := bdE hf
    rcases onE hf with ⟨c_n, hf⟩ | ⟨kn_4, c_n, hf⟩
    · subst c_n
      refine V_1 hX [.int ((h 1 14) - 1)] dX11_undo_16 cw_X11_396 ob_1 rfl (C_X11_pastAt (okG hX) e_3) (ltD hdx rfl) rfl rfl rfl rfl ?_
      refine J_astore_nN hX [(1, .null), (0, .ref 1)] dX11_undo_19 rfl rfl rfl ?_
      refine J_aload_nN hX 0 dX11_undo_20 rfl rfl ?_
      refine J_ifnonnullN hX dX11_undo_21 ?_
      refine J_iconst hX 0 dX11_undo_24 rfl ?_
      exact E_Zi hX dX11_undo_25 rfl hf
    · subst c_n
      obtain ⟨g_5, hf⟩ := gdE hf
      refine V_1 hX [.int ((h 1 14) - 1)] dX11_undo_16 cw_X11_396 ob_1 rfl (C_X11_pastAt (okG hX) e_3) (ltD hdx rfl) rfl rfl rfl rfl ?_
      refine J_astore_n hX [(1, .ref kn_4), (0, .ref 1)] dX11_undo_19 rfl rfl rfl ?_
      refine J_aload_n hX 0 dX11_undo_20 rfl rfl ?_
      refine J_ifnonnullT hX 26 dX11_undo_21 rfl ?_
      refine J_aload_n hX 1 dX11_undo_26 rfl rfl ?_
      refine J_getR hX 100 dX11_undo_27 fl_X11_19 ob_1 rfl rfl ?_
      refine J_aload_n hX 0 dX11_undo_30 rfl rfl ?_
      obtain ⟨r_6, e_7, hf⟩ := bdE hf
      refine V_0 hX [.ref kn_4] dX11_undo_31 cw_X11_82 (city_ob isc_100) rfl (C_X1_copyFrom (okG hX) isc_100 (cityB_is g_5) e_7) (ltD hdx rfl) rfl rfl rfl rfl ?_
      refine J_aload_n hX 1 dX11_undo_34 rfl rfl ?_
      refine J_dup hX dX11_undo_35 rfl ?_
      refine J_getI hX dX11_undo_36 fl_X11_101 ob_1 rfl ?_
      refine J_iconst hX 1 dX11_undo_39 rfl ?_
      refine J_isub hX dX11_undo_40 ?_
      obtain ⟨h_8, e_9, hf⟩ := bndE hf
      refine J_putI hX dX11_undo_41 fl_X11_101 fw_9_14 ob_1 rfl rfl rfl ?_
      refine J_nmh e_9 ?_
      refine J_iconst hX 1 dX11_undo_44 rfl ?_
      exact E_Zi hX dX11_undo_45 rfl hf
  · refine J_if_gtF hX 9 dX11_undo_4 rfl c_1 ?_
    refine J_iconst hX 0 dX11_undo_7 rfl ?_
    exact E_Zi hX dX11_undo_8 rfl hf
set_option maxRecDepth 100000 in
set_option maxHeartbeats 200000 in
theorem C_X11_undo {G : GX} (hG : GOk G) {h : Hp} {r : Bool × Hp} (hf : f_X11_undo h = some r) : Ctr G 4 yX11_undo cX11_undo 2 (some .boolean) [.ref 1] h ((.inl (some (.int (b2i r.1))), r.2)) :=
  Ctr_of hG RX11 rfl (by decide) rfl (fun X _ hdx hX => T_X11_undo_0 hX hdx h hf)
theorem dX11_image_0 : decode cX11_image 0 = .ok (.aload_n 0, 1) := by decide +kernel
theorem dX11_image_1 : decode cX11_image 1 = .ok (.getfield 64, 3) := by decide +kernel
theorem dX11_image_4 : decode cX11_image 4 = .ok (.aload_n 0, 1) := by decide +kernel
theorem dX11_image_5 : decode cX11_image 5 = .ok (.getfield 19, 3) := by decide +kernel
theorem dX11_image_8 : decode cX11_image 8 = .ok (.invokevirtual 82, 3) := by decide +kernel
theorem dX11_image_11 : decode cX11_image 11 = .ok (.aload_n 0, 1) := by decide +kernel
theorem dX11_image_12 : decode cX11_image 12 = .ok (.getfield 67, 3) := by decide +kernel
theorem dX11_image_15 : decode cX11_image 15 = .ok (.aload_n 0, 1) := by decide +kernel
theorem dX11_image_16 : decode cX11_image 16 = .ok (.getfield 29, 3) := by decide +kernel
theorem dX11_image_19 : decode cX11_image 19 = .ok (.invokevirtual 109, 3) := by decide +kernel
theorem dX11_image_22 : decode cX11_image 22 = .ok (.aload_n 0, 1) := by decide +kernel
theorem dX11_image_23 : decode cX11_image 23 = .ok (.iconst 1, 1) := by decide +kernel
theorem dX11_image_24 : decode cX11_image 24 = .ok (.putfield 400, 3) := by decide +kernel
theorem dX11_image_27 : decode cX11_image 27 = .ok (.return_, 1) := by decide +kernel
set_option maxRecDepth 100000 in
set_option maxHeartbeats 200000 in
theorem T_X11_image_0 {X : CX} (hX : Ok X cX11_image 1 RX11 none) (hdx : dX X = 4) {r : Hp} (h : Hp) (hf : f_X11_image h = some r) : J X ((.inl none, r)) 0 [(0, .ref 1)] [] h := by
  unfold f_X11_image at hf
  refine J_aload_n hX 0 dX11_image_0 rfl rfl ?_
  refine J_getR hX 132 dX11_image_1 fl_X11_64 ob_1 rfl rfl ?_
  refine J_aload_n hX 0 dX11_image_4 rfl rfl ?_
  refine J_getR hX 100 dX11_image_5 fl_X11_19 ob_1 rfl rfl ?_
  obtain ⟨r_1, e_2, hf⟩ := bdE hf
  refine V_0 hX [.ref 100] dX11_image_8 cw_X11_82 (city_ob isc_132) rfl (C_X1_copyFrom (okG hX) isc_132 isc_100 e_2) (ltD hdx rfl) rfl rfl rfl rfl ?_
  refine J_aload_n hX 0 dX11_image_11 rfl rfl ?_
  refine J_getR hX 532 dX11_image_12 fl_X11_67 ob_1 rfl rfl ?_
  refine J_aload_n hX 0 dX11_image_15 rfl rfl ?_
  refine J_getR hX 500 dX11_image_16 fl_X11_29 ob_1 rfl rfl ?_
  obtain ⟨r_3, e_4, hf⟩ := bdE hf
  refine V_0 hX [.ref 500] dX11_image_19 cw_X11_109 (law_ob isl_532) rfl (C_X4_copyFrom (okG hX) isl_532 isl_500 e_4) (ltD hdx rfl) rfl rfl rfl rfl ?_
  refine J_aload_n hX 0 dX11_image_22 rfl rfl ?_
  refine J_iconst hX 1 dX11_image_23 rfl ?_
  obtain ⟨h_5, e_6, hf⟩ := bndE hf
  refine J_putI hX dX11_image_24 fl_X11_400 fw_9_11 ob_1 rfl (by decide) (by decide) ?_
  refine J_nmh e_6 ?_
  exact E_Vi hX dX11_image_27 hf
set_option maxRecDepth 100000 in
set_option maxHeartbeats 200000 in
theorem C_X11_image {G : GX} (hG : GOk G) {h : Hp} {r : Hp} (hf : f_X11_image h = some r) : Ctr G 4 yX11_image cX11_image 1 none [.ref 1] h ((.inl none, r)) :=
  Ctr_of hG RX11 rfl (by decide) rfl (fun X _ hdx hX => T_X11_image_0 hX hdx h hf)
theorem dX11_back_0 : decode cX11_back 0 = .ok (.aload_n 0, 1) := by decide +kernel
theorem dX11_back_1 : decode cX11_back 1 = .ok (.getfield 400, 3) := by decide +kernel
theorem dX11_back_4 : decode cX11_back 4 = .ok (.ifCond .ne 5, 3) := by decide +kernel
theorem dX11_back_7 : decode cX11_back 7 = .ok (.iconst 0, 1) := by decide +kernel
theorem dX11_back_8 : decode cX11_back 8 = .ok (.ireturn, 1) := by decide +kernel
theorem dX11_back_9 : decode cX11_back 9 = .ok (.aload_n 0, 1) := by decide +kernel
theorem dX11_back_10 : decode cX11_back 10 = .ok (.getfield 19, 3) := by decide +kernel
theorem dX11_back_13 : decode cX11_back 13 = .ok (.aload_n 0, 1) := by decide +kernel
theorem dX11_back_14 : decode cX11_back 14 = .ok (.getfield 64, 3) := by decide +kernel
theorem dX11_back_17 : decode cX11_back 17 = .ok (.invokevirtual 82, 3) := by decide +kernel
theorem dX11_back_20 : decode cX11_back 20 = .ok (.aload_n 0, 1) := by decide +kernel
theorem dX11_back_21 : decode cX11_back 21 = .ok (.getfield 29, 3) := by decide +kernel
theorem dX11_back_24 : decode cX11_back 24 = .ok (.aload_n 0, 1) := by decide +kernel
theorem dX11_back_25 : decode cX11_back 25 = .ok (.getfield 67, 3) := by decide +kernel
theorem dX11_back_28 : decode cX11_back 28 = .ok (.invokevirtual 109, 3) := by decide +kernel
theorem dX11_back_31 : decode cX11_back 31 = .ok (.aload_n 0, 1) := by decide +kernel
theorem dX11_back_32 : decode cX11_back 32 = .ok (.iconst 0, 1) := by decide +kernel
theorem dX11_back_33 : decode cX11_back 33 = .ok (.putfield 101, 3) := by decide +kernel
theorem dX11_back_36 : decode cX11_back 36 = .ok (.iconst 1, 1) := by decide +kernel
theorem dX11_back_37 : decode cX11_back 37 = .ok (.ireturn, 1) := by decide +kernel
set_option maxRecDepth 100000 in
set_option maxHeartbeats 200000 in
theorem T_X11_back_0 {X : CX} (hX : Ok X cX11_back 1 RX11 (some .boolean)) (hdx : dX X = 4) {r : Bool × Hp} (h : Hp) (hf : f_X11_back h = some r) : J X ((.inl (some (.int (b2i r.1))), r.2)) 0 [(0, .ref 1)] [] h := by
  unfold f_X11_back at hf
  refine J_aload_n hX 0 dX11_back_0 rfl rfl ?_
  refine J_getI hX dX11_back_1 fl_X11_400 ob_1 rfl ?_
  rcases ifE hf with ⟨c_1, hf⟩ | ⟨c_1, hf⟩
  · refine J_if_neF hX 9 dX11_back_4 rfl c_1 ?_
    refine J_iconst hX 0 dX11_back_7 rfl ?_
    exact E_Zi hX dX11_back_8 rfl hf
  · refine J_if_neT hX 9 dX11_back_4 rfl c_1 ?_
    refine J_aload_n hX 0 dX11_back_9 rfl rfl ?_
    refine J_getR hX 100 dX11_back_10 fl_X11_19 ob_1 rfl rfl ?_
    refine J_aload_n hX 0 dX11_back_13 rfl rfl ?_
    refine J_getR hX 132 dX11_back_14 fl_X11_64 ob_1 rfl rfl ?_
    obtain ⟨r_2, e_3, hf⟩ := bdE hf
    refine V_0 hX [.ref 132] dX11_back_17 cw_X11_82 (city_ob isc_100) rfl (C_X1_copyFrom (okG hX) isc_100 isc_132 e_3) (ltD hdx rfl) rfl rfl rfl rfl ?_
    refine J_aload_n hX 0 dX11_back_20 rfl rfl ?_
    refine J_getR hX 500 dX11_back_21 fl_X11_29 ob_1 rfl rfl ?_
    refine J_aload_n hX 0 dX11_back_24 rfl rfl ?_
    refine J_getR hX 532 dX11_back_25 fl_X11_67 ob_1 rfl rfl ?_
    obtain ⟨r_4, e_5, hf⟩ := bdE hf
    refine V_0 hX [.ref 532] dX11_back_28 cw_X11_109 (law_ob isl_500) rfl (C_X4_copyFrom (okG hX) isl_500 isl_532 e_5) (ltD hdx rfl) rfl rfl rfl rfl ?_
    refine J_aload_n hX 0 dX11_back_31 rfl rfl ?_
    refine J_iconst hX 0 dX11_back_32 rfl ?_
    obtain ⟨h_6, e_7, hf⟩ := bndE hf
    refine J_putI hX dX11_back_33 fl_X11_101 fw_9_14 ob_1 rfl rfl rfl ?_
    refine J_nmh e_7 ?_
    refine J_iconst hX 1 dX11_back_36 rfl ?_
    exact E_Zi hX dX11_back_37 rfl hf
set_option maxRecDepth 100000 in
set_option maxHeartbeats 200000 in
theorem C_X11_back {G : GX} (hG : GOk G) {h : Hp} {r : Bool × Hp} (hf : f_X11_back h = some r) : Ctr G 4 yX11_back cX11_back 1 (some .boolean) [.ref 1] h ((.inl (some (.int (b2i r.1))), r.2)) :=
  Ctr_of hG RX11 rfl (by decide) rfl (fun X _ hdx hX => T_X11_back_0 hX hdx h hf)
theorem dX12_thrown_0 : decode cX12_thrown 0 = .ok (.aload_n 0, 1) := by decide +kernel
theorem dX12_thrown_1 : decode cX12_thrown 1 = .ok (.getfield 3, 3) := by decide +kernel
theorem dX12_thrown_4 : decode cX12_thrown 4 = .ok (.ireturn, 1) := by decide +kernel
set_option maxRecDepth 100000 in
set_option maxHeartbeats 200000 in
theorem T_X12_thrown_0 {X : CX} (hX : Ok X cX12_thrown 1 RX12 (some .int)) (hdx : dX X = 2) {r : Int32} (h : Hp) (hf : f_X12_thrown h = r) : J X ((.inl (some (.int r)), h)) 0 [(0, .ref 30)] [] h := by
  unfold f_X12_thrown at hf
  refine J_aload_n hX 0 dX12_thrown_0 rfl rfl ?_
  refine J_getI hX dX12_thrown_1 fl_X12_3 ob_30 rfl ?_
  exact E_It hX dX12_thrown_4 hf
set_option maxRecDepth 100000 in
set_option maxHeartbeats 200000 in
theorem C_X12_thrown {G : GX} (hG : GOk G) {h : Hp} {r : Int32} (hf : f_X12_thrown h = r) : Ctr G 2 yX12_thrown cX12_thrown 1 (some .int) [.ref 30] h ((.inl (some (.int r)), h)) :=
  Ctr_of hG RX12 rfl (by decide) rfl (fun X _ hdx hX => T_X12_thrown_0 hX hdx h hf)
theorem dX12_throwsIf_0 : decode cX12_throwsIf 0 = .ok (.iload_n 1, 1) := by decide +kernel
theorem dX12_throwsIf_1 : decode cX12_throwsIf 1 = .ok (.ifCond .eq 8, 3) := by decide +kernel
theorem dX12_throwsIf_4 : decode cX12_throwsIf 4 = .ok (.aload_n 0, 1) := by decide +kernel
theorem dX12_throwsIf_5 : decode cX12_throwsIf 5 = .ok (.iload_n 2, 1) := by decide +kernel
theorem dX12_throwsIf_6 : decode cX12_throwsIf 6 = .ok (.putfield 3, 3) := by decide +kernel
theorem dX12_throwsIf_9 : decode cX12_throwsIf 9 = .ok (.iload_n 1, 1) := by decide +kernel
theorem dX12_throwsIf_10 : decode cX12_throwsIf 10 = .ok (.ireturn, 1) := by decide +kernel
set_option maxRecDepth 100000 in
set_option maxHeartbeats 200000 in
theorem T_X12_throwsIf_0 {X : CX} (hX : Ok X cX12_throwsIf 3 RX12 (some .boolean)) (hdx : dX X = 2) {r : Bool × Hp} (x1 : Int32) (x2 : Int32) (h : Hp) (hf : f_X12_throwsIf x1 x2 h = some r) : J X ((.inl (some (.int (b2i r.1))), r.2)) 0 [(0, .ref 30), (1, .int x1), (2, .int x2)] [] h := by
  unfold f_X12_throwsIf at hf
  refine J_iload_n hX 1 dX12_throwsIf_0 rfl rfl ?_
  rcases ifE hf with ⟨c_1, hf⟩ | ⟨c_1, hf⟩
  · refine J_if_eqT hX 9 dX12_throwsIf_1 rfl c_1 ?_
    refine J_iload_n hX 1 dX12_throwsIf_9 rfl rfl ?_
    obtain ⟨b_2, e_3, hf⟩ := bdE hf
    exact E_Zi hX dX12_throwsIf_10 (toBE e_3) hf
  · refine J_if_eqF hX 9 dX12_throwsIf_1 rfl c_1 ?_
    refine J_aload_n hX 0 dX12_throwsIf_4 rfl rfl ?_
    refine J_iload_n hX 2 dX12_throwsIf_5 rfl rfl ?_
    obtain ⟨h_4, e_5, hf⟩ := bndE hf
    refine J_putI hX dX12_throwsIf_6 fl_X12_3 fw_10_0 ob_30 rfl rfl rfl ?_
    refine J_nmh e_5 ?_
    refine J_iload_n hX 1 dX12_throwsIf_9 rfl rfl ?_
    obtain ⟨b_6, e_7, hf⟩ := bdE hf
    exact E_Zi hX dX12_throwsIf_10 (toBE e_7) hf
set_option maxRecDepth 100000 in
set_option maxHeartbeats 200000 in
theorem C_X12_throwsIf {G : GX} (hG : GOk G) {x1 : Int32} {x2 : Int32} {h : Hp} {r : Bool × Hp} (hf : f_X12_throwsIf x1 x2 h = some r) : Ctr G 2 yX12_throwsIf cX12_throwsIf 3 (some .boolean) [.ref 30, .int x1, .int x2] h ((.inl (some (.int (b2i r.1))), r.2)) :=
  Ctr_of hG RX12 rfl (by decide) rfl (fun X _ hdx hX => T_X12_throwsIf_0 hX hdx x1 x2 h hf)
theorem dX12_in_0 : decode cX12_in 0 = .ok (.iload_n 0, 1) := by decide +kernel
theorem dX12_in_1 : decode cX12_in 1 = .ok (.iload_n 1, 1) := by decide +kernel
theorem dX12_in_2 : decode cX12_in 2 = .ok (.if_icmp .lt 12, 3) := by decide +kernel
theorem dX12_in_5 : decode cX12_in 5 = .ok (.iload_n 0, 1) := by decide +kernel
theorem dX12_in_6 : decode cX12_in 6 = .ok (.iload_n 2, 1) := by decide +kernel
theorem dX12_in_7 : decode cX12_in 7 = .ok (.if_icmp .gt 7, 3) := by decide +kernel
theorem dX12_in_10 : decode cX12_in 10 = .ok (.iconst 1, 1) := by decide +kernel
theorem dX12_in_11 : decode cX12_in 11 = .ok (.goto 4, 3) := by decide +kernel
theorem dX12_in_14 : decode cX12_in 14 = .ok (.iconst 0, 1) := by decide +kernel
theorem dX12_in_15 : decode cX12_in 15 = .ok (.ireturn, 1) := by decide +kernel
set_option maxRecDepth 100000 in
set_option maxHeartbeats 200000 in
theorem T_X12_in_0 {X : CX} (hX : Ok X cX12_in 3 RX12 (some .boolean)) (hdx : dX X = 2) {r : Bool} (x0 : Int32) (x1 : Int32) (x2 : Int32) (h : Hp) (hf : f_X12_in x0 x1 x2 h = r) : J X ((.inl (some (.int (b2i r))), h)) 0 [(0, .int x0), (1, .int x1), (2, .int x2)] [] h := by
  unfold f_X12_in at hf
  refine J_iload_n hX 0 dX12_in_0 rfl rfl ?_
  refine J_iload_n hX 1 dX12_in_1 rfl rfl ?_
  rcases ifE hf with ⟨c_1, hf⟩ | ⟨c_1, hf⟩
  · refine J_icmp_ltT hX 14 dX12_in_2 rfl c_1 ?_
    refine J_iconst hX 0 dX12_in_14 rfl ?_
    exact E_Zt hX dX12_in_15 rfl hf
  · refine J_icmp_ltF hX 14 dX12_in_2 rfl c_1 ?_
    refine J_iload_n hX 0 dX12_in_5 rfl rfl ?_
    refine J_iload_n hX 2 dX12_in_6 rfl rfl ?_
    rcases ifE hf with ⟨c_2, hf⟩ | ⟨c_2, hf⟩
    · refine J_icmp_gtT hX 14 dX12_in_7 rfl c_2 ?_
      refine J_iconst hX 0 dX12_in_14 rfl ?_
      exact E_Zt hX dX12_in_15 rfl hf
    · refine J_icmp_gtF hX 14 dX12_in_7 rfl c_2 ?_
      refine J_iconst hX 1 dX12_in_10 rfl ?_
      refine J_goto hX 15 dX12_in_11 rfl ?_
      exact E_Zt hX dX12_in_15 rfl hf
set_option maxRecDepth 100000 in
set_option maxHeartbeats 200000 in
theorem C_X12_in {G : GX} (hG : GOk G) {x0 : Int32} {x1 : Int32} {x2 : Int32} {h : Hp} {r : Bool} (hf : f_X12_in x0 x1 x2 h = r) : Ctr G 2 yX12_in cX12_in 3 (some .boolean) [.int x0, .int x1, .int x2] h ((.inl (some (.int (b2i r))), h)) :=
  Ctr_of hG RX12 rfl (by decide) rfl (fun X _ hdx hX => T_X12_in_0 hX hdx x0 x1 x2 h hf)
theorem dX12_has_0 : decode cX12_has 0 = .ok (.iload_n 0, 1) := by decide +kernel
theorem dX12_has_1 : decode cX12_has 1 = .ok (.iload_n 1, 1) := by decide +kernel
theorem dX12_has_2 : decode cX12_has 2 = .ok (.ishr, 1) := by decide +kernel
theorem dX12_has_3 : decode cX12_has 3 = .ok (.iconst 1, 1) := by decide +kernel
theorem dX12_has_4 : decode cX12_has 4 = .ok (.iand, 1) := by decide +kernel
theorem dX12_has_5 : decode cX12_has 5 = .ok (.iconst 1, 1) := by decide +kernel
theorem dX12_has_6 : decode cX12_has 6 = .ok (.if_icmp .ne 7, 3) := by decide +kernel
theorem dX12_has_9 : decode cX12_has 9 = .ok (.iconst 1, 1) := by decide +kernel
theorem dX12_has_10 : decode cX12_has 10 = .ok (.goto 4, 3) := by decide +kernel
theorem dX12_has_13 : decode cX12_has 13 = .ok (.iconst 0, 1) := by decide +kernel
theorem dX12_has_14 : decode cX12_has 14 = .ok (.ireturn, 1) := by decide +kernel
set_option maxRecDepth 100000 in
set_option maxHeartbeats 200000 in
theorem T_X12_has_0 {X : CX} (hX : Ok X cX12_has 2 RX12 (some .boolean)) (hdx : dX X = 2) {r : Bool} (x0 : Int32) (x1 : Int32) (h : Hp) (hf : f_X12_has x0 x1 h = r) : J X ((.inl (some (.int (b2i r))), h)) 0 [(0, .int x0), (1, .int x1)] [] h := by
  unfold f_X12_has at hf
  refine J_iload_n hX 0 dX12_has_0 rfl rfl ?_
  refine J_iload_n hX 1 dX12_has_1 rfl rfl ?_
  refine J_ishr hX dX12_has_2 ?_
  refine J_iconst hX 1 dX12_has_3 rfl ?_
  refine J_iand hX dX12_has_4 ?_
  refine J_iconst hX 1 dX12_has_5 rfl ?_
  rcases ifE hf with ⟨c_1, hf⟩ | ⟨c_1, hf⟩
  · refine J_icmp_neF hX 13 dX12_has_6 rfl c_1 ?_
    refine J_iconst hX 1 dX12_has_9 rfl ?_
    refine J_goto hX 14 dX12_has_10 rfl ?_
    exact E_Zt hX dX12_has_14 rfl hf
  · refine J_icmp_neT hX 13 dX12_has_6 rfl c_1 ?_
    refine J_iconst hX 0 dX12_has_13 rfl ?_
    exact E_Zt hX dX12_has_14 rfl hf
set_option maxRecDepth 100000 in
set_option maxHeartbeats 200000 in
theorem C_X12_has {G : GX} (hG : GOk G) {x0 : Int32} {x1 : Int32} {h : Hp} {r : Bool} (hf : f_X12_has x0 x1 h = r) : Ctr G 2 yX12_has cX12_has 2 (some .boolean) [.int x0, .int x1] h ((.inl (some (.int (b2i r))), h)) :=
  Ctr_of hG RX12 rfl (by decide) rfl (fun X _ hdx hX => T_X12_has_0 hX hdx x0 x1 h hf)
theorem dX12_image_0 : decode cX12_image 0 = .ok (.aload_n 0, 1) := by decide +kernel
theorem dX12_image_1 : decode cX12_image 1 = .ok (.iconst 0, 1) := by decide +kernel
theorem dX12_image_2 : decode cX12_image 2 = .ok (.putfield 3, 3) := by decide +kernel
theorem dX12_image_5 : decode cX12_image 5 = .ok (.iconst 0, 1) := by decide +kernel
theorem dX12_image_6 : decode cX12_image 6 = .ok (.istore_n 1, 1) := by decide +kernel
theorem dX12_image_7 : decode cX12_image 7 = .ok (.iload_n 1, 1) := by decide +kernel
theorem dX12_image_8 : decode cX12_image 8 = .ok (.sipush 1341, 3) := by decide +kernel
theorem dX12_image_11 : decode cX12_image 11 = .ok (.if_icmp .ge 21, 3) := by decide +kernel
theorem dX12_image_14 : decode cX12_image 14 = .ok (.aload_n 0, 1) := by decide +kernel
theorem dX12_image_15 : decode cX12_image 15 = .ok (.getfield 17, 3) := by decide +kernel
theorem dX12_image_18 : decode cX12_image 18 = .ok (.iload_n 1, 1) := by decide +kernel
theorem dX12_image_19 : decode cX12_image 19 = .ok (.aload_n 0, 1) := by decide +kernel
theorem dX12_image_20 : decode cX12_image 20 = .ok (.getfield 13, 3) := by decide +kernel
theorem dX12_image_23 : decode cX12_image 23 = .ok (.iload_n 1, 1) := by decide +kernel
theorem dX12_image_24 : decode cX12_image 24 = .ok (.iaload, 1) := by decide +kernel
theorem dX12_image_25 : decode cX12_image 25 = .ok (.iastore, 1) := by decide +kernel
theorem dX12_image_26 : decode cX12_image 26 = .ok (.iinc 1 1, 3) := by decide +kernel
theorem dX12_image_29 : decode cX12_image 29 = .ok (.goto (-22), 3) := by decide +kernel
theorem dX12_image_32 : decode cX12_image 32 = .ok (.aload_n 0, 1) := by decide +kernel
theorem dX12_image_33 : decode cX12_image 33 = .ok (.iconst 1, 1) := by decide +kernel
theorem dX12_image_34 : decode cX12_image 34 = .ok (.putfield 67, 3) := by decide +kernel
theorem dX12_image_37 : decode cX12_image 37 = .ok (.return_, 1) := by decide +kernel
set_option maxRecDepth 100000 in
set_option maxHeartbeats 200000 in
theorem T_X12_image_7_s {X : CX} (hX : Ok X cX12_image 2 RX12 none) (hdx : dX X = 2) {r : Hp} (q_7 : Int32 → Hp → Option Hp) (hq_7 : ∀ (x1 : Int32) (h : Hp), q_7 x1 h = some r → J X ((.inl none, r)) 7 [(0, .ref 30), (1, .int x1)] [] h) (x1 : Int32) (h : Hp) (hf : S_X12_image_7 q_7 x1 h = some r) : J X ((.inl none, r)) 7 [(0, .ref 30), (1, .int x1)] [] h := by
  unfold S_X12_image_7 at hf
  refine J_iload_n hX 1 dX12_image_7 rfl rfl ?_
  refine J_sipush hX 1341 dX12_image_8 rfl ?_
  rcases ifE hf with ⟨c_1, hf⟩ | ⟨c_1, hf⟩
  · refine J_icmp_geF hX 32 dX12_image_11 rfl c_1 ?_
    refine J_aload_n hX 0 dX12_image_14 rfl rfl ?_
    refine J_getR hX 32 dX12_image_15 fl_X12_17 ob_30 rfl rfl ?_
    refine J_iload_n hX 1 dX12_image_18 rfl rfl ?_
    refine J_aload_n hX 0 dX12_image_19 rfl rfl ?_
    refine J_getR hX 31 dX12_image_20 fl_X12_13 ob_30 rfl rfl ?_
    refine J_iload_n hX 1 dX12_image_23 rfl rfl ?_
    obtain ⟨g_2, hf⟩ := gdE hf
    refine J_ald hX x1.toNatClampNeg dX12_image_24 ar_31 (Or.inl ⟨rfl, rfl⟩) g_2 rfl ?_
    obtain ⟨g_3, hf⟩ := gdE hf
    obtain ⟨h_4, e_5, hf⟩ := bndE hf
    refine J_ast hX x1.toNatClampNeg (h 31 x1.toNatClampNeg) dX12_image_25 ar_32 (Or.inl ⟨rfl, rfl, rfl⟩) g_3 rfl ?_
    refine J_nmh e_5 ?_
    refine J_iinc hX (x1 + 1) 1 [(1, .int (x1 + 1)), (0, .ref 30)] dX12_image_26 rfl rfl rfl rfl ?_
    refine J_goto hX 7 dX12_image_29 rfl ?_
    refine J_sub [1, 0] [(0, .ref 30), (1, .int (x1 + 1))] rfl ?_
    exact hq_7 (x1 + 1) h_4 hf
  · refine J_icmp_geT hX 32 dX12_image_11 rfl c_1 ?_
    refine J_aload_n hX 0 dX12_image_32 rfl rfl ?_
    refine J_iconst hX 1 dX12_image_33 rfl ?_
    obtain ⟨h_6, e_7, hf⟩ := bndE hf
    refine J_putI hX dX12_image_34 fl_X12_67 fw_10_6 ob_30 rfl (by decide) (by decide) ?_
    refine J_nmh e_7 ?_
    exact E_Vi hX dX12_image_37 hf
set_option maxRecDepth 100000 in
set_option maxHeartbeats 200000 in
theorem T_X12_image_7 {X : CX} (hX : Ok X cX12_image 2 RX12 none) (hdx : dX X = 2) {r : Hp} : ∀ (n : Nat) (x1 : Int32) (h : Hp), F_X12_image_7 n x1 h = some r → J X ((.inl none, r)) 7 [(0, .ref 30), (1, .int x1)] [] h := by
  intro n
  induction n with
  | zero => intro x1 h hf; exact nomatch hf
  | succ n ih => intro x1 h hf; exact T_X12_image_7_s hX hdx _ (fun x1 h hf => ih x1 h hf) x1 h hf
set_option maxRecDepth 100000 in
set_option maxHeartbeats 200000 in
theorem T_X12_image_0 {X : CX} (hX : Ok X cX12_image 2 RX12 none) (hdx : dX X = 2) {r : Hp} (h : Hp) (hf : f_X12_image h = some r) : J X ((.inl none, r)) 0 [(0, .ref 30)] [] h := by
  unfold f_X12_image at hf
  refine J_aload_n hX 0 dX12_image_0 rfl rfl ?_
  refine J_iconst hX 0 dX12_image_1 rfl ?_
  obtain ⟨h_1, e_2, hf⟩ := bndE hf
  refine J_putI hX dX12_image_2 fl_X12_3 fw_10_0 ob_30 rfl rfl rfl ?_
  refine J_nmh e_2 ?_
  refine J_iconst hX 0 dX12_image_5 rfl ?_
  refine J_istore_n hX [(1, .int 0), (0, .ref 30)] dX12_image_6 rfl rfl rfl ?_
  refine J_sub [1, 0] [(0, .ref 30), (1, .int 0)] rfl ?_
  exact T_X12_image_7 hX hdx FU 0 h_1 hf
set_option maxRecDepth 100000 in
set_option maxHeartbeats 200000 in
theorem C_X12_image {G : GX} (hG : GOk G) {h : Hp} {r : Hp} (hf : f_X12_image h = some r) : Ctr G 2 yX12_image cX12_image 2 none [.ref 30] h ((.inl none, r)) :=
  Ctr_of hG RX12 rfl (by decide) rfl (fun X _ hdx hX => T_X12_image_0 hX hdx h hf)
theorem dX12_back_0 : decode cX12_back 0 = .ok (.aload_n 0, 1) := by decide +kernel
theorem dX12_back_1 : decode cX12_back 1 = .ok (.iconst 0, 1) := by decide +kernel
theorem dX12_back_2 : decode cX12_back 2 = .ok (.putfield 3, 3) := by decide +kernel
theorem dX12_back_5 : decode cX12_back 5 = .ok (.aload_n 0, 1) := by decide +kernel
theorem dX12_back_6 : decode cX12_back 6 = .ok (.getfield 67, 3) := by decide +kernel
theorem dX12_back_9 : decode cX12_back 9 = .ok (.ifCond .ne 5, 3) := by decide +kernel
theorem dX12_back_12 : decode cX12_back 12 = .ok (.iconst 0, 1) := by decide +kernel
theorem dX12_back_13 : decode cX12_back 13 = .ok (.ireturn, 1) := by decide +kernel
theorem dX12_back_14 : decode cX12_back 14 = .ok (.iconst 0, 1) := by decide +kernel
theorem dX12_back_15 : decode cX12_back 15 = .ok (.istore_n 1, 1) := by decide +kernel
theorem dX12_back_16 : decode cX12_back 16 = .ok (.iload_n 1, 1) := by decide +kernel
theorem dX12_back_17 : decode cX12_back 17 = .ok (.sipush 1341, 3) := by decide +kernel
theorem dX12_back_20 : decode cX12_back 20 = .ok (.if_icmp .ge 21, 3) := by decide +kernel
theorem dX12_back_23 : decode cX12_back 23 = .ok (.aload_n 0, 1) := by decide +kernel
theorem dX12_back_24 : decode cX12_back 24 = .ok (.getfield 13, 3) := by decide +kernel
theorem dX12_back_27 : decode cX12_back 27 = .ok (.iload_n 1, 1) := by decide +kernel
theorem dX12_back_28 : decode cX12_back 28 = .ok (.aload_n 0, 1) := by decide +kernel
theorem dX12_back_29 : decode cX12_back 29 = .ok (.getfield 17, 3) := by decide +kernel
theorem dX12_back_32 : decode cX12_back 32 = .ok (.iload_n 1, 1) := by decide +kernel
theorem dX12_back_33 : decode cX12_back 33 = .ok (.iaload, 1) := by decide +kernel
theorem dX12_back_34 : decode cX12_back 34 = .ok (.iastore, 1) := by decide +kernel
theorem dX12_back_35 : decode cX12_back 35 = .ok (.iinc 1 1, 3) := by decide +kernel
theorem dX12_back_38 : decode cX12_back 38 = .ok (.goto (-22), 3) := by decide +kernel
theorem dX12_back_41 : decode cX12_back 41 = .ok (.aload_n 0, 1) := by decide +kernel
theorem dX12_back_42 : decode cX12_back 42 = .ok (.iconst 0, 1) := by decide +kernel
theorem dX12_back_43 : decode cX12_back 43 = .ok (.putfield 71, 3) := by decide +kernel
theorem dX12_back_46 : decode cX12_back 46 = .ok (.iconst 1, 1) := by decide +kernel
theorem dX12_back_47 : decode cX12_back 47 = .ok (.ireturn, 1) := by decide +kernel
set_option maxRecDepth 100000 in
set_option maxHeartbeats 200000 in
theorem T_X12_back_16_s {X : CX} (hX : Ok X cX12_back 2 RX12 (some .boolean)) (hdx : dX X = 2) {r : Bool × Hp} (q_16 : Int32 → Hp → Option (Bool × Hp)) (hq_16 : ∀ (x1 : Int32) (h : Hp), q_16 x1 h = some r → J X ((.inl (some (.int (b2i r.1))), r.2)) 16 [(0, .ref 30), (1, .int x1)] [] h) (x1 : Int32) (h : Hp) (hf : S_X12_back_16 q_16 x1 h = some r) : J X ((.inl (some (.int (b2i r.1))), r.2)) 16 [(0, .ref 30), (1, .int x1)] [] h := by
  unfold S_X12_back_16 at hf
  refine J_iload_n hX 1 dX12_back_16 rfl rfl ?_
  refine J_sipush hX 1341 dX12_back_17 rfl ?_
  rcases ifE hf with ⟨c_1, hf⟩ | ⟨c_1, hf⟩
  · refine J_icmp_geF hX 41 dX12_back_20 rfl c_1 ?_
    refine J_aload_n hX 0 dX12_back_23 rfl rfl ?_
    refine J_getR hX 31 dX12_back_24 fl_X12_13 ob_30 rfl rfl ?_
    refine J_iload_n hX 1 dX12_back_27 rfl rfl ?_
    refine J_aload_n hX 0 dX12_back_28 rfl rfl ?_
    refine J_getR hX 32 dX12_back_29 fl_X12_17 ob_30 rfl rfl ?_
    refine J_iload_n hX 1 dX12_back_32 rfl rfl ?_
    obtain ⟨g_2, hf⟩ := gdE hf
    refine J_ald hX x1.toNatClampNeg dX12_back_33 ar_32 (Or.inl ⟨rfl, rfl⟩) g_2 rfl ?_
    obtain ⟨g_3, hf⟩ := gdE hf
    obtain ⟨h_4, e_5, hf⟩ := bndE hf
    refine J_ast hX x1.toNatClampNeg (h 32 x1.toNatClampNeg) dX12_back_34 ar_31 (Or.inl ⟨rfl, rfl, rfl⟩) g_3 rfl ?_
    refine J_nmh e_5 ?_
    refine J_iinc hX (x1 + 1) 1 [(1, .int (x1 + 1)), (0, .ref 30)] dX12_back_35 rfl rfl rfl rfl ?_
    refine J_goto hX 16 dX12_back_38 rfl ?_
    refine J_sub [1, 0] [(0, .ref 30), (1, .int (x1 + 1))] rfl ?_
    exact hq_16 (x1 + 1) h_4 hf
  · refine J_icmp_geT hX 41 dX12_back_20 rfl c_1 ?_
    refine J_aload_n hX 0 dX12_back_41 rfl rfl ?_
    refine J_iconst hX 0 dX12_back_42 rfl ?_
    obtain ⟨h_6, e_7, hf⟩ := bndE hf
    refine J_putI hX dX12_back_43 fl_X12_71 fw_10_7 ob_30 rfl rfl rfl ?_
    refine J_nmh e_7 ?_
    refine J_iconst hX 1 dX12_back_46 rfl ?_
    exact E_Zi hX dX12_back_47 rfl hf
set_option maxRecDepth 100000 in
set_option maxHeartbeats 200000 in
theorem T_X12_back_16 {X : CX} (hX : Ok X cX12_back 2 RX12 (some .boolean)) (hdx : dX X = 2) {r : Bool × Hp} : ∀ (n : Nat) (x1 : Int32) (h : Hp), F_X12_back_16 n x1 h = some r → J X ((.inl (some (.int (b2i r.1))), r.2)) 16 [(0, .ref 30), (1, .int x1)] [] h := by
  intro n
  induction n with
  | zero => intro x1 h hf; exact nomatch hf
  | succ n ih => intro x1 h hf; exact T_X12_back_16_s hX hdx _ (fun x1 h hf => ih x1 h hf) x1 h hf
set_option maxRecDepth 100000 in
set_option maxHeartbeats 200000 in
theorem T_X12_back_0 {X : CX} (hX : Ok X cX12_back 2 RX12 (some .boolean)) (hdx : dX X = 2) {r : Bool × Hp} (h : Hp) (hf : f_X12_back h = some r) : J X ((.inl (some (.int (b2i r.1))), r.2)) 0 [(0, .ref 30)] [] h := by
  unfold f_X12_back at hf
  refine J_aload_n hX 0 dX12_back_0 rfl rfl ?_
  refine J_iconst hX 0 dX12_back_1 rfl ?_
  obtain ⟨h_1, e_2, hf⟩ := bndE hf
  refine J_putI hX dX12_back_2 fl_X12_3 fw_10_0 ob_30 rfl rfl rfl ?_
  refine J_nmh e_2 ?_
  refine J_aload_n hX 0 dX12_back_5 rfl rfl ?_
  refine J_getI hX dX12_back_6 fl_X12_67 ob_30 rfl ?_
  rcases ifE hf with ⟨c_3, hf⟩ | ⟨c_3, hf⟩
  · refine J_if_neF hX 14 dX12_back_9 rfl c_3 ?_
    refine J_iconst hX 0 dX12_back_12 rfl ?_
    exact E_Zi hX dX12_back_13 rfl hf
  · refine J_if_neT hX 14 dX12_back_9 rfl c_3 ?_
    refine J_iconst hX 0 dX12_back_14 rfl ?_
    refine J_istore_n hX [(1, .int 0), (0, .ref 30)] dX12_back_15 rfl rfl rfl ?_
    refine J_sub [1, 0] [(0, .ref 30), (1, .int 0)] rfl ?_
    exact T_X12_back_16 hX hdx FU 0 h_1 hf
set_option maxRecDepth 100000 in
set_option maxHeartbeats 200000 in
theorem C_X12_back {G : GX} (hG : GOk G) {h : Hp} {r : Bool × Hp} (hf : f_X12_back h = some r) : Ctr G 2 yX12_back cX12_back 2 (some .boolean) [.ref 30] h ((.inl (some (.int (b2i r.1))), r.2)) :=
  Ctr_of hG RX12 rfl (by decide) rfl (fun X _ hdx hX => T_X12_back_0 hX hdx h hf)
theorem dX12_remembers_0 : decode cX12_remembers 0 = .ok (.aload_n 0, 1) := by decide +kernel
theorem dX12_remembers_1 : decode cX12_remembers 1 = .ok (.getfield 71, 3) := by decide +kernel
theorem dX12_remembers_4 : decode cX12_remembers 4 = .ok (.bipush 12, 2) := by decide +kernel
theorem dX12_remembers_6 : decode cX12_remembers 6 = .ok (.if_icmp .ne 37, 3) := by decide +kernel
theorem dX12_remembers_9 : decode cX12_remembers 9 = .ok (.iconst 0, 1) := by decide +kernel
theorem dX12_remembers_10 : decode cX12_remembers 10 = .ok (.istore_n 1, 1) := by decide +kernel
theorem dX12_remembers_11 : decode cX12_remembers 11 = .ok (.iload_n 1, 1) := by decide +kernel
theorem dX12_remembers_12 : decode cX12_remembers 12 = .ok (.sipush 5412, 3) := by decide +kernel
theorem dX12_remembers_15 : decode cX12_remembers 15 = .ok (.if_icmp .ge 25, 3) := by decide +kernel
theorem dX12_remembers_18 : decode cX12_remembers 18 = .ok (.aload_n 0, 1) := by decide +kernel
theorem dX12_remembers_19 : decode cX12_remembers 19 = .ok (.getfield 26, 3) := by decide +kernel
theorem dX12_remembers_22 : decode cX12_remembers 22 = .ok (.iload_n 1, 1) := by decide +kernel
theorem dX12_remembers_23 : decode cX12_remembers 23 = .ok (.aload_n 0, 1) := by decide +kernel
theorem dX12_remembers_24 : decode cX12_remembers 24 = .ok (.getfield 26, 3) := by decide +kernel
theorem dX12_remembers_27 : decode cX12_remembers 27 = .ok (.iload_n 1, 1) := by decide +kernel
theorem dX12_remembers_28 : decode cX12_remembers 28 = .ok (.sipush 492, 3) := by decide +kernel
theorem dX12_remembers_31 : decode cX12_remembers 31 = .ok (.iadd, 1) := by decide +kernel
theorem dX12_remembers_32 : decode cX12_remembers 32 = .ok (.iaload, 1) := by decide +kernel
theorem dX12_remembers_33 : decode cX12_remembers 33 = .ok (.iastore, 1) := by decide +kernel
theorem dX12_remembers_34 : decode cX12_remembers 34 = .ok (.iinc 1 1, 3) := by decide +kernel
theorem dX12_remembers_37 : decode cX12_remembers 37 = .ok (.goto (-26), 3) := by decide +kernel
theorem dX12_remembers_40 : decode cX12_remembers 40 = .ok (.goto 13, 3) := by decide +kernel
theorem dX12_remembers_43 : decode cX12_remembers 43 = .ok (.aload_n 0, 1) := by decide +kernel
theorem dX12_remembers_44 : decode cX12_remembers 44 = .ok (.dup, 1) := by decide +kernel
theorem dX12_remembers_45 : decode cX12_remembers 45 = .ok (.getfield 71, 3) := by decide +kernel
theorem dX12_remembers_48 : decode cX12_remembers 48 = .ok (.iconst 1, 1) := by decide +kernel
theorem dX12_remembers_49 : decode cX12_remembers 49 = .ok (.iadd, 1) := by decide +kernel
theorem dX12_remembers_50 : decode cX12_remembers 50 = .ok (.putfield 71, 3) := by decide +kernel
theorem dX12_remembers_53 : decode cX12_remembers 53 = .ok (.iconst 0, 1) := by decide +kernel
theorem dX12_remembers_54 : decode cX12_remembers 54 = .ok (.istore_n 1, 1) := by decide +kernel
theorem dX12_remembers_55 : decode cX12_remembers 55 = .ok (.iload_n 1, 1) := by decide +kernel
theorem dX12_remembers_56 : decode cX12_remembers 56 = .ok (.sipush 492, 3) := by decide +kernel
theorem dX12_remembers_59 : decode cX12_remembers 59 = .ok (.if_icmp .ge 32, 3) := by decide +kernel
theorem dX12_remembers_62 : decode cX12_remembers 62 = .ok (.aload_n 0, 1) := by decide +kernel
theorem dX12_remembers_63 : decode cX12_remembers 63 = .ok (.getfield 26, 3) := by decide +kernel
theorem dX12_remembers_66 : decode cX12_remembers 66 = .ok (.sipush 492, 3) := by decide +kernel
theorem dX12_remembers_69 : decode cX12_remembers 69 = .ok (.aload_n 0, 1) := by decide +kernel
theorem dX12_remembers_70 : decode cX12_remembers 70 = .ok (.getfield 71, 3) := by decide +kernel
theorem dX12_remembers_73 : decode cX12_remembers 73 = .ok (.iconst 1, 1) := by decide +kernel
theorem dX12_remembers_74 : decode cX12_remembers 74 = .ok (.isub, 1) := by decide +kernel
theorem dX12_remembers_75 : decode cX12_remembers 75 = .ok (.imul, 1) := by decide +kernel
theorem dX12_remembers_76 : decode cX12_remembers 76 = .ok (.iload_n 1, 1) := by decide +kernel
theorem dX12_remembers_77 : decode cX12_remembers 77 = .ok (.iadd, 1) := by decide +kernel
theorem dX12_remembers_78 : decode cX12_remembers 78 = .ok (.aload_n 0, 1) := by decide +kernel
theorem dX12_remembers_79 : decode cX12_remembers 79 = .ok (.getfield 13, 3) := by decide +kernel
theorem dX12_remembers_82 : decode cX12_remembers 82 = .ok (.iload_n 1, 1) := by decide +kernel
theorem dX12_remembers_83 : decode cX12_remembers 83 = .ok (.iaload, 1) := by decide +kernel
theorem dX12_remembers_84 : decode cX12_remembers 84 = .ok (.iastore, 1) := by decide +kernel
theorem dX12_remembers_85 : decode cX12_remembers 85 = .ok (.iinc 1 1, 3) := by decide +kernel
theorem dX12_remembers_88 : decode cX12_remembers 88 = .ok (.goto (-33), 3) := by decide +kernel
theorem dX12_remembers_91 : decode cX12_remembers 91 = .ok (.return_, 1) := by decide +kernel
set_option maxRecDepth 100000 in
set_option maxHeartbeats 200000 in
theorem T_X12_remembers_55_s {X : CX} (hX : Ok X cX12_remembers 2 RX12 none) (hdx : dX X = 2) {r : Hp} (q_55 : Int32 → Hp → Option Hp) (hq_55 : ∀ (x1 : Int32) (h : Hp), q_55 x1 h = some r → J X ((.inl none, r)) 55 [(0, .ref 30), (1, .int x1)] [] h) (x1 : Int32) (h : Hp) (hf : S_X12_remembers_55 q_55 x1 h = some r) : J X ((.inl none, r)) 55 [(0, .ref 30), (1, .int x1)] [] h := by
  unfold S_X12_remembers_55 at hf
  refine J_iload_n hX 1 dX12_remembers_55 rfl rfl ?_
  refine J_sipush hX 492 dX12_remembers_56 rfl ?_
  rcases ifE hf with ⟨c_1, hf⟩ | ⟨c_1, hf⟩
  · refine J_icmp_geF hX 91 dX12_remembers_59 rfl c_1 ?_
    refine J_aload_n hX 0 dX12_remembers_62 rfl rfl ?_
    refine J_getR hX 35 dX12_remembers_63 fl_X12_26 ob_30 rfl rfl ?_
    refine J_sipush hX 492 dX12_remembers_66 rfl ?_
    refine J_aload_n hX 0 dX12_remembers_69 rfl rfl ?_
    refine J_getI hX dX12_remembers_70 fl_X12_71 ob_30 rfl ?_
    refine J_iconst hX 1 dX12_remembers_73 rfl ?_
    refine J_isub hX dX12_remembers_74 ?_
    refine J_imul hX dX12_remembers_75 ?_
    refine J_iload_n hX 1 dX12_remembers_76 rfl rfl ?_
    refine J_iadd hX dX12_remembers_77 ?_
    refine J_aload_n hX 0 dX12_remembers_78 rfl rfl ?_
    refine J_getR hX 31 dX12_remembers_79 fl_X12_13 ob_30 rfl rfl ?_
    refine J_iload_n hX 1 dX12_remembers_82 rfl rfl ?_
    obtain ⟨g_2, hf⟩ := gdE hf
    refine J_ald hX x1.toNatClampNeg dX12_remembers_83 ar_31 (Or.inl ⟨rfl, rfl⟩) g_2 rfl ?_
    obtain ⟨g_3, hf⟩ := gdE hf
    obtain ⟨h_4, e_5, hf⟩ := bndE hf
    refine J_ast hX (((492 * ((h 30 7) - 1)) + x1).toNatClampNeg) (h 31 x1.toNatClampNeg) dX12_remembers_84 ar_35 (Or.inl ⟨rfl, rfl, rfl⟩) g_3 rfl ?_
    refine J_nmh e_5 ?_
    refine J_iinc hX (x1 + 1) 1 [(1, .int (x1 + 1)), (0, .ref 30)] dX12_remembers_85 rfl rfl rfl rfl ?_
    refine J_goto hX 55 dX12_remembers_88 rfl ?_
    refine J_sub [1, 0] [(0, .ref 30), (1, .int (x1 + 1))] rfl ?_
    exact hq_55 (x1 + 1) h_4 hf
  · refine J_icmp_geT hX 91 dX12_remembers_59 rfl c_1 ?_
    exact E_Vi hX dX12_remembers_91 hf
set_option maxRecDepth 100000 in
set_option maxHeartbeats 200000 in
theorem T_X12_remembers_55 {X : CX} (hX : Ok X cX12_remembers 2 RX12 none) (hdx : dX X = 2) {r : Hp} : ∀ (n : Nat) (x1 : Int32) (h : Hp), F_X12_remembers_55 n x1 h = some r → J X ((.inl none, r)) 55 [(0, .ref 30), (1, .int x1)] [] h := by
  intro n
  induction n with
  | zero => intro x1 h hf; exact nomatch hf
  | succ n ih => intro x1 h hf; exact T_X12_remembers_55_s hX hdx _ (fun x1 h hf => ih x1 h hf) x1 h hf
set_option maxRecDepth 100000 in
set_option maxHeartbeats 200000 in
theorem T_X12_remembers_11_s {X : CX} (hX : Ok X cX12_remembers 2 RX12 none) (hdx : dX X = 2) {r : Hp} (q_11 : Int32 → Hp → Option Hp) (hq_11 : ∀ (x1 : Int32) (h : Hp), q_11 x1 h = some r → J X ((.inl none, r)) 11 [(0, .ref 30), (1, .int x1)] [] h) (x1 : Int32) (h : Hp) (hf : S_X12_remembers_11 q_11 x1 h = some r) : J X ((.inl none, r)) 11 [(0, .ref 30), (1, .int x1)] [] h := by
  unfold S_X12_remembers_11 at hf
  refine J_iload_n hX 1 dX12_remembers_11 rfl rfl ?_
  refine J_sipush hX 5412 dX12_remembers_12 rfl ?_
  rcases ifE hf with ⟨c_1, hf⟩ | ⟨c_1, hf⟩
  · refine J_icmp_geF hX 40 dX12_remembers_15 rfl c_1 ?_
    refine J_aload_n hX 0 dX12_remembers_18 rfl rfl ?_
    refine J_getR hX 35 dX12_remembers_19 fl_X12_26 ob_30 rfl rfl ?_
    refine J_iload_n hX 1 dX12_remembers_22 rfl rfl ?_
    refine J_aload_n hX 0 dX12_remembers_23 rfl rfl ?_
    refine J_getR hX 35 dX12_remembers_24 fl_X12_26 ob_30 rfl rfl ?_
    refine J_iload_n hX 1 dX12_remembers_27 rfl rfl ?_
    refine J_sipush hX 492 dX12_remembers_28 rfl ?_
    refine J_iadd hX dX12_remembers_31 ?_
    obtain ⟨g_2, hf⟩ := gdE hf
    refine J_ald hX ((x1 + 492).toNatClampNeg) dX12_remembers_32 ar_35 (Or.inl ⟨rfl, rfl⟩) g_2 rfl ?_
    obtain ⟨g_3, hf⟩ := gdE hf
    obtain ⟨h_4, e_5, hf⟩ := bndE hf
    refine J_ast hX x1.toNatClampNeg (h 35 ((x1 + 492).toNatClampNeg)) dX12_remembers_33 ar_35 (Or.inl ⟨rfl, rfl, rfl⟩) g_3 rfl ?_
    refine J_nmh e_5 ?_
    refine J_iinc hX (x1 + 1) 1 [(1, .int (x1 + 1)), (0, .ref 30)] dX12_remembers_34 rfl rfl rfl rfl ?_
    refine J_goto hX 11 dX12_remembers_37 rfl ?_
    refine J_sub [1, 0] [(0, .ref 30), (1, .int (x1 + 1))] rfl ?_
    exact hq_11 (x1 + 1) h_4 hf
  · refine J_icmp_geT hX 40 dX12_remembers_15 rfl c_1 ?_
    refine J_goto hX 53 dX12_remembers_40 rfl ?_
    refine J_iconst hX 0 dX12_remembers_53 rfl ?_
    refine J_istore_n hX [(1, .int 0), (0, .ref 30)] dX12_remembers_54 rfl rfl rfl ?_
    refine J_sub [1, 0] [(0, .ref 30), (1, .int 0)] rfl ?_
    exact T_X12_remembers_55 hX hdx FU 0 h hf
set_option maxRecDepth 100000 in
set_option maxHeartbeats 200000 in
theorem T_X12_remembers_11 {X : CX} (hX : Ok X cX12_remembers 2 RX12 none) (hdx : dX X = 2) {r : Hp} : ∀ (n : Nat) (x1 : Int32) (h : Hp), F_X12_remembers_11 n x1 h = some r → J X ((.inl none, r)) 11 [(0, .ref 30), (1, .int x1)] [] h := by
  intro n
  induction n with
  | zero => intro x1 h hf; exact nomatch hf
  | succ n ih => intro x1 h hf; exact T_X12_remembers_11_s hX hdx _ (fun x1 h hf => ih x1 h hf) x1 h hf
set_option maxRecDepth 100000 in
set_option maxHeartbeats 200000 in
theorem T_X12_remembers_0 {X : CX} (hX : Ok X cX12_remembers 2 RX12 none) (hdx : dX X = 2) {r : Hp} (h : Hp) (hf : f_X12_remembers h = some r) : J X ((.inl none, r)) 0 [(0, .ref 30)] [] h := by
  unfold f_X12_remembers at hf
  refine J_aload_n hX 0 dX12_remembers_0 rfl rfl ?_
  refine J_getI hX dX12_remembers_1 fl_X12_71 ob_30 rfl ?_
  refine J_bipush hX 12 dX12_remembers_4 rfl ?_
  rcases ifE hf with ⟨c_1, hf⟩ | ⟨c_1, hf⟩
  · refine J_icmp_neF hX 43 dX12_remembers_6 rfl c_1 ?_
    refine J_iconst hX 0 dX12_remembers_9 rfl ?_
    refine J_istore_n hX [(1, .int 0), (0, .ref 30)] dX12_remembers_10 rfl rfl rfl ?_
    refine J_sub [1, 0] [(0, .ref 30), (1, .int 0)] rfl ?_
    exact T_X12_remembers_11 hX hdx FU 0 h hf
  · refine J_icmp_neT hX 43 dX12_remembers_6 rfl c_1 ?_
    refine J_aload_n hX 0 dX12_remembers_43 rfl rfl ?_
    refine J_dup hX dX12_remembers_44 rfl ?_
    refine J_getI hX dX12_remembers_45 fl_X12_71 ob_30 rfl ?_
    refine J_iconst hX 1 dX12_remembers_48 rfl ?_
    refine J_iadd hX dX12_remembers_49 ?_
    obtain ⟨h_2, e_3, hf⟩ := bndE hf
    refine J_putI hX dX12_remembers_50 fl_X12_71 fw_10_7 ob_30 rfl rfl rfl ?_
    refine J_nmh e_3 ?_
    refine J_iconst hX 0 dX12_remembers_53 rfl ?_
    refine J_istore_n hX [(1, .int 0), (0, .ref 30)] dX12_remembers_54 rfl rfl rfl ?_
    refine J_sub [1, 0] [(0, .ref 30), (1, .int 0)] rfl ?_
    exact T_X12_remembers_55 hX hdx FU 0 h_2 hf
set_option maxRecDepth 100000 in
set_option maxHeartbeats 200000 in
theorem C_X12_remembers {G : GX} (hG : GOk G) {h : Hp} {r : Hp} (hf : f_X12_remembers h = some r) : Ctr G 2 yX12_remembers cX12_remembers 2 none [.ref 30] h ((.inl none, r)) :=
  Ctr_of hG RX12 rfl (by decide) rfl (fun X _ hdx hX => T_X12_remembers_0 hX hdx h hf)
theorem dX12_undo_0 : decode cX12_undo 0 = .ok (.aload_n 0, 1) := by decide +kernel
theorem dX12_undo_1 : decode cX12_undo 1 = .ok (.iconst 0, 1) := by decide +kernel
theorem dX12_undo_2 : decode cX12_undo 2 = .ok (.putfield 3, 3) := by decide +kernel
theorem dX12_undo_5 : decode cX12_undo 5 = .ok (.aload_n 0, 1) := by decide +kernel
theorem dX12_undo_6 : decode cX12_undo 6 = .ok (.getfield 71, 3) := by decide +kernel
theorem dX12_undo_9 : decode cX12_undo 9 = .ok (.ifCond .ne 5, 3) := by decide +kernel
theorem dX12_undo_12 : decode cX12_undo 12 = .ok (.iconst 0, 1) := by decide +kernel
theorem dX12_undo_13 : decode cX12_undo 13 = .ok (.ireturn, 1) := by decide +kernel
theorem dX12_undo_14 : decode cX12_undo 14 = .ok (.aload_n 0, 1) := by decide +kernel
theorem dX12_undo_15 : decode cX12_undo 15 = .ok (.dup, 1) := by decide +kernel
theorem dX12_undo_16 : decode cX12_undo 16 = .ok (.getfield 71, 3) := by decide +kernel
theorem dX12_undo_19 : decode cX12_undo 19 = .ok (.iconst 1, 1) := by decide +kernel
theorem dX12_undo_20 : decode cX12_undo 20 = .ok (.isub, 1) := by decide +kernel
theorem dX12_undo_21 : decode cX12_undo 21 = .ok (.putfield 71, 3) := by decide +kernel
theorem dX12_undo_24 : decode cX12_undo 24 = .ok (.iconst 0, 1) := by decide +kernel
theorem dX12_undo_25 : decode cX12_undo 25 = .ok (.istore_n 1, 1) := by decide +kernel
theorem dX12_undo_26 : decode cX12_undo 26 = .ok (.iload_n 1, 1) := by decide +kernel
theorem dX12_undo_27 : decode cX12_undo 27 = .ok (.sipush 492, 3) := by decide +kernel
theorem dX12_undo_30 : decode cX12_undo 30 = .ok (.if_icmp .ge 30, 3) := by decide +kernel
theorem dX12_undo_33 : decode cX12_undo 33 = .ok (.aload_n 0, 1) := by decide +kernel
theorem dX12_undo_34 : decode cX12_undo 34 = .ok (.getfield 13, 3) := by decide +kernel
theorem dX12_undo_37 : decode cX12_undo 37 = .ok (.iload_n 1, 1) := by decide +kernel
theorem dX12_undo_38 : decode cX12_undo 38 = .ok (.aload_n 0, 1) := by decide +kernel
theorem dX12_undo_39 : decode cX12_undo 39 = .ok (.getfield 26, 3) := by decide +kernel
theorem dX12_undo_42 : decode cX12_undo 42 = .ok (.sipush 492, 3) := by decide +kernel
theorem dX12_undo_45 : decode cX12_undo 45 = .ok (.aload_n 0, 1) := by decide +kernel
theorem dX12_undo_46 : decode cX12_undo 46 = .ok (.getfield 71, 3) := by decide +kernel
theorem dX12_undo_49 : decode cX12_undo 49 = .ok (.imul, 1) := by decide +kernel
theorem dX12_undo_50 : decode cX12_undo 50 = .ok (.iload_n 1, 1) := by decide +kernel
theorem dX12_undo_51 : decode cX12_undo 51 = .ok (.iadd, 1) := by decide +kernel
theorem dX12_undo_52 : decode cX12_undo 52 = .ok (.iaload, 1) := by decide +kernel
theorem dX12_undo_53 : decode cX12_undo 53 = .ok (.iastore, 1) := by decide +kernel
theorem dX12_undo_54 : decode cX12_undo 54 = .ok (.iinc 1 1, 3) := by decide +kernel
theorem dX12_undo_57 : decode cX12_undo 57 = .ok (.goto (-31), 3) := by decide +kernel
theorem dX12_undo_60 : decode cX12_undo 60 = .ok (.iconst 1, 1) := by decide +kernel
theorem dX12_undo_61 : decode cX12_undo 61 = .ok (.ireturn, 1) := by decide +kernel
set_option maxRecDepth 100000 in
set_option maxHeartbeats 200000 in
theorem T_X12_undo_26_s {X : CX} (hX : Ok X cX12_undo 2 RX12 (some .boolean)) (hdx : dX X = 2) {r : Bool × Hp} (q_26 : Int32 → Hp → Option (Bool × Hp)) (hq_26 : ∀ (x1 : Int32) (h : Hp), q_26 x1 h = some r → J X ((.inl (some (.int (b2i r.1))), r.2)) 26 [(0, .ref 30), (1, .int x1)] [] h) (x1 : Int32) (h : Hp) (hf : S_X12_undo_26 q_26 x1 h = some r) : J X ((.inl (some (.int (b2i r.1))), r.2)) 26 [(0, .ref 30), (1, .int x1)] [] h := by
  unfold S_X12_undo_26 at hf
  refine J_iload_n hX 1 dX12_undo_26 rfl rfl ?_
  refine J_sipush hX 492 dX12_undo_27 rfl ?_
  rcases ifE hf with ⟨c_1, hf⟩ | ⟨c_1, hf⟩
  · refine J_icmp_geF hX 60 dX12_undo_30 rfl c_1 ?_
    refine J_aload_n hX 0 dX12_undo_33 rfl rfl ?_
    refine J_getR hX 31 dX12_undo_34 fl_X12_13 ob_30 rfl rfl ?_
    refine J_iload_n hX 1 dX12_undo_37 rfl rfl ?_
    refine J_aload_n hX 0 dX12_undo_38 rfl rfl ?_
    refine J_getR hX 35 dX12_undo_39 fl_X12_26 ob_30 rfl rfl ?_
    refine J_sipush hX 492 dX12_undo_42 rfl ?_
    refine J_aload_n hX 0 dX12_undo_45 rfl rfl ?_
    refine J_getI hX dX12_undo_46 fl_X12_71 ob_30 rfl ?_
    refine J_imul hX dX12_undo_49 ?_
    refine J_iload_n hX 1 dX12_undo_50 rfl rfl ?_
    refine J_iadd hX dX12_undo_51 ?_
    obtain ⟨g_2, hf⟩ := gdE hf
    refine J_ald hX (((492 * (h 30 7)) + x1).toNatClampNeg) dX12_undo_52 ar_35 (Or.inl ⟨rfl, rfl⟩) g_2 rfl ?_
    obtain ⟨g_3, hf⟩ := gdE hf
    obtain ⟨h_4, e_5, hf⟩ := bndE hf
    refine J_ast hX x1.toNatClampNeg (h 35 (((492 * (h 30 7)) + x1).toNatClampNeg)) dX12_undo_53 ar_31 (Or.inl ⟨rfl, rfl, rfl⟩) g_3 rfl ?_
    refine J_nmh e_5 ?_
    refine J_iinc hX (x1 + 1) 1 [(1, .int (x1 + 1)), (0, .ref 30)] dX12_undo_54 rfl rfl rfl rfl ?_
    refine J_goto hX 26 dX12_undo_57 rfl ?_
    refine J_sub [1, 0] [(0, .ref 30), (1, .int (x1 + 1))] rfl ?_
    exact hq_26 (x1 + 1) h_4 hf
  · refine J_icmp_geT hX 60 dX12_undo_30 rfl c_1 ?_
    refine J_iconst hX 1 dX12_undo_60 rfl ?_
    exact E_Zi hX dX12_undo_61 rfl hf
set_option maxRecDepth 100000 in
set_option maxHeartbeats 200000 in
theorem T_X12_undo_26 {X : CX} (hX : Ok X cX12_undo 2 RX12 (some .boolean)) (hdx : dX X = 2) {r : Bool × Hp} : ∀ (n : Nat) (x1 : Int32) (h : Hp), F_X12_undo_26 n x1 h = some r → J X ((.inl (some (.int (b2i r.1))), r.2)) 26 [(0, .ref 30), (1, .int x1)] [] h := by
  intro n
  induction n with
  | zero => intro x1 h hf; exact nomatch hf
  | succ n ih => intro x1 h hf; exact T_X12_undo_26_s hX hdx _ (fun x1 h hf => ih x1 h hf) x1 h hf
set_option maxRecDepth 100000 in
set_option maxHeartbeats 200000 in
theorem T_X12_undo_0 {X : CX} (hX : Ok X cX12_undo 2 RX12 (some .boolean)) (hdx : dX X = 2) {r : Bool × Hp} (h : Hp) (hf : f_X12_undo h = some r) : J X ((.inl (some (.int (b2i r.1))), r.2)) 0 [(0, .ref 30)] [] h := by
  unfold f_X12_undo at hf
  refine J_aload_n hX 0 dX12_undo_0 rfl rfl ?_
  refine J_iconst hX 0 dX12_undo_1 rfl ?_
  obtain ⟨h_1, e_2, hf⟩ := bndE hf
  refine J_putI hX dX12_undo_2 fl_X12_3 fw_10_0 ob_30 rfl rfl rfl ?_
  refine J_nmh e_2 ?_
  refine J_aload_n hX 0 dX12_undo_5 rfl rfl ?_
  refine J_getI hX dX12_undo_6 fl_X12_71 ob_30 rfl ?_
  rcases ifE hf with ⟨c_3, hf⟩ | ⟨c_3, hf⟩
  · refine J_if_neF hX 14 dX12_undo_9 rfl c_3 ?_
    refine J_iconst hX 0 dX12_undo_12 rfl ?_
    exact E_Zi hX dX12_undo_13 rfl hf
  · refine J_if_neT hX 14 dX12_undo_9 rfl c_3 ?_
    refine J_aload_n hX 0 dX12_undo_14 rfl rfl ?_
    refine J_dup hX dX12_undo_15 rfl ?_
    refine J_getI hX dX12_undo_16 fl_X12_71 ob_30 rfl ?_
    refine J_iconst hX 1 dX12_undo_19 rfl ?_
    refine J_isub hX dX12_undo_20 ?_
    obtain ⟨h_4, e_5, hf⟩ := bndE hf
    refine J_putI hX dX12_undo_21 fl_X12_71 fw_10_7 ob_30 rfl rfl rfl ?_
    refine J_nmh e_5 ?_
    refine J_iconst hX 0 dX12_undo_24 rfl ?_
    refine J_istore_n hX [(1, .int 0), (0, .ref 30)] dX12_undo_25 rfl rfl rfl ?_
    refine J_sub [1, 0] [(0, .ref 30), (1, .int 0)] rfl ?_
    exact T_X12_undo_26 hX hdx FU 0 h_4 hf
set_option maxRecDepth 100000 in
set_option maxHeartbeats 200000 in
theorem C_X12_undo {G : GX} (hG : GOk G) {h : Hp} {r : Bool × Hp} (hf : f_X12_undo h = some r) : Ctr G 2 yX12_undo cX12_undo 2 (some .boolean) [.ref 30] h ((.inl (some (.int (b2i r.1))), r.2)) :=
  Ctr_of hG RX12 rfl (by decide) rfl (fun X _ hdx hX => T_X12_undo_0 hX hdx h hf)
theorem dX12_keepsAll_0 : decode cX12_keepsAll 0 = .ok (.iconst 0, 1) := by decide +kernel
theorem dX12_keepsAll_1 : decode cX12_keepsAll 1 = .ok (.istore_n 1, 1) := by decide +kernel
theorem dX12_keepsAll_2 : decode cX12_keepsAll 2 = .ok (.iload_n 1, 1) := by decide +kernel
theorem dX12_keepsAll_3 : decode cX12_keepsAll 3 = .ok (.sipush 492, 3) := by decide +kernel
theorem dX12_keepsAll_6 : decode cX12_keepsAll 6 = .ok (.if_icmp .ge 21, 3) := by decide +kernel
theorem dX12_keepsAll_9 : decode cX12_keepsAll 9 = .ok (.aload_n 0, 1) := by decide +kernel
theorem dX12_keepsAll_10 : decode cX12_keepsAll 10 = .ok (.getfield 23, 3) := by decide +kernel
theorem dX12_keepsAll_13 : decode cX12_keepsAll 13 = .ok (.iload_n 1, 1) := by decide +kernel
theorem dX12_keepsAll_14 : decode cX12_keepsAll 14 = .ok (.aload_n 0, 1) := by decide +kernel
theorem dX12_keepsAll_15 : decode cX12_keepsAll 15 = .ok (.getfield 13, 3) := by decide +kernel
theorem dX12_keepsAll_18 : decode cX12_keepsAll 18 = .ok (.iload_n 1, 1) := by decide +kernel
theorem dX12_keepsAll_19 : decode cX12_keepsAll 19 = .ok (.iaload, 1) := by decide +kernel
theorem dX12_keepsAll_20 : decode cX12_keepsAll 20 = .ok (.iastore, 1) := by decide +kernel
theorem dX12_keepsAll_21 : decode cX12_keepsAll 21 = .ok (.iinc 1 1, 3) := by decide +kernel
theorem dX12_keepsAll_24 : decode cX12_keepsAll 24 = .ok (.goto (-22), 3) := by decide +kernel
theorem dX12_keepsAll_27 : decode cX12_keepsAll 27 = .ok (.return_, 1) := by decide +kernel
set_option maxRecDepth 100000 in
set_option maxHeartbeats 200000 in
theorem T_X12_keepsAll_2_s {X : CX} (hX : Ok X cX12_keepsAll 2 RX12 none) (hdx : dX X = 2) {r : Hp} (q_2 : Int32 → Hp → Option Hp) (hq_2 : ∀ (x1 : Int32) (h : Hp), q_2 x1 h = some r → J X ((.inl none, r)) 2 [(0, .ref 30), (1, .int x1)] [] h) (x1 : Int32) (h : Hp) (hf : S_X12_keepsAll_2 q_2 x1 h = some r) : J X ((.inl none, r)) 2 [(0, .ref 30), (1, .int x1)] [] h := by
  unfold S_X12_keepsAll_2 at hf
  refine J_iload_n hX 1 dX12_keepsAll_2 rfl rfl ?_
  refine J_sipush hX 492 dX12_keepsAll_3 rfl ?_
  rcases ifE hf with ⟨c_1, hf⟩ | ⟨c_1, hf⟩
  · refine J_icmp_geF hX 27 dX12_keepsAll_6 rfl c_1 ?_
    refine J_aload_n hX 0 dX12_keepsAll_9 rfl rfl ?_
    refine J_getR hX 34 dX12_keepsAll_10 fl_X12_23 ob_30 rfl rfl ?_
    refine J_iload_n hX 1 dX12_keepsAll_13 rfl rfl ?_
    refine J_aload_n hX 0 dX12_keepsAll_14 rfl rfl ?_
    refine J_getR hX 31 dX12_keepsAll_15 fl_X12_13 ob_30 rfl rfl ?_
    refine J_iload_n hX 1 dX12_keepsAll_18 rfl rfl ?_
    obtain ⟨g_2, hf⟩ := gdE hf
    refine J_ald hX x1.toNatClampNeg dX12_keepsAll_19 ar_31 (Or.inl ⟨rfl, rfl⟩) g_2 rfl ?_
    obtain ⟨g_3, hf⟩ := gdE hf
    obtain ⟨h_4, e_5, hf⟩ := bndE hf
    refine J_ast hX x1.toNatClampNeg (h 31 x1.toNatClampNeg) dX12_keepsAll_20 ar_34 (Or.inl ⟨rfl, rfl, rfl⟩) g_3 rfl ?_
    refine J_nmh e_5 ?_
    refine J_iinc hX (x1 + 1) 1 [(1, .int (x1 + 1)), (0, .ref 30)] dX12_keepsAll_21 rfl rfl rfl rfl ?_
    refine J_goto hX 2 dX12_keepsAll_24 rfl ?_
    refine J_sub [1, 0] [(0, .ref 30), (1, .int (x1 + 1))] rfl ?_
    exact hq_2 (x1 + 1) h_4 hf
  · refine J_icmp_geT hX 27 dX12_keepsAll_6 rfl c_1 ?_
    exact E_Vi hX dX12_keepsAll_27 hf
set_option maxRecDepth 100000 in
set_option maxHeartbeats 200000 in
theorem T_X12_keepsAll_2 {X : CX} (hX : Ok X cX12_keepsAll 2 RX12 none) (hdx : dX X = 2) {r : Hp} : ∀ (n : Nat) (x1 : Int32) (h : Hp), F_X12_keepsAll_2 n x1 h = some r → J X ((.inl none, r)) 2 [(0, .ref 30), (1, .int x1)] [] h := by
  intro n
  induction n with
  | zero => intro x1 h hf; exact nomatch hf
  | succ n ih => intro x1 h hf; exact T_X12_keepsAll_2_s hX hdx _ (fun x1 h hf => ih x1 h hf) x1 h hf
set_option maxRecDepth 100000 in
set_option maxHeartbeats 200000 in
theorem T_X12_keepsAll_0 {X : CX} (hX : Ok X cX12_keepsAll 2 RX12 none) (hdx : dX X = 2) {r : Hp} (h : Hp) (hf : f_X12_keepsAll h = some r) : J X ((.inl none, r)) 0 [(0, .ref 30)] [] h := by
  unfold f_X12_keepsAll at hf
  refine J_iconst hX 0 dX12_keepsAll_0 rfl ?_
  refine J_istore_n hX [(1, .int 0), (0, .ref 30)] dX12_keepsAll_1 rfl rfl rfl ?_
  refine J_sub [1, 0] [(0, .ref 30), (1, .int 0)] rfl ?_
  exact T_X12_keepsAll_2 hX hdx FU 0 h hf
set_option maxRecDepth 100000 in
set_option maxHeartbeats 200000 in
theorem C_X12_keepsAll {G : GX} (hG : GOk G) {h : Hp} {r : Hp} (hf : f_X12_keepsAll h = some r) : Ctr G 2 yX12_keepsAll cX12_keepsAll 2 none [.ref 30] h ((.inl none, r)) :=
  Ctr_of hG RX12 rfl (by decide) rfl (fun X _ hdx hX => T_X12_keepsAll_0 hX hdx h hf)
theorem dX12_bringsBack_0 : decode cX12_bringsBack 0 = .ok (.iconst 0, 1) := by decide +kernel
theorem dX12_bringsBack_1 : decode cX12_bringsBack 1 = .ok (.istore_n 1, 1) := by decide +kernel
theorem dX12_bringsBack_2 : decode cX12_bringsBack 2 = .ok (.iload_n 1, 1) := by decide +kernel
theorem dX12_bringsBack_3 : decode cX12_bringsBack 3 = .ok (.sipush 492, 3) := by decide +kernel
theorem dX12_bringsBack_6 : decode cX12_bringsBack 6 = .ok (.if_icmp .ge 21, 3) := by decide +kernel
theorem dX12_bringsBack_9 : decode cX12_bringsBack 9 = .ok (.aload_n 0, 1) := by decide +kernel
theorem dX12_bringsBack_10 : decode cX12_bringsBack 10 = .ok (.getfield 13, 3) := by decide +kernel
theorem dX12_bringsBack_13 : decode cX12_bringsBack 13 = .ok (.iload_n 1, 1) := by decide +kernel
theorem dX12_bringsBack_14 : decode cX12_bringsBack 14 = .ok (.aload_n 0, 1) := by decide +kernel
theorem dX12_bringsBack_15 : decode cX12_bringsBack 15 = .ok (.getfield 23, 3) := by decide +kernel
theorem dX12_bringsBack_18 : decode cX12_bringsBack 18 = .ok (.iload_n 1, 1) := by decide +kernel
theorem dX12_bringsBack_19 : decode cX12_bringsBack 19 = .ok (.iaload, 1) := by decide +kernel
theorem dX12_bringsBack_20 : decode cX12_bringsBack 20 = .ok (.iastore, 1) := by decide +kernel
theorem dX12_bringsBack_21 : decode cX12_bringsBack 21 = .ok (.iinc 1 1, 3) := by decide +kernel
theorem dX12_bringsBack_24 : decode cX12_bringsBack 24 = .ok (.goto (-22), 3) := by decide +kernel
theorem dX12_bringsBack_27 : decode cX12_bringsBack 27 = .ok (.return_, 1) := by decide +kernel
set_option maxRecDepth 100000 in
set_option maxHeartbeats 200000 in
theorem T_X12_bringsBack_2_s {X : CX} (hX : Ok X cX12_bringsBack 2 RX12 none) (hdx : dX X = 2) {r : Hp} (q_2 : Int32 → Hp → Option Hp) (hq_2 : ∀ (x1 : Int32) (h : Hp), q_2 x1 h = some r → J X ((.inl none, r)) 2 [(0, .ref 30), (1, .int x1)] [] h) (x1 : Int32) (h : Hp) (hf : S_X12_bringsBack_2 q_2 x1 h = some r) : J X ((.inl none, r)) 2 [(0, .ref 30), (1, .int x1)] [] h := by
  unfold S_X12_bringsBack_2 at hf
  refine J_iload_n hX 1 dX12_bringsBack_2 rfl rfl ?_
  refine J_sipush hX 492 dX12_bringsBack_3 rfl ?_
  rcases ifE hf with ⟨c_1, hf⟩ | ⟨c_1, hf⟩
  · refine J_icmp_geF hX 27 dX12_bringsBack_6 rfl c_1 ?_
    refine J_aload_n hX 0 dX12_bringsBack_9 rfl rfl ?_
    refine J_getR hX 31 dX12_bringsBack_10 fl_X12_13 ob_30 rfl rfl ?_
    refine J_iload_n hX 1 dX12_bringsBack_13 rfl rfl ?_
    refine J_aload_n hX 0 dX12_bringsBack_14 rfl rfl ?_
    refine J_getR hX 34 dX12_bringsBack_15 fl_X12_23 ob_30 rfl rfl ?_
    refine J_iload_n hX 1 dX12_bringsBack_18 rfl rfl ?_
    obtain ⟨g_2, hf⟩ := gdE hf
    refine J_ald hX x1.toNatClampNeg dX12_bringsBack_19 ar_34 (Or.inl ⟨rfl, rfl⟩) g_2 rfl ?_
    obtain ⟨g_3, hf⟩ := gdE hf
    obtain ⟨h_4, e_5, hf⟩ := bndE hf
    refine J_ast hX x1.toNatClampNeg (h 34 x1.toNatClampNeg) dX12_bringsBack_20 ar_31 (Or.inl ⟨rfl, rfl, rfl⟩) g_3 rfl ?_
    refine J_nmh e_5 ?_
    refine J_iinc hX (x1 + 1) 1 [(1, .int (x1 + 1)), (0, .ref 30)] dX12_bringsBack_21 rfl rfl rfl rfl ?_
    refine J_goto hX 2 dX12_bringsBack_24 rfl ?_
    refine J_sub [1, 0] [(0, .ref 30), (1, .int (x1 + 1))] rfl ?_
    exact hq_2 (x1 + 1) h_4 hf
  · refine J_icmp_geT hX 27 dX12_bringsBack_6 rfl c_1 ?_
    exact E_Vi hX dX12_bringsBack_27 hf
set_option maxRecDepth 100000 in
set_option maxHeartbeats 200000 in
theorem T_X12_bringsBack_2 {X : CX} (hX : Ok X cX12_bringsBack 2 RX12 none) (hdx : dX X = 2) {r : Hp} : ∀ (n : Nat) (x1 : Int32) (h : Hp), F_X12_bringsBack_2 n x1 h = some r → J X ((.inl none, r)) 2 [(0, .ref 30), (1, .int x1)] [] h := by
  intro n
  induction n with
  | zero => intro x1 h hf; exact nomatch hf
  | succ n ih => intro x1 h hf; exact T_X12_bringsBack_2_s hX hdx _ (fun x1 h hf => ih x1 h hf) x1 h hf
set_option maxRecDepth 100000 in
set_option maxHeartbeats 200000 in
theorem T_X12_bringsBack_0 {X : CX} (hX : Ok X cX12_bringsBack 2 RX12 none) (hdx : dX X = 2) {r : Hp} (h : Hp) (hf : f_X12_bringsBack h = some r) : J X ((.inl none, r)) 0 [(0, .ref 30)] [] h := by
  unfold f_X12_bringsBack at hf
  refine J_iconst hX 0 dX12_bringsBack_0 rfl ?_
  refine J_istore_n hX [(1, .int 0), (0, .ref 30)] dX12_bringsBack_1 rfl rfl rfl ?_
  refine J_sub [1, 0] [(0, .ref 30), (1, .int 0)] rfl ?_
  exact T_X12_bringsBack_2 hX hdx FU 0 h hf
set_option maxRecDepth 100000 in
set_option maxHeartbeats 200000 in
theorem C_X12_bringsBack {G : GX} (hG : GOk G) {h : Hp} {r : Hp} (hf : f_X12_bringsBack h = some r) : Ctr G 2 yX12_bringsBack cX12_bringsBack 2 none [.ref 30] h ((.inl none, r)) :=
  Ctr_of hG RX12 rfl (by decide) rfl (fun X _ hdx hX => T_X12_bringsBack_0 hX hdx h hf)
theorem dX12_houses_0 : decode cX12_houses 0 = .ok (.aload_n 0, 1) := by decide +kernel
theorem dX12_houses_1 : decode cX12_houses 1 = .ok (.getfield 13, 3) := by decide +kernel
theorem dX12_houses_4 : decode cX12_houses 4 = .ok (.iconst 0, 1) := by decide +kernel
theorem dX12_houses_5 : decode cX12_houses 5 = .ok (.iaload, 1) := by decide +kernel
theorem dX12_houses_6 : decode cX12_houses 6 = .ok (.ireturn, 1) := by decide +kernel
set_option maxRecDepth 100000 in
set_option maxHeartbeats 200000 in
theorem T_X12_houses_0 {X : CX} (hX : Ok X cX12_houses 1 RX12 (some .int)) (hdx : dX X = 2) {r : Int32} (h : Hp) (hf : f_X12_houses h = r) : J X ((.inl (some (.int r)), h)) 0 [(0, .ref 30)] [] h := by
  unfold f_X12_houses at hf
  refine J_aload_n hX 0 dX12_houses_0 rfl rfl ?_
  refine J_getR hX 31 dX12_houses_1 fl_X12_13 ob_30 rfl rfl ?_
  refine J_iconst hX 0 dX12_houses_4 rfl ?_
  refine J_ald hX 0 dX12_houses_5 ar_31 (Or.inl ⟨rfl, rfl⟩) (by decide) (by decide) ?_
  exact E_It hX dX12_houses_6 hf
set_option maxRecDepth 100000 in
set_option maxHeartbeats 200000 in
theorem C_X12_houses {G : GX} (hG : GOk G) {h : Hp} {r : Int32} (hf : f_X12_houses h = r) : Ctr G 2 yX12_houses cX12_houses 1 (some .int) [.ref 30] h ((.inl (some (.int r)), h)) :=
  Ctr_of hG RX12 rfl (by decide) rfl (fun X _ hdx hX => T_X12_houses_0 hX hdx h hf)
theorem dX12_people_0 : decode cX12_people 0 = .ok (.aload_n 0, 1) := by decide +kernel
theorem dX12_people_1 : decode cX12_people 1 = .ok (.getfield 13, 3) := by decide +kernel
theorem dX12_people_4 : decode cX12_people 4 = .ok (.iconst 1, 1) := by decide +kernel
theorem dX12_people_5 : decode cX12_people 5 = .ok (.iaload, 1) := by decide +kernel
theorem dX12_people_6 : decode cX12_people 6 = .ok (.ireturn, 1) := by decide +kernel
set_option maxRecDepth 100000 in
set_option maxHeartbeats 200000 in
theorem T_X12_people_0 {X : CX} (hX : Ok X cX12_people 1 RX12 (some .int)) (hdx : dX X = 2) {r : Int32} (h : Hp) (hf : f_X12_people h = r) : J X ((.inl (some (.int r)), h)) 0 [(0, .ref 30)] [] h := by
  unfold f_X12_people at hf
  refine J_aload_n hX 0 dX12_people_0 rfl rfl ?_
  refine J_getR hX 31 dX12_people_1 fl_X12_13 ob_30 rfl rfl ?_
  refine J_iconst hX 1 dX12_people_4 rfl ?_
  refine J_ald hX 1 dX12_people_5 ar_31 (Or.inl ⟨rfl, rfl⟩) (by decide) (by decide) ?_
  exact E_It hX dX12_people_6 hf
set_option maxRecDepth 100000 in
set_option maxHeartbeats 200000 in
theorem C_X12_people {G : GX} (hG : GOk G) {h : Hp} {r : Int32} (hf : f_X12_people h = r) : Ctr G 2 yX12_people cX12_people 1 (some .int) [.ref 30] h ((.inl (some (.int r)), h)) :=
  Ctr_of hG RX12 rfl (by decide) rfl (fun X _ hdx hX => T_X12_people_0 hX hdx h hf)
theorem dX12_at_0 : decode cX12_at 0 = .ok (.bipush 74, 2) := by decide +kernel
theorem dX12_at_2 : decode cX12_at 2 = .ok (.iconst 5, 1) := by decide +kernel
theorem dX12_at_3 : decode cX12_at 3 = .ok (.iload_n 0, 1) := by decide +kernel
theorem dX12_at_4 : decode cX12_at 4 = .ok (.imul, 1) := by decide +kernel
theorem dX12_at_5 : decode cX12_at 5 = .ok (.iadd, 1) := by decide +kernel
theorem dX12_at_6 : decode cX12_at 6 = .ok (.iload_n 1, 1) := by decide +kernel
theorem dX12_at_7 : decode cX12_at 7 = .ok (.iadd, 1) := by decide +kernel
theorem dX12_at_8 : decode cX12_at 8 = .ok (.ireturn, 1) := by decide +kernel
set_option maxRecDepth 100000 in
set_option maxHeartbeats 200000 in
theorem T_X12_at_0 {X : CX} (hX : Ok X cX12_at 2 RX12 (some .int)) (hdx : dX X = 2) {r : Int32} (x0 : Int32) (x1 : Int32) (h : Hp) (hf : f_X12_at x0 x1 h = r) : J X ((.inl (some (.int r)), h)) 0 [(0, .int x0), (1, .int x1)] [] h := by
  unfold f_X12_at at hf
  refine J_bipush hX 74 dX12_at_0 rfl ?_
  refine J_iconst hX 5 dX12_at_2 rfl ?_
  refine J_iload_n hX 0 dX12_at_3 rfl rfl ?_
  refine J_imul hX dX12_at_4 ?_
  refine J_iadd hX dX12_at_5 ?_
  refine J_iload_n hX 1 dX12_at_6 rfl rfl ?_
  refine J_iadd hX dX12_at_7 ?_
  exact E_It hX dX12_at_8 hf
set_option maxRecDepth 100000 in
set_option maxHeartbeats 200000 in
theorem C_X12_at {G : GX} (hG : GOk G) {x0 : Int32} {x1 : Int32} {h : Hp} {r : Int32} (hf : f_X12_at x0 x1 h = r) : Ctr G 2 yX12_at cX12_at 2 (some .int) [.int x0, .int x1] h ((.inl (some (.int r)), h)) :=
  Ctr_of hG RX12 rfl (by decide) rfl (fun X _ hdx hX => T_X12_at_0 hX hdx x0 x1 h hf)
theorem dX12_of_0 : decode cX12_of 0 = .ok (.aload_n 0, 1) := by decide +kernel
theorem dX12_of_1 : decode cX12_of 1 = .ok (.getfield 13, 3) := by decide +kernel
theorem dX12_of_4 : decode cX12_of 4 = .ok (.iload_n 1, 1) := by decide +kernel
theorem dX12_of_5 : decode cX12_of 5 = .ok (.iload_n 2, 1) := by decide +kernel
theorem dX12_of_6 : decode cX12_of 6 = .ok (.invokestatic 74, 3) := by decide +kernel
theorem dX12_of_9 : decode cX12_of 9 = .ok (.iaload, 1) := by decide +kernel
theorem dX12_of_10 : decode cX12_of 10 = .ok (.ireturn, 1) := by decide +kernel
set_option maxRecDepth 100000 in
set_option maxHeartbeats 200000 in
theorem T_X12_of_0 {X : CX} (hX : Ok X cX12_of 3 RX12 (some .int)) (hdx : dX X = 3) {r : Int32} (x1 : Int32) (x2 : Int32) (h : Hp) (hf : f_X12_of x1 x2 h = some r) : J X ((.inl (some (.int r)), h)) 0 [(0, .ref 30), (1, .int x1), (2, .int x2)] [] h := by
  unfold f_X12_of at hf
  refine J_aload_n hX 0 dX12_of_0 rfl rfl ?_
  refine J_getR hX 31 dX12_of_1 fl_X12_13 ob_30 rfl rfl ?_
  refine J_iload_n hX 1 dX12_of_4 rfl rfl ?_
  refine J_iload_n hX 2 dX12_of_5 rfl rfl ?_
  refine S_1 hX [.int x1, .int x2] dX12_of_6 cw_X12_74 (C_X12_at (okG hX) rfl) (ltD hdx rfl) rfl rfl rfl rfl ?_
  obtain ⟨g_1, hf⟩ := gdE hf
  refine J_ald hX ((f_X12_at x1 x2 h).toNatClampNeg) dX12_of_9 ar_31 (Or.inl ⟨rfl, rfl⟩) g_1 rfl ?_
  exact E_Ip hX dX12_of_10 hf
set_option maxRecDepth 100000 in
set_option maxHeartbeats 200000 in
theorem C_X12_of {G : GX} (hG : GOk G) {x1 : Int32} {x2 : Int32} {h : Hp} {r : Int32} (hf : f_X12_of x1 x2 h = some r) : Ctr G 3 yX12_of cX12_of 3 (some .int) [.ref 30, .int x1, .int x2] h ((.inl (some (.int r)), h)) :=
  Ctr_of hG RX12 rfl (by decide) rfl (fun X _ hdx hX => T_X12_of_0 hX hdx x1 x2 h hf)
theorem dX12_partAt_0 : decode cX12_partAt 0 = .ok (.bipush 10, 2) := by decide +kernel
theorem dX12_partAt_2 : decode cX12_partAt 2 = .ok (.bipush 8, 2) := by decide +kernel
theorem dX12_partAt_4 : decode cX12_partAt 4 = .ok (.iload_n 0, 1) := by decide +kernel
theorem dX12_partAt_5 : decode cX12_partAt 5 = .ok (.imul, 1) := by decide +kernel
theorem dX12_partAt_6 : decode cX12_partAt 6 = .ok (.iadd, 1) := by decide +kernel
theorem dX12_partAt_7 : decode cX12_partAt 7 = .ok (.iload_n 1, 1) := by decide +kernel
theorem dX12_partAt_8 : decode cX12_partAt 8 = .ok (.iadd, 1) := by decide +kernel
theorem dX12_partAt_9 : decode cX12_partAt 9 = .ok (.ireturn, 1) := by decide +kernel
set_option maxRecDepth 100000 in
set_option maxHeartbeats 200000 in
theorem T_X12_partAt_0 {X : CX} (hX : Ok X cX12_partAt 2 RX12 (some .int)) (hdx : dX X = 2) {r : Int32} (x0 : Int32) (x1 : Int32) (h : Hp) (hf : f_X12_partAt x0 x1 h = r) : J X ((.inl (some (.int r)), h)) 0 [(0, .int x0), (1, .int x1)] [] h := by
  unfold f_X12_partAt at hf
  refine J_bipush hX 10 dX12_partAt_0 rfl ?_
  refine J_bipush hX 8 dX12_partAt_2 rfl ?_
  refine J_iload_n hX 0 dX12_partAt_4 rfl rfl ?_
  refine J_imul hX dX12_partAt_5 ?_
  refine J_iadd hX dX12_partAt_6 ?_
  refine J_iload_n hX 1 dX12_partAt_7 rfl rfl ?_
  refine J_iadd hX dX12_partAt_8 ?_
  exact E_It hX dX12_partAt_9 hf
set_option maxRecDepth 100000 in
set_option maxHeartbeats 200000 in
theorem C_X12_partAt {G : GX} (hG : GOk G) {x0 : Int32} {x1 : Int32} {h : Hp} {r : Int32} (hf : f_X12_partAt x0 x1 h = r) : Ctr G 2 yX12_partAt cX12_partAt 2 (some .int) [.int x0, .int x1] h ((.inl (some (.int r)), h)) :=
  Ctr_of hG RX12 rfl (by decide) rfl (fun X _ hdx hX => T_X12_partAt_0 hX hdx x0 x1 h hf)
theorem dX12_partOf_0 : decode cX12_partOf 0 = .ok (.aload_n 0, 1) := by decide +kernel
theorem dX12_partOf_1 : decode cX12_partOf 1 = .ok (.getfield 13, 3) := by decide +kernel
theorem dX12_partOf_4 : decode cX12_partOf 4 = .ok (.iload_n 1, 1) := by decide +kernel
theorem dX12_partOf_5 : decode cX12_partOf 5 = .ok (.iload_n 2, 1) := by decide +kernel
theorem dX12_partOf_6 : decode cX12_partOf 6 = .ok (.invokestatic 78, 3) := by decide +kernel
theorem dX12_partOf_9 : decode cX12_partOf 9 = .ok (.iaload, 1) := by decide +kernel
theorem dX12_partOf_10 : decode cX12_partOf 10 = .ok (.ireturn, 1) := by decide +kernel
set_option maxRecDepth 100000 in
set_option maxHeartbeats 200000 in
theorem T_X12_partOf_0 {X : CX} (hX : Ok X cX12_partOf 3 RX12 (some .int)) (hdx : dX X = 3) {r : Int32} (x1 : Int32) (x2 : Int32) (h : Hp) (hf : f_X12_partOf x1 x2 h = some r) : J X ((.inl (some (.int r)), h)) 0 [(0, .ref 30), (1, .int x1), (2, .int x2)] [] h := by
  unfold f_X12_partOf at hf
  refine J_aload_n hX 0 dX12_partOf_0 rfl rfl ?_
  refine J_getR hX 31 dX12_partOf_1 fl_X12_13 ob_30 rfl rfl ?_
  refine J_iload_n hX 1 dX12_partOf_4 rfl rfl ?_
  refine J_iload_n hX 2 dX12_partOf_5 rfl rfl ?_
  refine S_1 hX [.int x1, .int x2] dX12_partOf_6 cw_X12_78 (C_X12_partAt (okG hX) rfl) (ltD hdx rfl) rfl rfl rfl rfl ?_
  obtain ⟨g_1, hf⟩ := gdE hf
  refine J_ald hX ((f_X12_partAt x1 x2 h).toNatClampNeg) dX12_partOf_9 ar_31 (Or.inl ⟨rfl, rfl⟩) g_1 rfl ?_
  exact E_Ip hX dX12_partOf_10 hf
set_option maxRecDepth 100000 in
set_option maxHeartbeats 200000 in
theorem C_X12_partOf {G : GX} (hG : GOk G) {x1 : Int32} {x2 : Int32} {h : Hp} {r : Int32} (hf : f_X12_partOf x1 x2 h = some r) : Ctr G 3 yX12_partOf cX12_partOf 3 (some .int) [.ref 30, .int x1, .int x2] h ((.inl (some (.int r)), h)) :=
  Ctr_of hG RX12 rfl (by decide) rfl (fun X _ hdx hX => T_X12_partOf_0 hX hdx x1 x2 h hf)
theorem dX12_personAt_0 : decode cX12_personAt 0 = .ok (.bipush 114, 2) := by decide +kernel
theorem dX12_personAt_2 : decode cX12_personAt 2 = .ok (.iconst 3, 1) := by decide +kernel
theorem dX12_personAt_3 : decode cX12_personAt 3 = .ok (.iload_n 0, 1) := by decide +kernel
theorem dX12_personAt_4 : decode cX12_personAt 4 = .ok (.imul, 1) := by decide +kernel
theorem dX12_personAt_5 : decode cX12_personAt 5 = .ok (.iadd, 1) := by decide +kernel
theorem dX12_personAt_6 : decode cX12_personAt 6 = .ok (.iload_n 1, 1) := by decide +kernel
theorem dX12_personAt_7 : decode cX12_personAt 7 = .ok (.iadd, 1) := by decide +kernel
theorem dX12_personAt_8 : decode cX12_personAt 8 = .ok (.ireturn, 1) := by decide +kernel
set_option maxRecDepth 100000 in
set_option maxHeartbeats 200000 in
theorem T_X12_personAt_0 {X : CX} (hX : Ok X cX12_personAt 2 RX12 (some .int)) (hdx : dX X = 2) {r : Int32} (x0 : Int32) (x1 : Int32) (h : Hp) (hf : f_X12_personAt x0 x1 h = r) : J X ((.inl (some (.int r)), h)) 0 [(0, .int x0), (1, .int x1)] [] h := by
  unfold f_X12_personAt at hf
  refine J_bipush hX 114 dX12_personAt_0 rfl ?_
  refine J_iconst hX 3 dX12_personAt_2 rfl ?_
  refine J_iload_n hX 0 dX12_personAt_3 rfl rfl ?_
  refine J_imul hX dX12_personAt_4 ?_
  refine J_iadd hX dX12_personAt_5 ?_
  refine J_iload_n hX 1 dX12_personAt_6 rfl rfl ?_
  refine J_iadd hX dX12_personAt_7 ?_
  exact E_It hX dX12_personAt_8 hf
set_option maxRecDepth 100000 in
set_option maxHeartbeats 200000 in
theorem C_X12_personAt {G : GX} (hG : GOk G) {x0 : Int32} {x1 : Int32} {h : Hp} {r : Int32} (hf : f_X12_personAt x0 x1 h = r) : Ctr G 2 yX12_personAt cX12_personAt 2 (some .int) [.int x0, .int x1] h ((.inl (some (.int r)), h)) :=
  Ctr_of hG RX12 rfl (by decide) rfl (fun X _ hdx hX => T_X12_personAt_0 hX hdx x0 x1 h hf)
theorem dX12_ofPerson_0 : decode cX12_ofPerson 0 = .ok (.aload_n 0, 1) := by decide +kernel
theorem dX12_ofPerson_1 : decode cX12_ofPerson 1 = .ok (.getfield 13, 3) := by decide +kernel
theorem dX12_ofPerson_4 : decode cX12_ofPerson 4 = .ok (.iload_n 1, 1) := by decide +kernel
theorem dX12_ofPerson_5 : decode cX12_ofPerson 5 = .ok (.iload_n 2, 1) := by decide +kernel
theorem dX12_ofPerson_6 : decode cX12_ofPerson 6 = .ok (.invokestatic 81, 3) := by decide +kernel
theorem dX12_ofPerson_9 : decode cX12_ofPerson 9 = .ok (.iaload, 1) := by decide +kernel
theorem dX12_ofPerson_10 : decode cX12_ofPerson 10 = .ok (.ireturn, 1) := by decide +kernel
set_option maxRecDepth 100000 in
set_option maxHeartbeats 200000 in
theorem T_X12_ofPerson_0 {X : CX} (hX : Ok X cX12_ofPerson 3 RX12 (some .int)) (hdx : dX X = 3) {r : Int32} (x1 : Int32) (x2 : Int32) (h : Hp) (hf : f_X12_ofPerson x1 x2 h = some r) : J X ((.inl (some (.int r)), h)) 0 [(0, .ref 30), (1, .int x1), (2, .int x2)] [] h := by
  unfold f_X12_ofPerson at hf
  refine J_aload_n hX 0 dX12_ofPerson_0 rfl rfl ?_
  refine J_getR hX 31 dX12_ofPerson_1 fl_X12_13 ob_30 rfl rfl ?_
  refine J_iload_n hX 1 dX12_ofPerson_4 rfl rfl ?_
  refine J_iload_n hX 2 dX12_ofPerson_5 rfl rfl ?_
  refine S_1 hX [.int x1, .int x2] dX12_ofPerson_6 cw_X12_81 (C_X12_personAt (okG hX) rfl) (ltD hdx rfl) rfl rfl rfl rfl ?_
  obtain ⟨g_1, hf⟩ := gdE hf
  refine J_ald hX ((f_X12_personAt x1 x2 h).toNatClampNeg) dX12_ofPerson_9 ar_31 (Or.inl ⟨rfl, rfl⟩) g_1 rfl ?_
  exact E_Ip hX dX12_ofPerson_10 hf
set_option maxRecDepth 100000 in
set_option maxHeartbeats 200000 in
theorem C_X12_ofPerson {G : GX} (hG : GOk G) {x1 : Int32} {x2 : Int32} {h : Hp} {r : Int32} (hf : f_X12_ofPerson x1 x2 h = some r) : Ctr G 3 yX12_ofPerson cX12_ofPerson 3 (some .int) [.ref 30, .int x1, .int x2] h ((.inl (some (.int r)), h)) :=
  Ctr_of hG RX12 rfl (by decide) rfl (fun X _ hdx hX => T_X12_ofPerson_0 hX hdx x1 x2 h hf)
theorem dX12_isFallen_0 : decode cX12_isFallen 0 = .ok (.aload_n 0, 1) := by decide +kernel
theorem dX12_isFallen_1 : decode cX12_isFallen 1 = .ok (.iload_n 1, 1) := by decide +kernel
theorem dX12_isFallen_2 : decode cX12_isFallen 2 = .ok (.iconst 4, 1) := by decide +kernel
theorem dX12_isFallen_3 : decode cX12_isFallen 3 = .ok (.invokevirtual 84, 3) := by decide +kernel
theorem dX12_isFallen_6 : decode cX12_isFallen 6 = .ok (.iconst 1, 1) := by decide +kernel
theorem dX12_isFallen_7 : decode cX12_isFallen 7 = .ok (.if_icmp .ne 7, 3) := by decide +kernel
theorem dX12_isFallen_10 : decode cX12_isFallen 10 = .ok (.iconst 1, 1) := by decide +kernel
theorem dX12_isFallen_11 : decode cX12_isFallen 11 = .ok (.goto 4, 3) := by decide +kernel
theorem dX12_isFallen_14 : decode cX12_isFallen 14 = .ok (.iconst 0, 1) := by decide +kernel
theorem dX12_isFallen_15 : decode cX12_isFallen 15 = .ok (.ireturn, 1) := by decide +kernel
set_option maxRecDepth 100000 in
set_option maxHeartbeats 200000 in
theorem T_X12_isFallen_0 {X : CX} (hX : Ok X cX12_isFallen 2 RX12 (some .boolean)) (hdx : dX X = 4) {r : Bool} (x1 : Int32) (h : Hp) (hf : f_X12_isFallen x1 h = some r) : J X ((.inl (some (.int (b2i r))), h)) 0 [(0, .ref 30), (1, .int x1)] [] h := by
  unfold f_X12_isFallen at hf
  refine J_aload_n hX 0 dX12_isFallen_0 rfl rfl ?_
  refine J_iload_n hX 1 dX12_isFallen_1 rfl rfl ?_
  refine J_iconst hX 4 dX12_isFallen_2 rfl ?_
  obtain ⟨r_1, e_2, hf⟩ := bdE hf
  refine V_1 hX [.int x1, .int 4] dX12_isFallen_3 cw_X12_84 ob_30 rfl (C_X12_of (okG hX) e_2) (ltD hdx rfl) rfl rfl rfl rfl ?_
  refine J_iconst hX 1 dX12_isFallen_6 rfl ?_
  rcases ifE hf with ⟨c_3, hf⟩ | ⟨c_3, hf⟩
  · refine J_icmp_neF hX 14 dX12_isFallen_7 rfl c_3 ?_
    refine J_iconst hX 1 dX12_isFallen_10 rfl ?_
    refine J_goto hX 15 dX12_isFallen_11 rfl ?_
    exact E_Zp hX dX12_isFallen_15 rfl hf
  · refine J_icmp_neT hX 14 dX12_isFallen_7 rfl c_3 ?_
    refine J_iconst hX 0 dX12_isFallen_14 rfl ?_
    exact E_Zp hX dX12_isFallen_15 rfl hf
set_option maxRecDepth 100000 in
set_option maxHeartbeats 200000 in
theorem C_X12_isFallen {G : GX} (hG : GOk G) {x1 : Int32} {h : Hp} {r : Bool} (hf : f_X12_isFallen x1 h = some r) : Ctr G 4 yX12_isFallen cX12_isFallen 2 (some .boolean) [.ref 30, .int x1] h ((.inl (some (.int (b2i r))), h)) :=
  Ctr_of hG RX12 rfl (by decide) rfl (fun X _ hdx hX => T_X12_isFallen_0 hX hdx x1 h hf)
theorem dX12_standing_0 : decode cX12_standing 0 = .ok (.iconst 0, 1) := by decide +kernel
theorem dX12_standing_1 : decode cX12_standing 1 = .ok (.istore_n 1, 1) := by decide +kernel
theorem dX12_standing_2 : decode cX12_standing 2 = .ok (.iconst 0, 1) := by decide +kernel
theorem dX12_standing_3 : decode cX12_standing 3 = .ok (.istore_n 2, 1) := by decide +kernel
theorem dX12_standing_4 : decode cX12_standing 4 = .ok (.iload_n 2, 1) := by decide +kernel
theorem dX12_standing_5 : decode cX12_standing 5 = .ok (.aload_n 0, 1) := by decide +kernel
theorem dX12_standing_6 : decode cX12_standing 6 = .ok (.invokevirtual 87, 3) := by decide +kernel
theorem dX12_standing_9 : decode cX12_standing 9 = .ok (.if_icmp .ge 27, 3) := by decide +kernel
theorem dX12_standing_12 : decode cX12_standing 12 = .ok (.iload_n 1, 1) := by decide +kernel
theorem dX12_standing_13 : decode cX12_standing 13 = .ok (.aload_n 0, 1) := by decide +kernel
theorem dX12_standing_14 : decode cX12_standing 14 = .ok (.iload_n 2, 1) := by decide +kernel
theorem dX12_standing_15 : decode cX12_standing 15 = .ok (.invokevirtual 91, 3) := by decide +kernel
theorem dX12_standing_18 : decode cX12_standing 18 = .ok (.ifCond .eq 7, 3) := by decide +kernel
theorem dX12_standing_21 : decode cX12_standing 21 = .ok (.iconst 0, 1) := by decide +kernel
theorem dX12_standing_22 : decode cX12_standing 22 = .ok (.goto 6, 3) := by decide +kernel
theorem dX12_standing_25 : decode cX12_standing 25 = .ok (.iconst 1, 1) := by decide +kernel
theorem dX12_standing_26 : decode cX12_standing 26 = .ok (.iload_n 2, 1) := by decide +kernel
theorem dX12_standing_27 : decode cX12_standing 27 = .ok (.ishl, 1) := by decide +kernel
theorem dX12_standing_28 : decode cX12_standing 28 = .ok (.ior, 1) := by decide +kernel
theorem dX12_standing_29 : decode cX12_standing 29 = .ok (.istore_n 1, 1) := by decide +kernel
theorem dX12_standing_30 : decode cX12_standing 30 = .ok (.iinc 2 1, 3) := by decide +kernel
theorem dX12_standing_33 : decode cX12_standing 33 = .ok (.goto (-29), 3) := by decide +kernel
theorem dX12_standing_36 : decode cX12_standing 36 = .ok (.iload_n 1, 1) := by decide +kernel
theorem dX12_standing_37 : decode cX12_standing 37 = .ok (.ireturn, 1) := by decide +kernel
set_option maxRecDepth 100000 in
set_option maxHeartbeats 200000 in
theorem T_X12_standing_28 {X : CX} (hX : Ok X cX12_standing 3 RX12 (some .int)) (hdx : dX X = 5) {r : Int32} (h : Hp) (x2 : Int32) (t0 : Int32) (t1 : Int32) (q_4 : Int32 → Int32 → Option Int32) (hq_4 : ∀ (x1 : Int32) (x2 : Int32), q_4 x1 x2 = some r → J X ((.inl (some (.int r)), h)) 4 [(0, .ref 30), (1, .int x1), (2, .int x2)] [] h) (hf : F_X12_standing_28 q_4 h x2 t0 t1 = some r) : J X ((.inl (some (.int r)), h)) 28 [(0, .ref 30), (2, .int x2)] [.int t0, .int t1] h := by
  unfold F_X12_standing_28 at hf
  refine J_ior hX dX12_standing_28 ?_
  obtain ⟨x1_1, e_2, hf⟩ := bndE hf
  refine J_nm e_2 ?_
  refine J_istore_n hX [(1, .int x1_1), (0, .ref 30), (2, .int x2)] dX12_standing_29 rfl rfl rfl ?_
  refine J_iinc hX (x2 + 1) 2 [(2, .int (x2 + 1)), (1, .int x1_1), (0, .ref 30)] dX12_standing_30 rfl rfl rfl rfl ?_
  refine J_goto hX 4 dX12_standing_33 rfl ?_
  refine J_sub [2, 1, 0] [(0, .ref 30), (1, .int x1_1), (2, .int (x2 + 1))] rfl ?_
  exact hq_4 x1_1 (x2 + 1) hf
set_option maxRecDepth 100000 in
set_option maxHeartbeats 200000 in
theorem T_X12_standing_4_s {X : CX} (hX : Ok X cX12_standing 3 RX12 (some .int)) (hdx : dX X = 5) {r : Int32} (h : Hp) (q_4 : Int32 → Int32 → Option Int32) (hq_4 : ∀ (x1 : Int32) (x2 : Int32), q_4 x1 x2 = some r → J X ((.inl (some (.int r)), h)) 4 [(0, .ref 30), (1, .int x1), (2, .int x2)] [] h) (x1 : Int32) (x2 : Int32) (hf : S_X12_standing_4 h q_4 x1 x2 = some r) : J X ((.inl (some (.int r)), h)) 4 [(0, .ref 30), (1, .int x1), (2, .int x2)] [] h := by
  unfold S_X12_standing_4 at hf
  refine J_iload_n hX 2 dX12_standing_4 rfl rfl ?_
  refine J_aload_n hX 0 dX12_standing_5 rfl rfl ?_
  refine V_1 hX [] dX12_standing_6 cw_X12_87 ob_30 rfl (C_X12_houses (okG hX) rfl) (ltD hdx rfl) rfl rfl rfl rfl ?_
  rcases ifE hf with ⟨c_1, hf⟩ | ⟨c_1, hf⟩
  · refine J_icmp_geF hX 36 dX12_standing_9 rfl c_1 ?_
    refine J_iload_n hX 1 dX12_standing_12 rfl rfl ?_
    refine J_aload_n hX 0 dX12_standing_13 rfl rfl ?_
    refine J_iload_n hX 2 dX12_standing_14 rfl rfl ?_
    obtain ⟨r_2, e_3, hf⟩ := bdE hf
    refine V_1 hX [.int x2] dX12_standing_15 cw_X12_91 ob_30 rfl (C_X12_isFallen (okG hX) e_3) (ltD hdx rfl) rfl rfl rfl rfl ?_
    rcases ifE hf with ⟨c_4, hf⟩ | ⟨c_4, hf⟩
    · refine J_if_eqF hX 25 dX12_standing_18 rfl (b2iT c_4) ?_
      refine J_iconst hX 0 dX12_standing_21 rfl ?_
      refine J_goto hX 28 dX12_standing_22 rfl ?_
      refine J_sub [0, 2] [(0, .ref 30), (2, .int x2)] rfl ?_
      exact T_X12_standing_28 hX hdx h x2 0 x1 q_4 hq_4 hf
    · refine J_if_eqT hX 25 dX12_standing_18 rfl (b2iF c_4) ?_
      refine J_iconst hX 1 dX12_standing_25 rfl ?_
      refine J_iload_n hX 2 dX12_standing_26 rfl rfl ?_
      refine J_ishl hX dX12_standing_27 ?_
      refine J_sub [0, 2] [(0, .ref 30), (2, .int x2)] rfl ?_
      exact T_X12_standing_28 hX hdx h x2 (shl 1 x2) x1 q_4 hq_4 hf
  · refine J_icmp_geT hX 36 dX12_standing_9 rfl c_1 ?_
    refine J_iload_n hX 1 dX12_standing_36 rfl rfl ?_
    exact E_Ip hX dX12_standing_37 hf
set_option maxRecDepth 100000 in
set_option maxHeartbeats 200000 in
theorem T_X12_standing_4 {X : CX} (hX : Ok X cX12_standing 3 RX12 (some .int)) (hdx : dX X = 5) {r : Int32} (h : Hp) : ∀ (n : Nat) (x1 : Int32) (x2 : Int32), F_X12_standing_4 h n x1 x2 = some r → J X ((.inl (some (.int r)), h)) 4 [(0, .ref 30), (1, .int x1), (2, .int x2)] [] h := by
  intro n
  induction n with
  | zero => intro x1 x2 hf; exact nomatch hf
  | succ n ih => intro x1 x2 hf; exact T_X12_standing_4_s hX hdx h _ (fun x1 x2 hf => ih x1 x2 hf) x1 x2 hf
set_option maxRecDepth 100000 in
set_option maxHeartbeats 200000 in
theorem T_X12_standing_0 {X : CX} (hX : Ok X cX12_standing 3 RX12 (some .int)) (hdx : dX X = 5) {r : Int32} (h : Hp) (hf : f_X12_standing h = some r) : J X ((.inl (some (.int r)), h)) 0 [(0, .ref 30)] [] h := by
  unfold f_X12_standing at hf
  refine J_iconst hX 0 dX12_standing_0 rfl ?_
  refine J_istore_n hX [(1, .int 0), (0, .ref 30)] dX12_standing_1 rfl rfl rfl ?_
  refine J_iconst hX 0 dX12_standing_2 rfl ?_
  refine J_istore_n hX [(2, .int 0), (1, .int 0), (0, .ref 30)] dX12_standing_3 rfl rfl rfl ?_
  refine J_sub [2, 1, 0] [(0, .ref 30), (1, .int 0), (2, .int 0)] rfl ?_
  exact T_X12_standing_4 hX hdx h FU 0 0 hf
set_option maxRecDepth 100000 in
set_option maxHeartbeats 200000 in
theorem C_X12_standing {G : GX} (hG : GOk G) {h : Hp} {r : Int32} (hf : f_X12_standing h = some r) : Ctr G 5 yX12_standing cX12_standing 3 (some .int) [.ref 30] h ((.inl (some (.int r)), h)) :=
  Ctr_of hG RX12 rfl (by decide) rfl (fun X _ hdx hX => T_X12_standing_0 hX hdx h hf)
theorem dX12_noHouse_0 : decode cX12_noHouse 0 = .ok (.iload_n 1, 1) := by decide +kernel
theorem dX12_noHouse_1 : decode cX12_noHouse 1 = .ok (.iconst 0, 1) := by decide +kernel
theorem dX12_noHouse_2 : decode cX12_noHouse 2 = .ok (.aload_n 0, 1) := by decide +kernel
theorem dX12_noHouse_3 : decode cX12_noHouse 3 = .ok (.invokevirtual 87, 3) := by decide +kernel
theorem dX12_noHouse_6 : decode cX12_noHouse 6 = .ok (.iconst 1, 1) := by decide +kernel
theorem dX12_noHouse_7 : decode cX12_noHouse 7 = .ok (.isub, 1) := by decide +kernel
theorem dX12_noHouse_8 : decode cX12_noHouse 8 = .ok (.invokestatic 95, 3) := by decide +kernel
theorem dX12_noHouse_11 : decode cX12_noHouse 11 = .ok (.ifCond .ne 7, 3) := by decide +kernel
theorem dX12_noHouse_14 : decode cX12_noHouse 14 = .ok (.iconst 1, 1) := by decide +kernel
theorem dX12_noHouse_15 : decode cX12_noHouse 15 = .ok (.goto 4, 3) := by decide +kernel
theorem dX12_noHouse_18 : decode cX12_noHouse 18 = .ok (.iconst 0, 1) := by decide +kernel
theorem dX12_noHouse_19 : decode cX12_noHouse 19 = .ok (.ireturn, 1) := by decide +kernel
set_option maxRecDepth 100000 in
set_option maxHeartbeats 200000 in
theorem T_X12_noHouse_0 {X : CX} (hX : Ok X cX12_noHouse 2 RX12 (some .boolean)) (hdx : dX X = 3) {r : Bool} (x1 : Int32) (h : Hp) (hf : f_X12_noHouse x1 h = r) : J X ((.inl (some (.int (b2i r))), h)) 0 [(0, .ref 30), (1, .int x1)] [] h := by
  unfold f_X12_noHouse at hf
  refine J_iload_n hX 1 dX12_noHouse_0 rfl rfl ?_
  refine J_iconst hX 0 dX12_noHouse_1 rfl ?_
  refine J_aload_n hX 0 dX12_noHouse_2 rfl rfl ?_
  refine V_1 hX [] dX12_noHouse_3 cw_X12_87 ob_30 rfl (C_X12_houses (okG hX) rfl) (ltD hdx rfl) rfl rfl rfl rfl ?_
  refine J_iconst hX 1 dX12_noHouse_6 rfl ?_
  refine J_isub hX dX12_noHouse_7 ?_
  refine S_1 hX [.int x1, .int 0, .int ((f_X12_houses h) - 1)] dX12_noHouse_8 cw_X12_95 (C_X12_in (okG hX) rfl) (ltD hdx rfl) rfl rfl rfl rfl ?_
  rcases ifE hf with ⟨c_1, hf⟩ | ⟨c_1, hf⟩
  · refine J_if_neT hX 18 dX12_noHouse_11 rfl (b2iT c_1) ?_
    refine J_iconst hX 0 dX12_noHouse_18 rfl ?_
    exact E_Zt hX dX12_noHouse_19 rfl hf
  · refine J_if_neF hX 18 dX12_noHouse_11 rfl (b2iF c_1) ?_
    refine J_iconst hX 1 dX12_noHouse_14 rfl ?_
    refine J_goto hX 19 dX12_noHouse_15 rfl ?_
    exact E_Zt hX dX12_noHouse_19 rfl hf
set_option maxRecDepth 100000 in
set_option maxHeartbeats 200000 in
theorem C_X12_noHouse {G : GX} (hG : GOk G) {x1 : Int32} {h : Hp} {r : Bool} (hf : f_X12_noHouse x1 h = r) : Ctr G 3 yX12_noHouse cX12_noHouse 2 (some .boolean) [.ref 30, .int x1] h ((.inl (some (.int (b2i r))), h)) :=
  Ctr_of hG RX12 rfl (by decide) rfl (fun X _ hdx hX => T_X12_noHouse_0 hX hdx x1 h hf)
theorem dX12_noPerson_0 : decode cX12_noPerson 0 = .ok (.iload_n 1, 1) := by decide +kernel
theorem dX12_noPerson_1 : decode cX12_noPerson 1 = .ok (.iconst 0, 1) := by decide +kernel
theorem dX12_noPerson_2 : decode cX12_noPerson 2 = .ok (.aload_n 0, 1) := by decide +kernel
theorem dX12_noPerson_3 : decode cX12_noPerson 3 = .ok (.invokevirtual 99, 3) := by decide +kernel
theorem dX12_noPerson_6 : decode cX12_noPerson 6 = .ok (.iconst 1, 1) := by decide +kernel
theorem dX12_noPerson_7 : decode cX12_noPerson 7 = .ok (.isub, 1) := by decide +kernel
theorem dX12_noPerson_8 : decode cX12_noPerson 8 = .ok (.invokestatic 95, 3) := by decide +kernel
theorem dX12_noPerson_11 : decode cX12_noPerson 11 = .ok (.ifCond .ne 7, 3) := by decide +kernel
theorem dX12_noPerson_14 : decode cX12_noPerson 14 = .ok (.iconst 1, 1) := by decide +kernel
theorem dX12_noPerson_15 : decode cX12_noPerson 15 = .ok (.goto 4, 3) := by decide +kernel
theorem dX12_noPerson_18 : decode cX12_noPerson 18 = .ok (.iconst 0, 1) := by decide +kernel
theorem dX12_noPerson_19 : decode cX12_noPerson 19 = .ok (.ireturn, 1) := by decide +kernel
set_option maxRecDepth 100000 in
set_option maxHeartbeats 200000 in
theorem T_X12_noPerson_0 {X : CX} (hX : Ok X cX12_noPerson 2 RX12 (some .boolean)) (hdx : dX X = 3) {r : Bool} (x1 : Int32) (h : Hp) (hf : f_X12_noPerson x1 h = r) : J X ((.inl (some (.int (b2i r))), h)) 0 [(0, .ref 30), (1, .int x1)] [] h := by
  unfold f_X12_noPerson at hf
  refine J_iload_n hX 1 dX12_noPerson_0 rfl rfl ?_
  refine J_iconst hX 0 dX12_noPerson_1 rfl ?_
  refine J_aload_n hX 0 dX12_noPerson_2 rfl rfl ?_
  refine V_1 hX [] dX12_noPerson_3 cw_X12_99 ob_30 rfl (C_X12_people (okG hX) rfl) (ltD hdx rfl) rfl rfl rfl rfl ?_
  refine J_iconst hX 1 dX12_noPerson_6 rfl ?_
  refine J_isub hX dX12_noPerson_7 ?_
  refine S_1 hX [.int x1, .int 0, .int ((f_X12_people h) - 1)] dX12_noPerson_8 cw_X12_95 (C_X12_in (okG hX) rfl) (ltD hdx rfl) rfl rfl rfl rfl ?_
  rcases ifE hf with ⟨c_1, hf⟩ | ⟨c_1, hf⟩
  · refine J_if_neT hX 18 dX12_noPerson_11 rfl (b2iT c_1) ?_
    refine J_iconst hX 0 dX12_noPerson_18 rfl ?_
    exact E_Zt hX dX12_noPerson_19 rfl hf
  · refine J_if_neF hX 18 dX12_noPerson_11 rfl (b2iF c_1) ?_
    refine J_iconst hX 1 dX12_noPerson_14 rfl ?_
    refine J_goto hX 19 dX12_noPerson_15 rfl ?_
    exact E_Zt hX dX12_noPerson_19 rfl hf
set_option maxRecDepth 100000 in
set_option maxHeartbeats 200000 in
theorem C_X12_noPerson {G : GX} (hG : GOk G) {x1 : Int32} {h : Hp} {r : Bool} (hf : f_X12_noPerson x1 h = r) : Ctr G 3 yX12_noPerson cX12_noPerson 2 (some .boolean) [.ref 30, .int x1] h ((.inl (some (.int (b2i r))), h)) :=
  Ctr_of hG RX12 rfl (by decide) rfl (fun X _ hdx hX => T_X12_noPerson_0 hX hdx x1 h hf)
theorem dX12_noEvening_0 : decode cX12_noEvening 0 = .ok (.iload_n 0, 1) := by decide +kernel
theorem dX12_noEvening_1 : decode cX12_noEvening 1 = .ok (.iconst 0, 1) := by decide +kernel
theorem dX12_noEvening_2 : decode cX12_noEvening 2 = .ok (.bipush 6, 2) := by decide +kernel
theorem dX12_noEvening_4 : decode cX12_noEvening 4 = .ok (.invokestatic 95, 3) := by decide +kernel
theorem dX12_noEvening_7 : decode cX12_noEvening 7 = .ok (.ifCond .ne 7, 3) := by decide +kernel
theorem dX12_noEvening_10 : decode cX12_noEvening 10 = .ok (.iconst 1, 1) := by decide +kernel
theorem dX12_noEvening_11 : decode cX12_noEvening 11 = .ok (.goto 4, 3) := by decide +kernel
theorem dX12_noEvening_14 : decode cX12_noEvening 14 = .ok (.iconst 0, 1) := by decide +kernel
theorem dX12_noEvening_15 : decode cX12_noEvening 15 = .ok (.ireturn, 1) := by decide +kernel
set_option maxRecDepth 100000 in
set_option maxHeartbeats 200000 in
theorem T_X12_noEvening_0 {X : CX} (hX : Ok X cX12_noEvening 1 RX12 (some .boolean)) (hdx : dX X = 3) {r : Bool} (x0 : Int32) (h : Hp) (hf : f_X12_noEvening x0 h = r) : J X ((.inl (some (.int (b2i r))), h)) 0 [(0, .int x0)] [] h := by
  unfold f_X12_noEvening at hf
  refine J_iload_n hX 0 dX12_noEvening_0 rfl rfl ?_
  refine J_iconst hX 0 dX12_noEvening_1 rfl ?_
  refine J_bipush hX 6 dX12_noEvening_2 rfl ?_
  refine S_1 hX [.int x0, .int 0, .int 6] dX12_noEvening_4 cw_X12_95 (C_X12_in (okG hX) rfl) (ltD hdx rfl) rfl rfl rfl rfl ?_
  rcases ifE hf with ⟨c_1, hf⟩ | ⟨c_1, hf⟩
  · refine J_if_neT hX 14 dX12_noEvening_7 rfl (b2iT c_1) ?_
    refine J_iconst hX 0 dX12_noEvening_14 rfl ?_
    exact E_Zt hX dX12_noEvening_15 rfl hf
  · refine J_if_neF hX 14 dX12_noEvening_7 rfl (b2iF c_1) ?_
    refine J_iconst hX 1 dX12_noEvening_10 rfl ?_
    refine J_goto hX 15 dX12_noEvening_11 rfl ?_
    exact E_Zt hX dX12_noEvening_15 rfl hf
set_option maxRecDepth 100000 in
set_option maxHeartbeats 200000 in
theorem C_X12_noEvening {G : GX} (hG : GOk G) {x0 : Int32} {h : Hp} {r : Bool} (hf : f_X12_noEvening x0 h = r) : Ctr G 3 yX12_noEvening cX12_noEvening 1 (some .boolean) [.int x0] h ((.inl (some (.int (b2i r))), h)) :=
  Ctr_of hG RX12 rfl (by decide) rfl (fun X _ hdx hX => T_X12_noEvening_0 hX hdx x0 h hf)
theorem dX12_drawn_0 : decode cX12_drawn 0 = .ok (.aload_n 0, 1) := by decide +kernel
theorem dX12_drawn_1 : decode cX12_drawn 1 = .ok (.getfield 13, 3) := by decide +kernel
theorem dX12_drawn_4 : decode cX12_drawn 4 = .ok (.bipush 9, 2) := by decide +kernel
theorem dX12_drawn_6 : decode cX12_drawn 6 = .ok (.ldc 102, 2) := by decide +kernel
theorem dX12_drawn_8 : decode cX12_drawn 8 = .ok (.aload_n 0, 1) := by decide +kernel
theorem dX12_drawn_9 : decode cX12_drawn 9 = .ok (.getfield 13, 3) := by decide +kernel
theorem dX12_drawn_12 : decode cX12_drawn 12 = .ok (.bipush 9, 2) := by decide +kernel
theorem dX12_drawn_14 : decode cX12_drawn 14 = .ok (.iaload, 1) := by decide +kernel
theorem dX12_drawn_15 : decode cX12_drawn 15 = .ok (.imul, 1) := by decide +kernel
theorem dX12_drawn_16 : decode cX12_drawn 16 = .ok (.sipush 12345, 3) := by decide +kernel
theorem dX12_drawn_19 : decode cX12_drawn 19 = .ok (.iadd, 1) := by decide +kernel
theorem dX12_drawn_20 : decode cX12_drawn 20 = .ok (.iastore, 1) := by decide +kernel
theorem dX12_drawn_21 : decode cX12_drawn 21 = .ok (.aload_n 0, 1) := by decide +kernel
theorem dX12_drawn_22 : decode cX12_drawn 22 = .ok (.getfield 13, 3) := by decide +kernel
theorem dX12_drawn_25 : decode cX12_drawn 25 = .ok (.bipush 9, 2) := by decide +kernel
theorem dX12_drawn_27 : decode cX12_drawn 27 = .ok (.iaload, 1) := by decide +kernel
theorem dX12_drawn_28 : decode cX12_drawn 28 = .ok (.bipush 16, 2) := by decide +kernel
theorem dX12_drawn_30 : decode cX12_drawn 30 = .ok (.ishr, 1) := by decide +kernel
theorem dX12_drawn_31 : decode cX12_drawn 31 = .ok (.sipush 32767, 3) := by decide +kernel
theorem dX12_drawn_34 : decode cX12_drawn 34 = .ok (.iand, 1) := by decide +kernel
theorem dX12_drawn_35 : decode cX12_drawn 35 = .ok (.iload_n 1, 1) := by decide +kernel
theorem dX12_drawn_36 : decode cX12_drawn 36 = .ok (.irem, 1) := by decide +kernel
theorem dX12_drawn_37 : decode cX12_drawn 37 = .ok (.ireturn, 1) := by decide +kernel
set_option maxRecDepth 100000 in
set_option maxHeartbeats 200000 in
theorem T_X12_drawn_0 {X : CX} (hX : Ok X cX12_drawn 2 RX12 (some .int)) (hdx : dX X = 2) {r : Int32 × Hp} (x1 : Int32) (h : Hp) (hf : f_X12_drawn x1 h = some r) : J X ((.inl (some (.int r.1)), r.2)) 0 [(0, .ref 30), (1, .int x1)] [] h := by
  unfold f_X12_drawn at hf
  refine J_aload_n hX 0 dX12_drawn_0 rfl rfl ?_
  refine J_getR hX 31 dX12_drawn_1 fl_X12_13 ob_30 rfl rfl ?_
  refine J_bipush hX 9 dX12_drawn_4 rfl ?_
  refine J_ldc hX 1103515245 dX12_drawn_6 kw_X12_102 ?_
  refine J_aload_n hX 0 dX12_drawn_8 rfl rfl ?_
  refine J_getR hX 31 dX12_drawn_9 fl_X12_13 ob_30 rfl rfl ?_
  refine J_bipush hX 9 dX12_drawn_12 rfl ?_
  refine J_ald hX 9 dX12_drawn_14 ar_31 (Or.inl ⟨rfl, rfl⟩) (by decide) (by decide) ?_
  refine J_imul hX dX12_drawn_15 ?_
  refine J_sipush hX 12345 dX12_drawn_16 rfl ?_
  refine J_iadd hX dX12_drawn_19 ?_
  obtain ⟨h_1, e_2, hf⟩ := bndE hf
  refine J_ast hX 9 ((1103515245 * (h 31 9)) + 12345) dX12_drawn_20 ar_31 (Or.inl ⟨rfl, rfl, rfl⟩) (by decide) (by decide) ?_
  refine J_nmh e_2 ?_
  refine J_aload_n hX 0 dX12_drawn_21 rfl rfl ?_
  refine J_getR hX 31 dX12_drawn_22 fl_X12_13 ob_30 rfl rfl ?_
  refine J_bipush hX 9 dX12_drawn_25 rfl ?_
  refine J_ald hX 9 dX12_drawn_27 ar_31 (Or.inl ⟨rfl, rfl⟩) (by decide) (by decide) ?_
  refine J_bipush hX 16 dX12_drawn_28 rfl ?_
  refine J_ishr hX dX12_drawn_30 ?_
  refine J_sipush hX 32767 dX12_drawn_31 rfl ?_
  refine J_iand hX dX12_drawn_34 ?_
  refine J_iload_n hX 1 dX12_drawn_35 rfl rfl ?_
  obtain ⟨g_3, hf⟩ := gdE hf
  refine J_irem hX g_3 dX12_drawn_36 ?_
  exact E_Ii hX dX12_drawn_37 hf
set_option maxRecDepth 100000 in
set_option maxHeartbeats 200000 in
theorem C_X12_drawn {G : GX} (hG : GOk G) {x1 : Int32} {h : Hp} {r : Int32 × Hp} (hf : f_X12_drawn x1 h = some r) : Ctr G 2 yX12_drawn cX12_drawn 2 (some .int) [.ref 30, .int x1] h ((.inl (some (.int r.1)), r.2)) :=
  Ctr_of hG RX12 rfl (by decide) rfl (fun X _ hdx hX => T_X12_drawn_0 hX hdx x1 h hf)
theorem dX12_partsOf_0 : decode cX12_partsOf 0 = .ok (.iconst 0, 1) := by decide +kernel
theorem dX12_partsOf_1 : decode cX12_partsOf 1 = .ok (.istore_n 2, 1) := by decide +kernel
theorem dX12_partsOf_2 : decode cX12_partsOf 2 = .ok (.iconst 0, 1) := by decide +kernel
theorem dX12_partsOf_3 : decode cX12_partsOf 3 = .ok (.istore_n 3, 1) := by decide +kernel
theorem dX12_partsOf_4 : decode cX12_partsOf 4 = .ok (.iload_n 3, 1) := by decide +kernel
theorem dX12_partsOf_5 : decode cX12_partsOf 5 = .ok (.aload_n 0, 1) := by decide +kernel
theorem dX12_partsOf_6 : decode cX12_partsOf 6 = .ok (.invokevirtual 87, 3) := by decide +kernel
theorem dX12_partsOf_9 : decode cX12_partsOf 9 = .ok (.if_icmp .ge 18, 3) := by decide +kernel
theorem dX12_partsOf_12 : decode cX12_partsOf 12 = .ok (.iload_n 2, 1) := by decide +kernel
theorem dX12_partsOf_13 : decode cX12_partsOf 13 = .ok (.aload_n 0, 1) := by decide +kernel
theorem dX12_partsOf_14 : decode cX12_partsOf 14 = .ok (.iload_n 1, 1) := by decide +kernel
theorem dX12_partsOf_15 : decode cX12_partsOf 15 = .ok (.iload_n 3, 1) := by decide +kernel
theorem dX12_partsOf_16 : decode cX12_partsOf 16 = .ok (.invokevirtual 103, 3) := by decide +kernel
theorem dX12_partsOf_19 : decode cX12_partsOf 19 = .ok (.iadd, 1) := by decide +kernel
theorem dX12_partsOf_20 : decode cX12_partsOf 20 = .ok (.istore_n 2, 1) := by decide +kernel
theorem dX12_partsOf_21 : decode cX12_partsOf 21 = .ok (.iinc 3 1, 3) := by decide +kernel
theorem dX12_partsOf_24 : decode cX12_partsOf 24 = .ok (.goto (-20), 3) := by decide +kernel
theorem dX12_partsOf_27 : decode cX12_partsOf 27 = .ok (.iload_n 2, 1) := by decide +kernel
theorem dX12_partsOf_28 : decode cX12_partsOf 28 = .ok (.ireturn, 1) := by decide +kernel
set_option maxRecDepth 100000 in
set_option maxHeartbeats 200000 in
theorem T_X12_partsOf_4_s {X : CX} (hX : Ok X cX12_partsOf 4 RX12 (some .int)) (hdx : dX X = 4) {r : Int32} (h : Hp) (x1 : Int32) (q_4 : Int32 → Int32 → Option Int32) (hq_4 : ∀ (x2 : Int32) (x3 : Int32), q_4 x2 x3 = some r → J X ((.inl (some (.int r)), h)) 4 [(0, .ref 30), (1, .int x1), (2, .int x2), (3, .int x3)] [] h) (x2 : Int32) (x3 : Int32) (hf : S_X12_partsOf_4 h x1 q_4 x2 x3 = some r) : J X ((.inl (some (.int r)), h)) 4 [(0, .ref 30), (1, .int x1), (2, .int x2), (3, .int x3)] [] h := by
  unfold S_X12_partsOf_4 at hf
  refine J_iload_n hX 3 dX12_partsOf_4 rfl rfl ?_
  refine J_aload_n hX 0 dX12_partsOf_5 rfl rfl ?_
  refine V_1 hX [] dX12_partsOf_6 cw_X12_87 ob_30 rfl (C_X12_houses (okG hX) rfl) (ltD hdx rfl) rfl rfl rfl rfl ?_
  rcases ifE hf with ⟨c_1, hf⟩ | ⟨c_1, hf⟩
  · refine J_icmp_geF hX 27 dX12_partsOf_9 rfl c_1 ?_
    refine J_iload_n hX 2 dX12_partsOf_12 rfl rfl ?_
    refine J_aload_n hX 0 dX12_partsOf_13 rfl rfl ?_
    refine J_iload_n hX 1 dX12_partsOf_14 rfl rfl ?_
    refine J_iload_n hX 3 dX12_partsOf_15 rfl rfl ?_
    obtain ⟨r_2, e_3, hf⟩ := bdE hf
    refine V_1 hX [.int x1, .int x3] dX12_partsOf_16 cw_X12_103 ob_30 rfl (C_X12_partOf (okG hX) e_3) (ltD hdx rfl) rfl rfl rfl rfl ?_
    refine J_iadd hX dX12_partsOf_19 ?_
    refine J_istore_n hX [(2, .int (x2 + r_2)), (0, .ref 30), (1, .int x1), (3, .int x3)] dX12_partsOf_20 rfl rfl rfl ?_
    refine J_iinc hX (x3 + 1) 3 [(3, .int (x3 + 1)), (2, .int (x2 + r_2)), (0, .ref 30), (1, .int x1)] dX12_partsOf_21 rfl rfl rfl rfl ?_
    refine J_goto hX 4 dX12_partsOf_24 rfl ?_
    refine J_sub [2, 3, 1, 0] [(0, .ref 30), (1, .int x1), (2, .int (x2 + r_2)), (3, .int (x3 + 1))] rfl ?_
    exact hq_4 (x2 + r_2) (x3 + 1) hf
  · refine J_icmp_geT hX 27 dX12_partsOf_9 rfl c_1 ?_
    refine J_iload_n hX 2 dX12_partsOf_27 rfl rfl ?_
    exact E_Ip hX dX12_partsOf_28 hf
set_option maxRecDepth 100000 in
set_option maxHeartbeats 200000 in
theorem T_X12_partsOf_4 {X : CX} (hX : Ok X cX12_partsOf 4 RX12 (some .int)) (hdx : dX X = 4) {r : Int32} (h : Hp) (x1 : Int32) : ∀ (n : Nat) (x2 : Int32) (x3 : Int32), F_X12_partsOf_4 h x1 n x2 x3 = some r → J X ((.inl (some (.int r)), h)) 4 [(0, .ref 30), (1, .int x1), (2, .int x2), (3, .int x3)] [] h := by
  intro n
  induction n with
  | zero => intro x2 x3 hf; exact nomatch hf
  | succ n ih => intro x2 x3 hf; exact T_X12_partsOf_4_s hX hdx h x1 _ (fun x2 x3 hf => ih x2 x3 hf) x2 x3 hf
set_option maxRecDepth 100000 in
set_option maxHeartbeats 200000 in
theorem T_X12_partsOf_0 {X : CX} (hX : Ok X cX12_partsOf 4 RX12 (some .int)) (hdx : dX X = 4) {r : Int32} (x1 : Int32) (h : Hp) (hf : f_X12_partsOf x1 h = some r) : J X ((.inl (some (.int r)), h)) 0 [(0, .ref 30), (1, .int x1)] [] h := by
  unfold f_X12_partsOf at hf
  refine J_iconst hX 0 dX12_partsOf_0 rfl ?_
  refine J_istore_n hX [(2, .int 0), (0, .ref 30), (1, .int x1)] dX12_partsOf_1 rfl rfl rfl ?_
  refine J_iconst hX 0 dX12_partsOf_2 rfl ?_
  refine J_istore_n hX [(3, .int 0), (2, .int 0), (0, .ref 30), (1, .int x1)] dX12_partsOf_3 rfl rfl rfl ?_
  refine J_sub [2, 3, 1, 0] [(0, .ref 30), (1, .int x1), (2, .int 0), (3, .int 0)] rfl ?_
  exact T_X12_partsOf_4 hX hdx h x1 FU 0 0 hf
set_option maxRecDepth 100000 in
set_option maxHeartbeats 200000 in
theorem C_X12_partsOf {G : GX} (hG : GOk G) {x1 : Int32} {h : Hp} {r : Int32} (hf : f_X12_partsOf x1 h = some r) : Ctr G 4 yX12_partsOf cX12_partsOf 4 (some .int) [.ref 30, .int x1] h ((.inl (some (.int r)), h)) :=
  Ctr_of hG RX12 rfl (by decide) rfl (fun X _ hdx hX => T_X12_partsOf_0 hX hdx x1 h hf)
theorem dX12_givesOn_0 : decode cX12_givesOn 0 = .ok (.aload_n 0, 1) := by decide +kernel
theorem dX12_givesOn_1 : decode cX12_givesOn 1 = .ok (.iload_n 1, 1) := by decide +kernel
theorem dX12_givesOn_2 : decode cX12_givesOn 2 = .ok (.invokevirtual 106, 3) := by decide +kernel
theorem dX12_givesOn_5 : decode cX12_givesOn 5 = .ok (.istore_n 2, 1) := by decide +kernel
theorem dX12_givesOn_6 : decode cX12_givesOn 6 = .ok (.aload_n 0, 1) := by decide +kernel
theorem dX12_givesOn_7 : decode cX12_givesOn 7 = .ok (.iload_n 1, 1) := by decide +kernel
theorem dX12_givesOn_8 : decode cX12_givesOn 8 = .ok (.iconst 0, 1) := by decide +kernel
theorem dX12_givesOn_9 : decode cX12_givesOn 9 = .ok (.invokevirtual 84, 3) := by decide +kernel
theorem dX12_givesOn_12 : decode cX12_givesOn 12 = .ok (.aload_n 0, 1) := by decide +kernel
theorem dX12_givesOn_13 : decode cX12_givesOn 13 = .ok (.getfield 29, 3) := by decide +kernel
theorem dX12_givesOn_16 : decode cX12_givesOn 16 = .ok (.iload_n 1, 1) := by decide +kernel
theorem dX12_givesOn_17 : decode cX12_givesOn 17 = .ok (.iaload, 1) := by decide +kernel
theorem dX12_givesOn_18 : decode cX12_givesOn 18 = .ok (.iadd, 1) := by decide +kernel
theorem dX12_givesOn_19 : decode cX12_givesOn 19 = .ok (.iconst 2, 1) := by decide +kernel
theorem dX12_givesOn_20 : decode cX12_givesOn 20 = .ok (.idiv, 1) := by decide +kernel
theorem dX12_givesOn_21 : decode cX12_givesOn 21 = .ok (.istore_n 3, 1) := by decide +kernel
theorem dX12_givesOn_22 : decode cX12_givesOn 22 = .ok (.iconst 0, 1) := by decide +kernel
theorem dX12_givesOn_23 : decode cX12_givesOn 23 = .ok (.istore 4, 2) := by decide +kernel
theorem dX12_givesOn_25 : decode cX12_givesOn 25 = .ok (.iload 4, 2) := by decide +kernel
theorem dX12_givesOn_27 : decode cX12_givesOn 27 = .ok (.aload_n 0, 1) := by decide +kernel
theorem dX12_givesOn_28 : decode cX12_givesOn 28 = .ok (.invokevirtual 87, 3) := by decide +kernel
theorem dX12_givesOn_31 : decode cX12_givesOn 31 = .ok (.if_icmp .ge 34, 3) := by decide +kernel
theorem dX12_givesOn_34 : decode cX12_givesOn 34 = .ok (.iload_n 2, 1) := by decide +kernel
theorem dX12_givesOn_35 : decode cX12_givesOn 35 = .ok (.ifCond .le 30, 3) := by decide +kernel
theorem dX12_givesOn_38 : decode cX12_givesOn 38 = .ok (.aload_n 0, 1) := by decide +kernel
theorem dX12_givesOn_39 : decode cX12_givesOn 39 = .ok (.getfield 32, 3) := by decide +kernel
theorem dX12_givesOn_42 : decode cX12_givesOn 42 = .ok (.iload 4, 2) := by decide +kernel
theorem dX12_givesOn_44 : decode cX12_givesOn 44 = .ok (.dup2, 1) := by decide +kernel
theorem dX12_givesOn_45 : decode cX12_givesOn 45 = .ok (.iaload, 1) := by decide +kernel
theorem dX12_givesOn_46 : decode cX12_givesOn 46 = .ok (.iload_n 3, 1) := by decide +kernel
theorem dX12_givesOn_47 : decode cX12_givesOn 47 = .ok (.aload_n 0, 1) := by decide +kernel
theorem dX12_givesOn_48 : decode cX12_givesOn 48 = .ok (.iload_n 1, 1) := by decide +kernel
theorem dX12_givesOn_49 : decode cX12_givesOn 49 = .ok (.iload 4, 2) := by decide +kernel
theorem dX12_givesOn_51 : decode cX12_givesOn 51 = .ok (.invokevirtual 103, 3) := by decide +kernel
theorem dX12_givesOn_54 : decode cX12_givesOn 54 = .ok (.imul, 1) := by decide +kernel
theorem dX12_givesOn_55 : decode cX12_givesOn 55 = .ok (.iload_n 2, 1) := by decide +kernel
theorem dX12_givesOn_56 : decode cX12_givesOn 56 = .ok (.idiv, 1) := by decide +kernel
theorem dX12_givesOn_57 : decode cX12_givesOn 57 = .ok (.iadd, 1) := by decide +kernel
theorem dX12_givesOn_58 : decode cX12_givesOn 58 = .ok (.iastore, 1) := by decide +kernel
theorem dX12_givesOn_59 : decode cX12_givesOn 59 = .ok (.iinc 4 1, 3) := by decide +kernel
theorem dX12_givesOn_62 : decode cX12_givesOn 62 = .ok (.goto (-37), 3) := by decide +kernel
theorem dX12_givesOn_65 : decode cX12_givesOn 65 = .ok (.return_, 1) := by decide +kernel
set_option maxRecDepth 100000 in
set_option maxHeartbeats 200000 in
theorem T_X12_givesOn_25_s {X : CX} (hX : Ok X cX12_givesOn 5 RX12 none) (hdx : dX X = 5) {r : Hp} (x1 : Int32) (x2 : Int32) (x3 : Int32) (q_25 : Int32 → Hp → Option Hp) (hq_25 : ∀ (x4 : Int32) (h : Hp), q_25 x4 h = some r → J X ((.inl none, r)) 25 [(0, .ref 30), (1, .int x1), (2, .int x2), (3, .int x3), (4, .int x4)] [] h) (x4 : Int32) (h : Hp) (hf : S_X12_givesOn_25 x1 x2 x3 q_25 x4 h = some r) : J X ((.inl none, r)) 25 [(0, .ref 30), (1, .int x1), (2, .int x2), (3, .int x3), (4, .int x4)] [] h := by
  unfold S_X12_givesOn_25 at hf
  refine J_iload hX 4 dX12_givesOn_25 rfl ?_
  refine J_aload_n hX 0 dX12_givesOn_27 rfl rfl ?_
  refine V_1 hX [] dX12_givesOn_28 cw_X12_87 ob_30 rfl (C_X12_houses (okG hX) rfl) (ltD hdx rfl) rfl rfl rfl rfl ?_
  rcases ifE hf with ⟨c_1, hf⟩ | ⟨c_1, hf⟩
  · refine J_icmp_geF hX 65 dX12_givesOn_31 rfl c_1 ?_
    refine J_iload_n hX 2 dX12_givesOn_34 rfl rfl ?_
    rcases ifE hf with ⟨c_2, hf⟩ | ⟨c_2, hf⟩
    · refine J_if_leF hX 65 dX12_givesOn_35 rfl c_2 ?_
      refine J_aload_n hX 0 dX12_givesOn_38 rfl rfl ?_
      refine J_getR hX 37 dX12_givesOn_39 fl_X12_32 ob_30 rfl rfl ?_
      refine J_iload hX 4 dX12_givesOn_42 rfl ?_
      refine J_dup2 hX dX12_givesOn_44 rfl rfl ?_
      obtain ⟨g_3, hf⟩ := gdE hf
      refine J_ald hX x4.toNatClampNeg dX12_givesOn_45 ar_37 (Or.inl ⟨rfl, rfl⟩) g_3 rfl ?_
      refine J_iload_n hX 3 dX12_givesOn_46 rfl rfl ?_
      refine J_aload_n hX 0 dX12_givesOn_47 rfl rfl ?_
      refine J_iload_n hX 1 dX12_givesOn_48 rfl rfl ?_
      refine J_iload hX 4 dX12_givesOn_49 rfl ?_
      obtain ⟨r_4, e_5, hf⟩ := bdE hf
      refine V_1 hX [.int x1, .int x4] dX12_givesOn_51 cw_X12_103 ob_30 rfl (C_X12_partOf (okG hX) e_5) (ltD hdx rfl) rfl rfl rfl rfl ?_
      refine J_imul hX dX12_givesOn_54 ?_
      refine J_iload_n hX 2 dX12_givesOn_55 rfl rfl ?_
      obtain ⟨g_6, hf⟩ := gdE hf
      refine J_idiv hX g_6 dX12_givesOn_56 ?_
      refine J_iadd hX dX12_givesOn_57 ?_
      obtain ⟨g_7, hf⟩ := gdE hf
      obtain ⟨h_8, e_9, hf⟩ := bndE hf
      refine J_ast hX x4.toNatClampNeg ((h 37 x4.toNatClampNeg) + ((x3 * r_4) / x2)) dX12_givesOn_58 ar_37 (Or.inl ⟨rfl, rfl, rfl⟩) g_7 rfl ?_
      refine J_nmh e_9 ?_
      refine J_iinc hX (x4 + 1) 4 [(4, .int (x4 + 1)), (0, .ref 30), (1, .int x1), (2, .int x2), (3, .int x3)] dX12_givesOn_59 rfl rfl rfl rfl ?_
      refine J_goto hX 25 dX12_givesOn_62 rfl ?_
      refine J_sub [1, 2, 3, 4, 0] [(0, .ref 30), (1, .int x1), (2, .int x2), (3, .int x3), (4, .int (x4 + 1))] rfl ?_
      exact hq_25 (x4 + 1) h_8 hf
    · refine J_if_leT hX 65 dX12_givesOn_35 rfl c_2 ?_
      exact E_Vi hX dX12_givesOn_65 hf
  · refine J_icmp_geT hX 65 dX12_givesOn_31 rfl c_1 ?_
    exact E_Vi hX dX12_givesOn_65 hf
set_option maxRecDepth 100000 in
set_option maxHeartbeats 200000 in
theorem T_X12_givesOn_25 {X : CX} (hX : Ok X cX12_givesOn 5 RX12 none) (hdx : dX X = 5) {r : Hp} (x1 : Int32) (x2 : Int32) (x3 : Int32) : ∀ (n : Nat) (x4 : Int32) (h : Hp), F_X12_givesOn_25 x1 x2 x3 n x4 h = some r → J X ((.inl none, r)) 25 [(0, .ref 30), (1, .int x1), (2, .int x2), (3, .int x3), (4, .int x4)] [] h := by
  intro n
  induction n with
  | zero => intro x4 h hf; exact nomatch hf
  | succ n ih => intro x4 h hf; exact T_X12_givesOn_25_s hX hdx x1 x2 x3 _ (fun x4 h hf => ih x4 h hf) x4 h hf
set_option maxRecDepth 100000 in
set_option maxHeartbeats 200000 in
theorem T_X12_givesOn_0 {X : CX} (hX : Ok X cX12_givesOn 5 RX12 none) (hdx : dX X = 5) {r : Hp} (x1 : Int32) (h : Hp) (hf : f_X12_givesOn x1 h = some r) : J X ((.inl none, r)) 0 [(0, .ref 30), (1, .int x1)] [] h := by
  unfold f_X12_givesOn at hf
  refine J_aload_n hX 0 dX12_givesOn_0 rfl rfl ?_
  refine J_iload_n hX 1 dX12_givesOn_1 rfl rfl ?_
  obtain ⟨r_1, e_2, hf⟩ := bdE hf
  refine V_1 hX [.int x1] dX12_givesOn_2 cw_X12_106 ob_30 rfl (C_X12_partsOf (okG hX) e_2) (ltD hdx rfl) rfl rfl rfl rfl ?_
  refine J_istore_n hX [(2, .int r_1), (0, .ref 30), (1, .int x1)] dX12_givesOn_5 rfl rfl rfl ?_
  refine J_aload_n hX 1 dX12_givesOn_6 rfl rfl ?_
  refine J_iload_n hX 2 dX12_givesOn_7 rfl rfl ?_
  refine J_iconst hX 0 dX12_givesOn_8 rfl ?_
  obtain ⟨r_3, e_4, hf⟩ := bdE hf
  refine V_1 hX [.int x1, .int 0] dX12_givesOn_9 cw_X12_84 ob_30 rfl (C_X12_of (okG hX) e_4) (ltD hdx rfl) rfl rfl rfl rfl ?_
  refine J_aload_n hX 1 dX12_givesOn_12 rfl rfl ?_
  refine J_getR hX 36 dX12_givesOn_13 fl_X12_29 ob_30 rfl rfl ?_
  refine J_iload_n hX 2 dX12_givesOn_16 rfl rfl ?_
  obtain ⟨g_5, hf⟩ := gdE hf
  refine J_ald hX x1.toNatClampNeg dX12_givesOn_17 ar_36 (Or.inl ⟨rfl, rfl⟩) g_5 rfl ?_
  refine J_iadd hX dX12_givesOn_18 ?_
  refine J_iconst hX 2 dX12_givesOn_19 rfl ?_
  refine J_idiv hX (by decide) dX12_givesOn_20 ?_
  obtain ⟨x3_6, e_7, hf⟩ := bndE hf
  refine J_nm e_7 ?_
  refine J_istore_n hX [(3, .int x3_6), (2, .int r_1), (0, .ref 30), (1, .int x1)] dX12_givesOn_21 rfl rfl rfl ?_
  refine J_iconst hX 0 dX12_givesOn_22 rfl ?_
  refine J_istore hX [(4, .int 0), (3, .int x3_6), (2, .int r_1), (0, .ref 30), (1, .int x1)] dX12_givesOn_23 rfl rfl ?_
  refine J_sub [3, 4, 2, 1, 0] [(0, .ref 30), (1, .int x1), (2, .int r_1), (3, .int x3_6), (4, .int 0)] rfl ?_
  exact T_X12_givesOn_25 hX hdx x1 r_1 x3_6 FU 0 h hf
set_option maxRecDepth 100000 in
set_option maxHeartbeats 200000 in
theorem C_X12_givesOn {G : GX} (hG : GOk G) {x1 : Int32} {h : Hp} {r : Hp} (hf : f_X12_givesOn x1 h = some r) : Ctr G 5 yX12_givesOn cX12_givesOn 5 none [.ref 30, .int x1] h ((.inl none, r)) :=
  Ctr_of hG RX12 rfl (by decide) rfl (fun X _ hdx hX => T_X12_givesOn_0 hX hdx x1 h hf)
theorem dX12_lays_0 : decode cX12_lays 0 = .ok (.iconst 0, 1) := by decide +kernel
theorem dX12_lays_1 : decode cX12_lays 1 = .ok (.istore_n 1, 1) := by decide +kernel
theorem dX12_lays_2 : decode cX12_lays 2 = .ok (.iload_n 1, 1) := by decide +kernel
theorem dX12_lays_3 : decode cX12_lays 3 = .ok (.bipush 8, 2) := by decide +kernel
theorem dX12_lays_5 : decode cX12_lays 5 = .ok (.if_icmp .ge 16, 3) := by decide +kernel
theorem dX12_lays_8 : decode cX12_lays 8 = .ok (.aload_n 0, 1) := by decide +kernel
theorem dX12_lays_9 : decode cX12_lays 9 = .ok (.getfield 29, 3) := by decide +kernel
theorem dX12_lays_12 : decode cX12_lays 12 = .ok (.iload_n 1, 1) := by decide +kernel
theorem dX12_lays_13 : decode cX12_lays 13 = .ok (.iconst 0, 1) := by decide +kernel
theorem dX12_lays_14 : decode cX12_lays 14 = .ok (.iastore, 1) := by decide +kernel
theorem dX12_lays_15 : decode cX12_lays 15 = .ok (.iinc 1 1, 3) := by decide +kernel
theorem dX12_lays_18 : decode cX12_lays 18 = .ok (.goto (-16), 3) := by decide +kernel
theorem dX12_lays_21 : decode cX12_lays 21 = .ok (.iconst 0, 1) := by decide +kernel
theorem dX12_lays_22 : decode cX12_lays 22 = .ok (.istore_n 1, 1) := by decide +kernel
theorem dX12_lays_23 : decode cX12_lays 23 = .ok (.iload_n 1, 1) := by decide +kernel
theorem dX12_lays_24 : decode cX12_lays 24 = .ok (.bipush 12, 2) := by decide +kernel
theorem dX12_lays_26 : decode cX12_lays 26 = .ok (.if_icmp .ge 77, 3) := by decide +kernel
theorem dX12_lays_29 : decode cX12_lays 29 = .ok (.iconst 0, 1) := by decide +kernel
theorem dX12_lays_30 : decode cX12_lays 30 = .ok (.istore_n 2, 1) := by decide +kernel
theorem dX12_lays_31 : decode cX12_lays 31 = .ok (.iload_n 2, 1) := by decide +kernel
theorem dX12_lays_32 : decode cX12_lays 32 = .ok (.bipush 8, 2) := by decide +kernel
theorem dX12_lays_34 : decode cX12_lays 34 = .ok (.if_icmp .ge 16, 3) := by decide +kernel
theorem dX12_lays_37 : decode cX12_lays 37 = .ok (.aload_n 0, 1) := by decide +kernel
theorem dX12_lays_38 : decode cX12_lays 38 = .ok (.getfield 32, 3) := by decide +kernel
theorem dX12_lays_41 : decode cX12_lays 41 = .ok (.iload_n 2, 1) := by decide +kernel
theorem dX12_lays_42 : decode cX12_lays 42 = .ok (.iconst 0, 1) := by decide +kernel
theorem dX12_lays_43 : decode cX12_lays 43 = .ok (.iastore, 1) := by decide +kernel
theorem dX12_lays_44 : decode cX12_lays 44 = .ok (.iinc 2 1, 3) := by decide +kernel
theorem dX12_lays_47 : decode cX12_lays 47 = .ok (.goto (-16), 3) := by decide +kernel
theorem dX12_lays_50 : decode cX12_lays 50 = .ok (.iconst 0, 1) := by decide +kernel
theorem dX12_lays_51 : decode cX12_lays 51 = .ok (.istore_n 2, 1) := by decide +kernel
theorem dX12_lays_52 : decode cX12_lays 52 = .ok (.iload_n 2, 1) := by decide +kernel
theorem dX12_lays_53 : decode cX12_lays 53 = .ok (.aload_n 0, 1) := by decide +kernel
theorem dX12_lays_54 : decode cX12_lays 54 = .ok (.invokevirtual 87, 3) := by decide +kernel
theorem dX12_lays_57 : decode cX12_lays 57 = .ok (.if_icmp .ge 14, 3) := by decide +kernel
theorem dX12_lays_60 : decode cX12_lays 60 = .ok (.aload_n 0, 1) := by decide +kernel
theorem dX12_lays_61 : decode cX12_lays 61 = .ok (.iload_n 2, 1) := by decide +kernel
theorem dX12_lays_62 : decode cX12_lays 62 = .ok (.invokevirtual 110, 3) := by decide +kernel
theorem dX12_lays_65 : decode cX12_lays 65 = .ok (.iinc 2 1, 3) := by decide +kernel
theorem dX12_lays_68 : decode cX12_lays 68 = .ok (.goto (-16), 3) := by decide +kernel
theorem dX12_lays_71 : decode cX12_lays 71 = .ok (.iconst 0, 1) := by decide +kernel
theorem dX12_lays_72 : decode cX12_lays 72 = .ok (.istore_n 2, 1) := by decide +kernel
theorem dX12_lays_73 : decode cX12_lays 73 = .ok (.iload_n 2, 1) := by decide +kernel
theorem dX12_lays_74 : decode cX12_lays 74 = .ok (.bipush 8, 2) := by decide +kernel
theorem dX12_lays_76 : decode cX12_lays 76 = .ok (.if_icmp .ge 21, 3) := by decide +kernel
theorem dX12_lays_79 : decode cX12_lays 79 = .ok (.aload_n 0, 1) := by decide +kernel
theorem dX12_lays_80 : decode cX12_lays 80 = .ok (.getfield 29, 3) := by decide +kernel
theorem dX12_lays_83 : decode cX12_lays 83 = .ok (.iload_n 2, 1) := by decide +kernel
theorem dX12_lays_84 : decode cX12_lays 84 = .ok (.aload_n 0, 1) := by decide +kernel
theorem dX12_lays_85 : decode cX12_lays 85 = .ok (.getfield 32, 3) := by decide +kernel
theorem dX12_lays_88 : decode cX12_lays 88 = .ok (.iload_n 2, 1) := by decide +kernel
theorem dX12_lays_89 : decode cX12_lays 89 = .ok (.iaload, 1) := by decide +kernel
theorem dX12_lays_90 : decode cX12_lays 90 = .ok (.iastore, 1) := by decide +kernel
theorem dX12_lays_91 : decode cX12_lays 91 = .ok (.iinc 2 1, 3) := by decide +kernel
theorem dX12_lays_94 : decode cX12_lays 94 = .ok (.goto (-21), 3) := by decide +kernel
theorem dX12_lays_97 : decode cX12_lays 97 = .ok (.iinc 1 1, 3) := by decide +kernel
theorem dX12_lays_100 : decode cX12_lays 100 = .ok (.goto (-77), 3) := by decide +kernel
theorem dX12_lays_103 : decode cX12_lays 103 = .ok (.return_, 1) := by decide +kernel
set_option maxRecDepth 100000 in
set_option maxHeartbeats 200000 in
theorem T_X12_lays_73_s {X : CX} (hX : Ok X cX12_lays 3 RX12 none) (hdx : dX X = 6) {r : Hp} (x1 : Int32) (q_23 : Int32 → Hp → Option Hp) (hq_23 : ∀ (x1 : Int32) (h : Hp), q_23 x1 h = some r → J X ((.inl none, r)) 23 [(0, .ref 30), (1, .int x1)] [] h) (q_73 : Int32 → Hp → Option Hp) (hq_73 : ∀ (x2 : Int32) (h : Hp), q_73 x2 h = some r → J X ((.inl none, r)) 73 [(0, .ref 30), (1, .int x1), (2, .int x2)] [] h) (x2 : Int32) (h : Hp) (hf : S_X12_lays_73 q_23 x1 q_73 x2 h = some r) : J X ((.inl none, r)) 73 [(0, .ref 30), (1, .int x1), (2, .int x2)] [] h := by
  unfold S_X12_lays_73 at hf
  refine J_iload_n hX 2 dX12_lays_73 rfl rfl ?_
  refine J_bipush hX 8 dX12_lays_74 rfl ?_
  rcases ifE hf with ⟨c_1, hf⟩ | ⟨c_1, hf⟩
  · refine J_icmp_geF hX 97 dX12_lays_76 rfl c_1 ?_
    refine J_aload_n hX 0 dX12_lays_79 rfl rfl ?_
    refine J_getR hX 36 dX12_lays_80 fl_X12_29 ob_30 rfl rfl ?_
    refine J_iload_n hX 2 dX12_lays_83 rfl rfl ?_
    refine J_aload_n hX 0 dX12_lays_84 rfl rfl ?_
    refine J_getR hX 37 dX12_lays_85 fl_X12_32 ob_30 rfl rfl ?_
    refine J_iload_n hX 2 dX12_lays_88 rfl rfl ?_
    obtain ⟨g_2, hf⟩ := gdE hf
    refine J_ald hX x2.toNatClampNeg dX12_lays_89 ar_37 (Or.inl ⟨rfl, rfl⟩) g_2 rfl ?_
    obtain ⟨g_3, hf⟩ := gdE hf
    obtain ⟨h_4, e_5, hf⟩ := bndE hf
    refine J_ast hX x2.toNatClampNeg (h 37 x2.toNatClampNeg) dX12_lays_90 ar_36 (Or.inl ⟨rfl, rfl, rfl⟩) g_3 rfl ?_
    refine J_nmh e_5 ?_
    refine J_iinc hX (x2 + 1) 2 [(2, .int (x2 + 1)), (0, .ref 30), (1, .int x1)] dX12_lays_91 rfl rfl rfl rfl ?_
    refine J_goto hX 73 dX12_lays_94 rfl ?_
    refine J_sub [1, 2, 0] [(0, .ref 30), (1, .int x1), (2, .int (x2 + 1))] rfl ?_
    exact hq_73 (x2 + 1) h_4 hf
  · refine J_icmp_geT hX 97 dX12_lays_76 rfl c_1 ?_
    refine J_iinc hX (x1 + 1) 1 [(1, .int (x1 + 1)), (0, .ref 30), (2, .int x2)] dX12_lays_97 rfl rfl rfl rfl ?_
    refine J_goto hX 23 dX12_lays_100 rfl ?_
    refine J_sub [1, 0] [(0, .ref 30), (1, .int (x1 + 1))] rfl ?_
    exact hq_23 (x1 + 1) h hf
set_option maxRecDepth 100000 in
set_option maxHeartbeats 200000 in
theorem T_X12_lays_73 {X : CX} (hX : Ok X cX12_lays 3 RX12 none) (hdx : dX X = 6) {r : Hp} (x1 : Int32) (q_23 : Int32 → Hp → Option Hp) (hq_23 : ∀ (x1 : Int32) (h : Hp), q_23 x1 h = some r → J X ((.inl none, r)) 23 [(0, .ref 30), (1, .int x1)] [] h) : ∀ (n : Nat) (x2 : Int32) (h : Hp), F_X12_lays_73 q_23 x1 n x2 h = some r → J X ((.inl none, r)) 73 [(0, .ref 30), (1, .int x1), (2, .int x2)] [] h := by
  intro n
  induction n with
  | zero => intro x2 h hf; exact nomatch hf
  | succ n ih => intro x2 h hf; exact T_X12_lays_73_s hX hdx x1 q_23 hq_23 _ (fun x2 h hf => ih x2 h hf) x2 h hf
set_option maxRecDepth 100000 in
set_option maxHeartbeats 200000 in
theorem T_X12_lays_52_s {X : CX} (hX : Ok X cX12_lays 3 RX12 none) (hdx : dX X = 6) {r : Hp} (x1 : Int32) (q_23 : Int32 → Hp → Option Hp) (hq_23 : ∀ (x1 : Int32) (h : Hp), q_23 x1 h = some r → J X ((.inl none, r)) 23 [(0, .ref 30), (1, .int x1)] [] h) (q_52 : Int32 → Hp → Option Hp) (hq_52 : ∀ (x2 : Int32) (h : Hp), q_52 x2 h = some r → J X ((.inl none, r)) 52 [(0, .ref 30), (1, .int x1), (2, .int x2)] [] h) (x2 : Int32) (h : Hp) (hf : S_X12_lays_52 q_23 x1 q_52 x2 h = some r) : J X ((.inl none, r)) 52 [(0, .ref 30), (1, .int x1), (2, .int x2)] [] h := by
  unfold S_X12_lays_52 at hf
  refine J_iload_n hX 2 dX12_lays_52 rfl rfl ?_
  refine J_aload_n hX 0 dX12_lays_53 rfl rfl ?_
  refine V_1 hX [] dX12_lays_54 cw_X12_87 ob_30 rfl (C_X12_houses (okG hX) rfl) (ltD hdx rfl) rfl rfl rfl rfl ?_
  rcases ifE hf with ⟨c_1, hf⟩ | ⟨c_1, hf⟩
  · refine J_icmp_geF hX 71 dX12_lays_57 rfl c_1 ?_
    refine J_aload_n hX 0 dX12_lays_60 rfl rfl ?_
    refine J_iload_n hX 2 dX12_lays_61 rfl rfl ?_
    obtain ⟨r_2, e_3, hf⟩ := bdE hf
    refine V_0 hX [.int x2] dX12_lays_62 cw_X12_110 ob_30 rfl (C_X12_givesOn (okG hX) e_3) (ltD hdx rfl) rfl rfl rfl rfl ?_
    refine J_iinc hX (x2 + 1) 2 [(2, .int (x2 + 1)), (0, .ref 30), (1, .int x1)] dX12_lays_65 rfl rfl rfl rfl ?_
    refine J_goto hX 52 dX12_lays_68 rfl ?_
    refine J_sub [1, 2, 0] [(0, .ref 30), (1, .int x1), (2, .int (x2 + 1))] rfl ?_
    exact hq_52 (x2 + 1) r_2 hf
  · refine J_icmp_geT hX 71 dX12_lays_57 rfl c_1 ?_
    refine J_iconst hX 0 dX12_lays_71 rfl ?_
    refine J_istore_n hX [(2, .int 0), (0, .ref 30), (1, .int x1)] dX12_lays_72 rfl rfl rfl ?_
    refine J_sub [1, 2, 0] [(0, .ref 30), (1, .int x1), (2, .int 0)] rfl ?_
    exact T_X12_lays_73 hX hdx x1 q_23 hq_23 FU 0 h hf
set_option maxRecDepth 100000 in
set_option maxHeartbeats 200000 in
theorem T_X12_lays_52 {X : CX} (hX : Ok X cX12_lays 3 RX12 none) (hdx : dX X = 6) {r : Hp} (x1 : Int32) (q_23 : Int32 → Hp → Option Hp) (hq_23 : ∀ (x1 : Int32) (h : Hp), q_23 x1 h = some r → J X ((.inl none, r)) 23 [(0, .ref 30), (1, .int x1)] [] h) : ∀ (n : Nat) (x2 : Int32) (h : Hp), F_X12_lays_52 q_23 x1 n x2 h = some r → J X ((.inl none, r)) 52 [(0, .ref 30), (1, .int x1), (2, .int x2)] [] h := by
  intro n
  induction n with
  | zero => intro x2 h hf; exact nomatch hf
  | succ n ih => intro x2 h hf; exact T_X12_lays_52_s hX hdx x1 q_23 hq_23 _ (fun x2 h hf => ih x2 h hf) x2 h hf
set_option maxRecDepth 100000 in
set_option maxHeartbeats 200000 in
theorem T_X12_lays_31_s {X : CX} (hX : Ok X cX12_lays 3 RX12 none) (hdx : dX X = 6) {r : Hp} (x1 : Int32) (q_23 : Int32 → Hp → Option Hp) (hq_23 : ∀ (x1 : Int32) (h : Hp), q_23 x1 h = some r → J X ((.inl none, r)) 23 [(0, .ref 30), (1, .int x1)] [] h) (q_31 : Int32 → Hp → Option Hp) (hq_31 : ∀ (x2 : Int32) (h : Hp), q_31 x2 h = some r → J X ((.inl none, r)) 31 [(0, .ref 30), (1, .int x1), (2, .int x2)] [] h) (x2 : Int32) (h : Hp) (hf : S_X12_lays_31 q_23 x1 q_31 x2 h = some r) : J X ((.inl none, r)) 31 [(0, .ref 30), (1, .int x1), (2, .int x2)] [] h := by
  unfold S_X12_lays_31 at hf
  refine J_iload_n hX 2 dX12_lays_31 rfl rfl ?_
  refine J_bipush hX 8 dX12_lays_32 rfl ?_
  rcases ifE hf with ⟨c_1, hf⟩ | ⟨c_1, hf⟩
  · refine J_icmp_geF hX 50 dX12_lays_34 rfl c_1 ?_
    refine J_aload_n hX 0 dX12_lays_37 rfl rfl ?_
    refine J_getR hX 37 dX12_lays_38 fl_X12_32 ob_30 rfl rfl ?_
    refine J_iload_n hX 2 dX12_lays_41 rfl rfl ?_
    refine J_iconst hX 0 dX12_lays_42 rfl ?_
    obtain ⟨g_2, hf⟩ := gdE hf
    obtain ⟨h_3, e_4, hf⟩ := bndE hf
    refine J_ast hX x2.toNatClampNeg 0 dX12_lays_43 ar_37 (Or.inl ⟨rfl, rfl, rfl⟩) g_2 rfl ?_
    refine J_nmh e_4 ?_
    refine J_iinc hX (x2 + 1) 2 [(2, .int (x2 + 1)), (0, .ref 30), (1, .int x1)] dX12_lays_44 rfl rfl rfl rfl ?_
    refine J_goto hX 31 dX12_lays_47 rfl ?_
    refine J_sub [1, 2, 0] [(0, .ref 30), (1, .int x1), (2, .int (x2 + 1))] rfl ?_
    exact hq_31 (x2 + 1) h_3 hf
  · refine J_icmp_geT hX 50 dX12_lays_34 rfl c_1 ?_
    refine J_iconst hX 0 dX12_lays_50 rfl ?_
    refine J_istore_n hX [(2, .int 0), (0, .ref 30), (1, .int x1)] dX12_lays_51 rfl rfl rfl ?_
    refine J_sub [1, 2, 0] [(0, .ref 30), (1, .int x1), (2, .int 0)] rfl ?_
    exact T_X12_lays_52 hX hdx x1 q_23 hq_23 FU 0 h hf
set_option maxRecDepth 100000 in
set_option maxHeartbeats 200000 in
theorem T_X12_lays_31 {X : CX} (hX : Ok X cX12_lays 3 RX12 none) (hdx : dX X = 6) {r : Hp} (x1 : Int32) (q_23 : Int32 → Hp → Option Hp) (hq_23 : ∀ (x1 : Int32) (h : Hp), q_23 x1 h = some r → J X ((.inl none, r)) 23 [(0, .ref 30), (1, .int x1)] [] h) : ∀ (n : Nat) (x2 : Int32) (h : Hp), F_X12_lays_31 q_23 x1 n x2 h = some r → J X ((.inl none, r)) 31 [(0, .ref 30), (1, .int x1), (2, .int x2)] [] h := by
  intro n
  induction n with
  | zero => intro x2 h hf; exact nomatch hf
  | succ n ih => intro x2 h hf; exact T_X12_lays_31_s hX hdx x1 q_23 hq_23 _ (fun x2 h hf => ih x2 h hf) x2 h hf
set_option maxRecDepth 100000 in
set_option maxHeartbeats 200000 in
theorem T_X12_lays_23_s {X : CX} (hX : Ok X cX12_lays 3 RX12 none) (hdx : dX X = 6) {r : Hp} (q_23 : Int32 → Hp → Option Hp) (hq_23 : ∀ (x1 : Int32) (h : Hp), q_23 x1 h = some r → J X ((.inl none, r)) 23 [(0, .ref 30), (1, .int x1)] [] h) (x1 : Int32) (h : Hp) (hf : S_X12_lays_23 q_23 x1 h = some r) : J X ((.inl none, r)) 23 [(0, .ref 30), (1, .int x1)] [] h := by
  unfold S_X12_lays_23 at hf
  refine J_iload_n hX 1 dX12_lays_23 rfl rfl ?_
  refine J_bipush hX 12 dX12_lays_24 rfl ?_
  rcases ifE hf with ⟨c_1, hf⟩ | ⟨c_1, hf⟩
  · refine J_icmp_geF hX 103 dX12_lays_26 rfl c_1 ?_
    refine J_iconst hX 0 dX12_lays_29 rfl ?_
    refine J_istore_n hX [(2, .int 0), (0, .ref 30), (1, .int x1)] dX12_lays_30 rfl rfl rfl ?_
    refine J_sub [1, 2, 0] [(0, .ref 30), (1, .int x1), (2, .int 0)] rfl ?_
    exact T_X12_lays_31 hX hdx x1 q_23 hq_23 FU 0 h hf
  · refine J_icmp_geT hX 103 dX12_lays_26 rfl c_1 ?_
    exact E_Vi hX dX12_lays_103 hf
set_option maxRecDepth 100000 in
set_option maxHeartbeats 200000 in
theorem T_X12_lays_23 {X : CX} (hX : Ok X cX12_lays 3 RX12 none) (hdx : dX X = 6) {r : Hp} : ∀ (n : Nat) (x1 : Int32) (h : Hp), F_X12_lays_23 n x1 h = some r → J X ((.inl none, r)) 23 [(0, .ref 30), (1, .int x1)] [] h := by
  intro n
  induction n with
  | zero => intro x1 h hf; exact nomatch hf
  | succ n ih => intro x1 h hf; exact T_X12_lays_23_s hX hdx _ (fun x1 h hf => ih x1 h hf) x1 h hf
set_option maxRecDepth 100000 in
set_option maxHeartbeats 200000 in
theorem T_X12_lays_2_s {X : CX} (hX : Ok X cX12_lays 3 RX12 none) (hdx : dX X = 6) {r : Hp} (q_2 : Int32 → Hp → Option Hp) (hq_2 : ∀ (x1 : Int32) (h : Hp), q_2 x1 h = some r → J X ((.inl none, r)) 2 [(0, .ref 30), (1, .int x1)] [] h) (x1 : Int32) (h : Hp) (hf : S_X12_lays_2 q_2 x1 h = some r) : J X ((.inl none, r)) 2 [(0, .ref 30), (1, .int x1)] [] h := by
  unfold S_X12_lays_2 at hf
  refine J_iload_n hX 1 dX12_lays_2 rfl rfl ?_
  refine J_bipush hX 8 dX12_lays_3 rfl ?_
  rcases ifE hf with ⟨c_1, hf⟩ | ⟨c_1, hf⟩
  · refine J_icmp_geF hX 21 dX12_lays_5 rfl c_1 ?_
    refine J_aload_n hX 0 dX12_lays_8 rfl rfl ?_
    refine J_getR hX 36 dX12_lays_9 fl_X12_29 ob_30 rfl rfl ?_
    refine J_iload_n hX 1 dX12_lays_12 rfl rfl ?_
    refine J_iconst hX 0 dX12_lays_13 rfl ?_
    obtain ⟨g_2, hf⟩ := gdE hf
    obtain ⟨h_3, e_4, hf⟩ := bndE hf
    refine J_ast hX x1.toNatClampNeg 0 dX12_lays_14 ar_36 (Or.inl ⟨rfl, rfl, rfl⟩) g_2 rfl ?_
    refine J_nmh e_4 ?_
    refine J_iinc hX (x1 + 1) 1 [(1, .int (x1 + 1)), (0, .ref 30)] dX12_lays_15 rfl rfl rfl rfl ?_
    refine J_goto hX 2 dX12_lays_18 rfl ?_
    refine J_sub [1, 0] [(0, .ref 30), (1, .int (x1 + 1))] rfl ?_
    exact hq_2 (x1 + 1) h_3 hf
  · refine J_icmp_geT hX 21 dX12_lays_5 rfl c_1 ?_
    refine J_iconst hX 0 dX12_lays_21 rfl ?_
    refine J_istore_n hX [(1, .int 0), (0, .ref 30)] dX12_lays_22 rfl rfl rfl ?_
    refine J_sub [1, 0] [(0, .ref 30), (1, .int 0)] rfl ?_
    exact T_X12_lays_23 hX hdx FU 0 h hf
set_option maxRecDepth 100000 in
set_option maxHeartbeats 200000 in
theorem T_X12_lays_2 {X : CX} (hX : Ok X cX12_lays 3 RX12 none) (hdx : dX X = 6) {r : Hp} : ∀ (n : Nat) (x1 : Int32) (h : Hp), F_X12_lays_2 n x1 h = some r → J X ((.inl none, r)) 2 [(0, .ref 30), (1, .int x1)] [] h := by
  intro n
  induction n with
  | zero => intro x1 h hf; exact nomatch hf
  | succ n ih => intro x1 h hf; exact T_X12_lays_2_s hX hdx _ (fun x1 h hf => ih x1 h hf) x1 h hf
set_option maxRecDepth 100000 in
set_option maxHeartbeats 200000 in
theorem T_X12_lays_0 {X : CX} (hX : Ok X cX12_lays 3 RX12 none) (hdx : dX X = 6) {r : Hp} (h : Hp) (hf : f_X12_lays h = some r) : J X ((.inl none, r)) 0 [(0, .ref 30)] [] h := by
  unfold f_X12_lays at hf
  refine J_iconst hX 0 dX12_lays_0 rfl ?_
  refine J_istore_n hX [(1, .int 0), (0, .ref 30)] dX12_lays_1 rfl rfl rfl ?_
  refine J_sub [1, 0] [(0, .ref 30), (1, .int 0)] rfl ?_
  exact T_X12_lays_2 hX hdx FU 0 h hf
set_option maxRecDepth 100000 in
set_option maxHeartbeats 200000 in
theorem C_X12_lays {G : GX} (hG : GOk G) {h : Hp} {r : Hp} (hf : f_X12_lays h = some r) : Ctr G 6 yX12_lays cX12_lays 3 none [.ref 30] h ((.inl none, r)) :=
  Ctr_of hG RX12 rfl (by decide) rfl (fun X _ hdx hX => T_X12_lays_0 hX hdx h hf)
theorem dX12_bearsNow_0 : decode cX12_bearsNow 0 = .ok (.aload_n 0, 1) := by decide +kernel
theorem dX12_bearsNow_1 : decode cX12_bearsNow 1 = .ok (.getfield 29, 3) := by decide +kernel
theorem dX12_bearsNow_4 : decode cX12_bearsNow 4 = .ok (.iload_n 1, 1) := by decide +kernel
theorem dX12_bearsNow_5 : decode cX12_bearsNow 5 = .ok (.iaload, 1) := by decide +kernel
theorem dX12_bearsNow_6 : decode cX12_bearsNow 6 = .ok (.aload_n 0, 1) := by decide +kernel
theorem dX12_bearsNow_7 : decode cX12_bearsNow 7 = .ok (.iload_n 1, 1) := by decide +kernel
theorem dX12_bearsNow_8 : decode cX12_bearsNow 8 = .ok (.invokevirtual 106, 3) := by decide +kernel
theorem dX12_bearsNow_11 : decode cX12_bearsNow 11 = .ok (.ifCond .ne 12, 3) := by decide +kernel
theorem dX12_bearsNow_14 : decode cX12_bearsNow 14 = .ok (.aload_n 0, 1) := by decide +kernel
theorem dX12_bearsNow_15 : decode cX12_bearsNow 15 = .ok (.iload_n 1, 1) := by decide +kernel
theorem dX12_bearsNow_16 : decode cX12_bearsNow 16 = .ok (.iconst 0, 1) := by decide +kernel
theorem dX12_bearsNow_17 : decode cX12_bearsNow 17 = .ok (.invokevirtual 84, 3) := by decide +kernel
theorem dX12_bearsNow_20 : decode cX12_bearsNow 20 = .ok (.goto 4, 3) := by decide +kernel
theorem dX12_bearsNow_23 : decode cX12_bearsNow 23 = .ok (.iconst 0, 1) := by decide +kernel
theorem dX12_bearsNow_24 : decode cX12_bearsNow 24 = .ok (.iadd, 1) := by decide +kernel
theorem dX12_bearsNow_25 : decode cX12_bearsNow 25 = .ok (.ireturn, 1) := by decide +kernel
set_option maxRecDepth 100000 in
set_option maxHeartbeats 200000 in
theorem T_X12_bearsNow_24 {X : CX} (hX : Ok X cX12_bearsNow 2 RX12 (some .int)) (hdx : dX X = 5) {r : Int32} (h : Hp) (t0 : Int32) (t1 : Int32) (hf : F_X12_bearsNow_24 h t0 t1 = some r) : J X ((.inl (some (.int r)), h)) 24 [] [.int t0, .int t1] h := by
  unfold F_X12_bearsNow_24 at hf
  refine J_iadd hX dX12_bearsNow_24 ?_
  exact E_Ip hX dX12_bearsNow_25 hf
set_option maxRecDepth 100000 in
set_option maxHeartbeats 200000 in
theorem T_X12_bearsNow_0 {X : CX} (hX : Ok X cX12_bearsNow 2 RX12 (some .int)) (hdx : dX X = 5) {r : Int32} (x1 : Int32) (h : Hp) (hf : f_X12_bearsNow x1 h = some r) : J X ((.inl (some (.int r)), h)) 0 [(0, .ref 30), (1, .int x1)] [] h := by
  unfold f_X12_bearsNow at hf
  refine J_aload_n hX 0 dX12_bearsNow_0 rfl rfl ?_
  refine J_getR hX 36 dX12_bearsNow_1 fl_X12_29 ob_30 rfl rfl ?_
  refine J_iload_n hX 1 dX12_bearsNow_4 rfl rfl ?_
  obtain ⟨g_1, hf⟩ := gdE hf
  refine J_ald hX x1.toNatClampNeg dX12_bearsNow_5 ar_36 (Or.inl ⟨rfl, rfl⟩) g_1 rfl ?_
  refine J_aload_n hX 0 dX12_bearsNow_6 rfl rfl ?_
  refine J_iload_n hX 1 dX12_bearsNow_7 rfl rfl ?_
  obtain ⟨r_2, e_3, hf⟩ := bdE hf
  refine V_1 hX [.int x1] dX12_bearsNow_8 cw_X12_106 ob_30 rfl (C_X12_partsOf (okG hX) e_3) (ltD hdx rfl) rfl rfl rfl rfl ?_
  rcases ifE hf with ⟨c_4, hf⟩ | ⟨c_4, hf⟩
  · refine J_if_neF hX 23 dX12_bearsNow_11 rfl c_4 ?_
    refine J_aload_n hX 0 dX12_bearsNow_14 rfl rfl ?_
    refine J_iload_n hX 1 dX12_bearsNow_15 rfl rfl ?_
    refine J_iconst hX 0 dX12_bearsNow_16 rfl ?_
    obtain ⟨r_5, e_6, hf⟩ := bdE hf
    refine V_1 hX [.int x1, .int 0] dX12_bearsNow_17 cw_X12_84 ob_30 rfl (C_X12_of (okG hX) e_6) (ltD hdx rfl) rfl rfl rfl rfl ?_
    refine J_goto hX 24 dX12_bearsNow_20 rfl ?_
    refine J_sub [] [] rfl ?_
    exact T_X12_bearsNow_24 hX hdx h r_5 (h 36 x1.toNatClampNeg) hf
  · refine J_if_neT hX 23 dX12_bearsNow_11 rfl c_4 ?_
    refine J_iconst hX 0 dX12_bearsNow_23 rfl ?_
    refine J_sub [] [] rfl ?_
    exact T_X12_bearsNow_24 hX hdx h 0 (h 36 x1.toNatClampNeg) hf
set_option maxRecDepth 100000 in
set_option maxHeartbeats 200000 in
theorem C_X12_bearsNow {G : GX} (hG : GOk G) {x1 : Int32} {h : Hp} {r : Int32} (hf : f_X12_bearsNow x1 h = some r) : Ctr G 5 yX12_bearsNow cX12_bearsNow 2 (some .int) [.ref 30, .int x1] h ((.inl (some (.int r)), h)) :=
  Ctr_of hG RX12 rfl (by decide) rfl (fun X _ hdx hX => T_X12_bearsNow_0 hX hdx x1 h hf)
theorem dX12_feed_0 : decode cX12_feed 0 = .ok (.aload_n 0, 1) := by decide +kernel
theorem dX12_feed_1 : decode cX12_feed 1 = .ok (.iconst 0, 1) := by decide +kernel
theorem dX12_feed_2 : decode cX12_feed 2 = .ok (.putfield 3, 3) := by decide +kernel
theorem dX12_feed_5 : decode cX12_feed 5 = .ok (.aload_n 0, 1) := by decide +kernel
theorem dX12_feed_6 : decode cX12_feed 6 = .ok (.getfield 114, 3) := by decide +kernel
theorem dX12_feed_9 : decode cX12_feed 9 = .ok (.bipush 20, 2) := by decide +kernel
theorem dX12_feed_11 : decode cX12_feed 11 = .ok (.iadd, 1) := by decide +kernel
theorem dX12_feed_12 : decode cX12_feed 12 = .ok (.sipush 400, 3) := by decide +kernel
theorem dX12_feed_15 : decode cX12_feed 15 = .ok (.if_icmp .le 5, 3) := by decide +kernel
theorem dX12_feed_18 : decode cX12_feed 18 = .ok (.iconst (-1), 1) := by decide +kernel
theorem dX12_feed_19 : decode cX12_feed 19 = .ok (.ireturn, 1) := by decide +kernel
theorem dX12_feed_20 : decode cX12_feed 20 = .ok (.aload_n 0, 1) := by decide +kernel
theorem dX12_feed_21 : decode cX12_feed 21 = .ok (.getfield 42, 3) := by decide +kernel
theorem dX12_feed_24 : decode cX12_feed 24 = .ok (.iconst 0, 1) := by decide +kernel
theorem dX12_feed_25 : decode cX12_feed 25 = .ok (.iload_n 1, 1) := by decide +kernel
theorem dX12_feed_26 : decode cX12_feed 26 = .ok (.iastore, 1) := by decide +kernel
theorem dX12_feed_27 : decode cX12_feed 27 = .ok (.aload_n 0, 1) := by decide +kernel
theorem dX12_feed_28 : decode cX12_feed 28 = .ok (.getfield 42, 3) := by decide +kernel
theorem dX12_feed_31 : decode cX12_feed 31 = .ok (.iconst 1, 1) := by decide +kernel
theorem dX12_feed_32 : decode cX12_feed 32 = .ok (.iload_n 2, 1) := by decide +kernel
theorem dX12_feed_33 : decode cX12_feed 33 = .ok (.iastore, 1) := by decide +kernel
theorem dX12_feed_34 : decode cX12_feed 34 = .ok (.aload_n 0, 1) := by decide +kernel
theorem dX12_feed_35 : decode cX12_feed 35 = .ok (.getfield 42, 3) := by decide +kernel
theorem dX12_feed_38 : decode cX12_feed 38 = .ok (.iconst 2, 1) := by decide +kernel
theorem dX12_feed_39 : decode cX12_feed 39 = .ok (.iload_n 3, 1) := by decide +kernel
theorem dX12_feed_40 : decode cX12_feed 40 = .ok (.iastore, 1) := by decide +kernel
theorem dX12_feed_41 : decode cX12_feed 41 = .ok (.aload_n 0, 1) := by decide +kernel
theorem dX12_feed_42 : decode cX12_feed 42 = .ok (.getfield 42, 3) := by decide +kernel
theorem dX12_feed_45 : decode cX12_feed 45 = .ok (.iconst 3, 1) := by decide +kernel
theorem dX12_feed_46 : decode cX12_feed 46 = .ok (.iload 4, 2) := by decide +kernel
theorem dX12_feed_48 : decode cX12_feed 48 = .ok (.iastore, 1) := by decide +kernel
theorem dX12_feed_49 : decode cX12_feed 49 = .ok (.aload_n 0, 1) := by decide +kernel
theorem dX12_feed_50 : decode cX12_feed 50 = .ok (.getfield 42, 3) := by decide +kernel
theorem dX12_feed_53 : decode cX12_feed 53 = .ok (.iconst 4, 1) := by decide +kernel
theorem dX12_feed_54 : decode cX12_feed 54 = .ok (.iload 5, 2) := by decide +kernel
theorem dX12_feed_56 : decode cX12_feed 56 = .ok (.iastore, 1) := by decide +kernel
theorem dX12_feed_57 : decode cX12_feed 57 = .ok (.iconst 0, 1) := by decide +kernel
theorem dX12_feed_58 : decode cX12_feed 58 = .ok (.istore 6, 2) := by decide +kernel
theorem dX12_feed_60 : decode cX12_feed 60 = .ok (.iload 6, 2) := by decide +kernel
theorem dX12_feed_62 : decode cX12_feed 62 = .ok (.bipush 20, 2) := by decide +kernel
theorem dX12_feed_64 : decode cX12_feed 64 = .ok (.if_icmp .ge 42, 3) := by decide +kernel
theorem dX12_feed_67 : decode cX12_feed 67 = .ok (.aload_n 0, 1) := by decide +kernel
theorem dX12_feed_68 : decode cX12_feed 68 = .ok (.getfield 35, 3) := by decide +kernel
theorem dX12_feed_71 : decode cX12_feed 71 = .ok (.aload_n 0, 1) := by decide +kernel
theorem dX12_feed_72 : decode cX12_feed 72 = .ok (.getfield 114, 3) := by decide +kernel
theorem dX12_feed_75 : decode cX12_feed 75 = .ok (.iload 6, 2) := by decide +kernel
theorem dX12_feed_77 : decode cX12_feed 77 = .ok (.iadd, 1) := by decide +kernel
theorem dX12_feed_78 : decode cX12_feed 78 = .ok (.aload_n 0, 1) := by decide +kernel
theorem dX12_feed_79 : decode cX12_feed 79 = .ok (.getfield 42, 3) := by decide +kernel
theorem dX12_feed_82 : decode cX12_feed 82 = .ok (.iload 6, 2) := by decide +kernel
theorem dX12_feed_84 : decode cX12_feed 84 = .ok (.iconst 4, 1) := by decide +kernel
theorem dX12_feed_85 : decode cX12_feed 85 = .ok (.idiv, 1) := by decide +kernel
theorem dX12_feed_86 : decode cX12_feed 86 = .ok (.iaload, 1) := by decide +kernel
theorem dX12_feed_87 : decode cX12_feed 87 = .ok (.bipush 24, 2) := by decide +kernel
theorem dX12_feed_89 : decode cX12_feed 89 = .ok (.bipush 8, 2) := by decide +kernel
theorem dX12_feed_91 : decode cX12_feed 91 = .ok (.iload 6, 2) := by decide +kernel
theorem dX12_feed_93 : decode cX12_feed 93 = .ok (.iconst 4, 1) := by decide +kernel
theorem dX12_feed_94 : decode cX12_feed 94 = .ok (.irem, 1) := by decide +kernel
theorem dX12_feed_95 : decode cX12_feed 95 = .ok (.imul, 1) := by decide +kernel
theorem dX12_feed_96 : decode cX12_feed 96 = .ok (.isub, 1) := by decide +kernel
theorem dX12_feed_97 : decode cX12_feed 97 = .ok (.ishr, 1) := by decide +kernel
theorem dX12_feed_98 : decode cX12_feed 98 = .ok (.i2b, 1) := by decide +kernel
theorem dX12_feed_99 : decode cX12_feed 99 = .ok (.bastore, 1) := by decide +kernel
theorem dX12_feed_100 : decode cX12_feed 100 = .ok (.iinc 6 1, 3) := by decide +kernel
theorem dX12_feed_103 : decode cX12_feed 103 = .ok (.goto (-43), 3) := by decide +kernel
theorem dX12_feed_106 : decode cX12_feed 106 = .ok (.aload_n 0, 1) := by decide +kernel
theorem dX12_feed_107 : decode cX12_feed 107 = .ok (.dup, 1) := by decide +kernel
theorem dX12_feed_108 : decode cX12_feed 108 = .ok (.getfield 114, 3) := by decide +kernel
theorem dX12_feed_111 : decode cX12_feed 111 = .ok (.bipush 20, 2) := by decide +kernel
theorem dX12_feed_113 : decode cX12_feed 113 = .ok (.iadd, 1) := by decide +kernel
theorem dX12_feed_114 : decode cX12_feed 114 = .ok (.putfield 114, 3) := by decide +kernel
theorem dX12_feed_117 : decode cX12_feed 117 = .ok (.aload_n 0, 1) := by decide +kernel
theorem dX12_feed_118 : decode cX12_feed 118 = .ok (.getfield 114, 3) := by decide +kernel
theorem dX12_feed_121 : decode cX12_feed 121 = .ok (.ireturn, 1) := by decide +kernel
set_option maxRecDepth 100000 in
set_option maxHeartbeats 200000 in
theorem T_X12_feed_60_s {X : CX} (hX : Ok X cX12_feed 7 RX12 (some .int)) (hdx : dX X = 2) {r : Int32 × Hp} (q_60 : Int32 → Hp → Option (Int32 × Hp)) (hq_60 : ∀ (x6 : Int32) (h : Hp), q_60 x6 h = some r → J X ((.inl (some (.int r.1)), r.2)) 60 [(0, .ref 30), (6, .int x6)] [] h) (x6 : Int32) (h : Hp) (hf : S_X12_feed_60 q_60 x6 h = some r) : J X ((.inl (some (.int r.1)), r.2)) 60 [(0, .ref 30), (6, .int x6)] [] h := by
  unfold S_X12_feed_60 at hf
  refine J_iload hX 1 dX12_feed_60 rfl ?_
  refine J_bipush hX 20 dX12_feed_62 rfl ?_
  rcases ifE hf with ⟨c_1, hf⟩ | ⟨c_1, hf⟩
  · refine J_icmp_geF hX 106 dX12_feed_64 rfl c_1 ?_
    refine J_aload_n hX 0 dX12_feed_67 rfl rfl ?_
    refine J_getR hX 38 dX12_feed_68 fl_X12_35 ob_30 rfl rfl ?_
    refine J_aload_n hX 0 dX12_feed_71 rfl rfl ?_
    refine J_getI hX dX12_feed_72 fl_X12_114 ob_30 rfl ?_
    refine J_iload hX 1 dX12_feed_75 rfl ?_
    refine J_iadd hX dX12_feed_77 ?_
    refine J_aload_n hX 0 dX12_feed_78 rfl rfl ?_
    refine J_getR hX 39 dX12_feed_79 fl_X12_42 ob_30 rfl rfl ?_
    refine J_iload hX 1 dX12_feed_82 rfl ?_
    refine J_iconst hX 4 dX12_feed_84 rfl ?_
    refine J_idiv hX (by decide) dX12_feed_85 ?_
    obtain ⟨g_2, hf⟩ := gdE hf
    refine J_ald hX ((x6 / 4).toNatClampNeg) dX12_feed_86 ar_39 (Or.inl ⟨rfl, rfl⟩) g_2 rfl ?_
    refine J_bipush hX 24 dX12_feed_87 rfl ?_
    refine J_bipush hX 8 dX12_feed_89 rfl ?_
    refine J_iload hX 1 dX12_feed_91 rfl ?_
    refine J_iconst hX 4 dX12_feed_93 rfl ?_
    refine J_irem hX (by decide) dX12_feed_94 ?_
    refine J_imul hX dX12_feed_95 ?_
    refine J_isub hX dX12_feed_96 ?_
    refine J_ishr hX dX12_feed_97 ?_
    refine J_i2b hX dX12_feed_98 ?_
    obtain ⟨g_3, hf⟩ := gdE hf
    obtain ⟨h_4, e_5, hf⟩ := bndE hf
    refine J_ast hX (((h 30 11) + x6).toNatClampNeg) (vp_nar .byte ((shr (h 39 ((x6 / 4).toNatClampNeg)) (24 - (8 * (rem x6 4)))).toInt8.toInt32)) dX12_feed_99 ar_38 (Or.inr (Or.inl ⟨rfl, rfl, rfl⟩)) g_3 rfl ?_
    refine J_nmh e_5 ?_
    refine J_iinc hX (x6 + 1) 1 [(6, .int (x6 + 1)), (0, .ref 30)] dX12_feed_100 rfl rfl rfl rfl ?_
    refine J_goto hX 60 dX12_feed_103 rfl ?_
    refine J_sub [1, 0] [(0, .ref 30), (6, .int (x6 + 1))] rfl ?_
    exact hq_60 (x6 + 1) h_4 hf
  · refine J_icmp_geT hX 106 dX12_feed_64 rfl c_1 ?_
    refine J_aload_n hX 0 dX12_feed_106 rfl rfl ?_
    refine J_dup hX dX12_feed_107 rfl ?_
    refine J_getI hX dX12_feed_108 fl_X12_114 ob_30 rfl ?_
    refine J_bipush hX 20 dX12_feed_111 rfl ?_
    refine J_iadd hX dX12_feed_113 ?_
    obtain ⟨h_6, e_7, hf⟩ := bndE hf
    refine J_putI hX dX12_feed_114 fl_X12_114 fw_10_11 ob_30 rfl rfl rfl ?_
    refine J_nmh e_7 ?_
    refine J_aload_n hX 0 dX12_feed_117 rfl rfl ?_
    refine J_getI hX dX12_feed_118 fl_X12_114 ob_30 rfl ?_
    exact E_Ii hX dX12_feed_121 hf
set_option maxRecDepth 100000 in
set_option maxHeartbeats 200000 in
theorem T_X12_feed_60 {X : CX} (hX : Ok X cX12_feed 7 RX12 (some .int)) (hdx : dX X = 2) {r : Int32 × Hp} : ∀ (n : Nat) (x6 : Int32) (h : Hp), F_X12_feed_60 n x6 h = some r → J X ((.inl (some (.int r.1)), r.2)) 60 [(0, .ref 30), (6, .int x6)] [] h := by
  intro n
  induction n with
  | zero => intro x6 h hf; exact nomatch hf
  | succ n ih => intro x6 h hf; exact T_X12_feed_60_s hX hdx _ (fun x6 h hf => ih x6 h hf) x6 h hf
set_option maxRecDepth 100000 in
set_option maxHeartbeats 200000 in
theorem T_X12_feed_0 {X : CX} (hX : Ok X cX12_feed 7 RX12 (some .int)) (hdx : dX X = 2) {r : Int32 × Hp} (x1 : Int32) (x2 : Int32) (x3 : Int32) (x4 : Int32) (x5 : Int32) (h : Hp) (hf : f_X12_feed x1 x2 x3 x4 x5 h = some r) : J X ((.inl (some (.int r.1)), r.2)) 0 [(0, .ref 30), (1, .int x1), (2, .int x2), (3, .int x3), (4, .int x4), (5, .int x5)] [] h := by
  unfold f_X12_feed at hf
  refine J_aload_n hX 0 dX12_feed_0 rfl rfl ?_
  refine J_iconst hX 0 dX12_feed_1 rfl ?_
  obtain ⟨h_1, e_2, hf⟩ := bndE hf
  refine J_putI hX dX12_feed_2 fl_X12_3 fw_10_0 ob_30 rfl rfl rfl ?_
  refine J_nmh e_2 ?_
  refine J_aload_n hX 0 dX12_feed_5 rfl rfl ?_
  refine J_getI hX dX12_feed_6 fl_X12_114 ob_30 rfl ?_
  refine J_bipush hX 20 dX12_feed_9 rfl ?_
  refine J_iadd hX dX12_feed_11 ?_
  refine J_sipush hX 400 dX12_feed_12 rfl ?_
  rcases ifE hf with ⟨c_3, hf⟩ | ⟨c_3, hf⟩
  · refine J_icmp_leF hX 20 dX12_feed_15 rfl c_3 ?_
    refine J_iconst hX (-1) dX12_feed_18 rfl ?_
    exact E_Ii hX dX12_feed_19 hf
  · refine J_icmp_leT hX 20 dX12_feed_15 rfl c_3 ?_
    refine J_aload_n hX 0 dX12_feed_20 rfl rfl ?_
    refine J_getR hX 39 dX12_feed_21 fl_X12_42 ob_30 rfl rfl ?_
    refine J_iconst hX 0 dX12_feed_24 rfl ?_
    refine J_iload_n hX 1 dX12_feed_25 rfl rfl ?_
    obtain ⟨h_4, e_5, hf⟩ := bndE hf
    refine J_ast hX 0 x1 dX12_feed_26 ar_39 (Or.inl ⟨rfl, rfl, rfl⟩) (by decide) (by decide) ?_
    refine J_nmh e_5 ?_
    refine J_aload_n hX 0 dX12_feed_27 rfl rfl ?_
    refine J_getR hX 39 dX12_feed_28 fl_X12_42 ob_30 rfl rfl ?_
    refine J_iconst hX 1 dX12_feed_31 rfl ?_
    refine J_iload_n hX 2 dX12_feed_32 rfl rfl ?_
    obtain ⟨h_6, e_7, hf⟩ := bndE hf
    refine J_ast hX 1 x2 dX12_feed_33 ar_39 (Or.inl ⟨rfl, rfl, rfl⟩) (by decide) (by decide) ?_
    refine J_nmh e_7 ?_
    refine J_aload_n hX 0 dX12_feed_34 rfl rfl ?_
    refine J_getR hX 39 dX12_feed_35 fl_X12_42 ob_30 rfl rfl ?_
    refine J_iconst hX 2 dX12_feed_38 rfl ?_
    refine J_iload_n hX 3 dX12_feed_39 rfl rfl ?_
    obtain ⟨h_8, e_9, hf⟩ := bndE hf
    refine J_ast hX 2 x3 dX12_feed_40 ar_39 (Or.inl ⟨rfl, rfl, rfl⟩) (by decide) (by decide) ?_
    refine J_nmh e_9 ?_
    refine J_aload_n hX 0 dX12_feed_41 rfl rfl ?_
    refine J_getR hX 39 dX12_feed_42 fl_X12_42 ob_30 rfl rfl ?_
    refine J_iconst hX 3 dX12_feed_45 rfl ?_
    refine J_iload hX 4 dX12_feed_46 rfl ?_
    obtain ⟨h_10, e_11, hf⟩ := bndE hf
    refine J_ast hX 3 x4 dX12_feed_48 ar_39 (Or.inl ⟨rfl, rfl, rfl⟩) (by decide) (by decide) ?_
    refine J_nmh e_11 ?_
    refine J_aload_n hX 0 dX12_feed_49 rfl rfl ?_
    refine J_getR hX 39 dX12_feed_50 fl_X12_42 ob_30 rfl rfl ?_
    refine J_iconst hX 4 dX12_feed_53 rfl ?_
    refine J_iload hX 5 dX12_feed_54 rfl ?_
    obtain ⟨h_12, e_13, hf⟩ := bndE hf
    refine J_ast hX 4 x5 dX12_feed_56 ar_39 (Or.inl ⟨rfl, rfl, rfl⟩) (by decide) (by decide) ?_
    refine J_nmh e_13 ?_
    refine J_iconst hX 0 dX12_feed_57 rfl ?_
    refine J_istore hX [(6, .int 0), (0, .ref 30), (1, .int x1), (2, .int x2), (3, .int x3), (4, .int x4), (5, .int x5)] dX12_feed_58 rfl rfl ?_
    refine J_sub [1, 0] [(0, .ref 30), (6, .int 0)] rfl ?_
    exact T_X12_feed_60 hX hdx FU 0 h_12 hf
set_option maxRecDepth 100000 in
set_option maxHeartbeats 200000 in
theorem C_X12_feed {G : GX} (hG : GOk G) {x1 : Int32} {x2 : Int32} {x3 : Int32} {x4 : Int32} {x5 : Int32} {h : Hp} {r : Int32 × Hp} (hf : f_X12_feed x1 x2 x3 x4 x5 h = some r) : Ctr G 2 yX12_feed cX12_feed 7 (some .int) [.ref 30, .int x1, .int x2, .int x3, .int x4, .int x5] h ((.inl (some (.int r.1)), r.2)) :=
  Ctr_of hG RX12 rfl (by decide) rfl (fun X _ hdx hX => T_X12_feed_0 hX hdx x1 x2 x3 x4 x5 h hf)
theorem dX12_end_0 : decode cX12_end 0 = .ok (.aload_n 0, 1) := by decide +kernel
theorem dX12_end_1 : decode cX12_end 1 = .ok (.iconst 0, 1) := by decide +kernel
theorem dX12_end_2 : decode cX12_end 2 = .ok (.putfield 3, 3) := by decide +kernel
theorem dX12_end_5 : decode cX12_end 5 = .ok (.iload_n 1, 1) := by decide +kernel
theorem dX12_end_6 : decode cX12_end 6 = .ok (.ifCond .lt 11, 3) := by decide +kernel
theorem dX12_end_9 : decode cX12_end 9 = .ok (.iload_n 1, 1) := by decide +kernel
theorem dX12_end_10 : decode cX12_end 10 = .ok (.aload_n 0, 1) := by decide +kernel
theorem dX12_end_11 : decode cX12_end 11 = .ok (.getfield 114, 3) := by decide +kernel
theorem dX12_end_14 : decode cX12_end 14 = .ok (.if_icmp .le 5, 3) := by decide +kernel
theorem dX12_end_17 : decode cX12_end 17 = .ok (.iconst 0, 1) := by decide +kernel
theorem dX12_end_18 : decode cX12_end 18 = .ok (.ireturn, 1) := by decide +kernel
theorem dX12_end_19 : decode cX12_end 19 = .ok (.aload_n 0, 1) := by decide +kernel
theorem dX12_end_20 : decode cX12_end 20 = .ok (.iload_n 1, 1) := by decide +kernel
theorem dX12_end_21 : decode cX12_end 21 = .ok (.putfield 114, 3) := by decide +kernel
theorem dX12_end_24 : decode cX12_end 24 = .ok (.iconst 1, 1) := by decide +kernel
theorem dX12_end_25 : decode cX12_end 25 = .ok (.ireturn, 1) := by decide +kernel
set_option maxRecDepth 100000 in
set_option maxHeartbeats 200000 in
theorem T_X12_end_0 {X : CX} (hX : Ok X cX12_end 2 RX12 (some .boolean)) (hdx : dX X = 2) {r : Bool × Hp} (x1 : Int32) (h : Hp) (hf : f_X12_end x1 h = some r) : J X ((.inl (some (.int (b2i r.1))), r.2)) 0 [(0, .ref 30), (1, .int x1)] [] h := by
  unfold f_X12_end at hf
  refine J_aload_n hX 0 dX12_end_0 rfl rfl ?_
  refine J_iconst hX 0 dX12_end_1 rfl ?_
  obtain ⟨h_1, e_2, hf⟩ := bndE hf
  refine J_putI hX dX12_end_2 fl_X12_3 fw_10_0 ob_30 rfl rfl rfl ?_
  refine J_nmh e_2 ?_
  refine J_iload_n hX 1 dX12_end_5 rfl rfl ?_
  rcases ifE hf with ⟨c_3, hf⟩ | ⟨c_3, hf⟩
  · refine J_if_ltT hX 17 dX12_end_6 rfl c_3 ?_
    refine J_iconst hX 0 dX12_end_17 rfl ?_
    exact E_Zi hX dX12_end_18 rfl hf
  · refine J_if_ltF hX 17 dX12_end_6 rfl c_3 ?_
    refine J_iload_n hX 1 dX12_end_9 rfl rfl ?_
    refine J_aload_n hX 0 dX12_end_10 rfl rfl ?_
    refine J_getI hX dX12_end_11 fl_X12_114 ob_30 rfl ?_
    rcases ifE hf with ⟨c_4, hf⟩ | ⟨c_4, hf⟩
    · refine J_icmp_leF hX 19 dX12_end_14 rfl c_4 ?_
      refine J_iconst hX 0 dX12_end_17 rfl ?_
      exact E_Zi hX dX12_end_18 rfl hf
    · refine J_icmp_leT hX 19 dX12_end_14 rfl c_4 ?_
      refine J_aload_n hX 0 dX12_end_19 rfl rfl ?_
      refine J_iload_n hX 1 dX12_end_20 rfl rfl ?_
      obtain ⟨h_5, e_6, hf⟩ := bndE hf
      refine J_putI hX dX12_end_21 fl_X12_114 fw_10_11 ob_30 rfl rfl rfl ?_
      refine J_nmh e_6 ?_
      refine J_iconst hX 1 dX12_end_24 rfl ?_
      exact E_Zi hX dX12_end_25 rfl hf
set_option maxRecDepth 100000 in
set_option maxHeartbeats 200000 in
theorem C_X12_end {G : GX} (hG : GOk G) {x1 : Int32} {h : Hp} {r : Bool × Hp} (hf : f_X12_end x1 h = some r) : Ctr G 2 yX12_end cX12_end 2 (some .boolean) [.ref 30, .int x1] h ((.inl (some (.int (b2i r.1))), r.2)) :=
  Ctr_of hG RX12 rfl (by decide) rfl (fun X _ hdx hX => T_X12_end_0 hX hdx x1 h hf)
theorem dX12_isAt_0 : decode cX12_isAt 0 = .ok (.aload_n 0, 1) := by decide +kernel
theorem dX12_isAt_1 : decode cX12_isAt 1 = .ok (.getfield 117, 3) := by decide +kernel
theorem dX12_isAt_4 : decode cX12_isAt 4 = .ok (.aload_n 0, 1) := by decide +kernel
theorem dX12_isAt_5 : decode cX12_isAt 5 = .ok (.getfield 120, 3) := by decide +kernel
theorem dX12_isAt_8 : decode cX12_isAt 8 = .ok (.if_icmp .ge 33, 3) := by decide +kernel
theorem dX12_isAt_11 : decode cX12_isAt 11 = .ok (.aload_n 0, 1) := by decide +kernel
theorem dX12_isAt_12 : decode cX12_isAt 12 = .ok (.getfield 35, 3) := by decide +kernel
theorem dX12_isAt_15 : decode cX12_isAt 15 = .ok (.aload_n 0, 1) := by decide +kernel
theorem dX12_isAt_16 : decode cX12_isAt 16 = .ok (.getfield 117, 3) := by decide +kernel
theorem dX12_isAt_19 : decode cX12_isAt 19 = .ok (.baload, 1) := by decide +kernel
theorem dX12_isAt_20 : decode cX12_isAt 20 = .ok (.iload_n 1, 1) := by decide +kernel
theorem dX12_isAt_21 : decode cX12_isAt 21 = .ok (.if_icmp .lt 20, 3) := by decide +kernel
theorem dX12_isAt_24 : decode cX12_isAt 24 = .ok (.aload_n 0, 1) := by decide +kernel
theorem dX12_isAt_25 : decode cX12_isAt 25 = .ok (.getfield 35, 3) := by decide +kernel
theorem dX12_isAt_28 : decode cX12_isAt 28 = .ok (.aload_n 0, 1) := by decide +kernel
theorem dX12_isAt_29 : decode cX12_isAt 29 = .ok (.getfield 117, 3) := by decide +kernel
theorem dX12_isAt_32 : decode cX12_isAt 32 = .ok (.baload, 1) := by decide +kernel
theorem dX12_isAt_33 : decode cX12_isAt 33 = .ok (.iload_n 2, 1) := by decide +kernel
theorem dX12_isAt_34 : decode cX12_isAt 34 = .ok (.if_icmp .gt 7, 3) := by decide +kernel
theorem dX12_isAt_37 : decode cX12_isAt 37 = .ok (.iconst 1, 1) := by decide +kernel
theorem dX12_isAt_38 : decode cX12_isAt 38 = .ok (.goto 4, 3) := by decide +kernel
theorem dX12_isAt_41 : decode cX12_isAt 41 = .ok (.iconst 0, 1) := by decide +kernel
theorem dX12_isAt_42 : decode cX12_isAt 42 = .ok (.ireturn, 1) := by decide +kernel
set_option maxRecDepth 100000 in
set_option maxHeartbeats 200000 in
theorem T_X12_isAt_0 {X : CX} (hX : Ok X cX12_isAt 3 RX12 (some .boolean)) (hdx : dX X = 2) {r : Bool} (x1 : Int32) (x2 : Int32) (h : Hp) (hf : f_X12_isAt x1 x2 h = some r) : J X ((.inl (some (.int (b2i r))), h)) 0 [(0, .ref 30), (1, .int x1), (2, .int x2)] [] h := by
  unfold f_X12_isAt at hf
  refine J_aload_n hX 0 dX12_isAt_0 rfl rfl ?_
  refine J_getI hX dX12_isAt_1 fl_X12_117 ob_30 rfl ?_
  refine J_aload_n hX 0 dX12_isAt_4 rfl rfl ?_
  refine J_getI hX dX12_isAt_5 fl_X12_120 ob_30 rfl ?_
  rcases ifE hf with ⟨c_1, hf⟩ | ⟨c_1, hf⟩
  · refine J_icmp_geF hX 41 dX12_isAt_8 rfl c_1 ?_
    refine J_aload_n hX 0 dX12_isAt_11 rfl rfl ?_
    refine J_getR hX 38 dX12_isAt_12 fl_X12_35 ob_30 rfl rfl ?_
    refine J_aload_n hX 0 dX12_isAt_15 rfl rfl ?_
    refine J_getI hX dX12_isAt_16 fl_X12_117 ob_30 rfl ?_
    obtain ⟨g_2, hf⟩ := gdE hf
    refine J_ald hX ((h 30 12).toNatClampNeg) dX12_isAt_19 ar_38 (Or.inr (Or.inl ⟨rfl, rfl⟩)) g_2 rfl ?_
    refine J_iload_n hX 1 dX12_isAt_20 rfl rfl ?_
    rcases ifE hf with ⟨c_3, hf⟩ | ⟨c_3, hf⟩
    · refine J_icmp_ltT hX 41 dX12_isAt_21 rfl c_3 ?_
      refine J_iconst hX 0 dX12_isAt_41 rfl ?_
      exact E_Zp hX dX12_isAt_42 rfl hf
    · refine J_icmp_ltF hX 41 dX12_isAt_21 rfl c_3 ?_
      refine J_aload_n hX 0 dX12_isAt_24 rfl rfl ?_
      refine J_getR hX 38 dX12_isAt_25 fl_X12_35 ob_30 rfl rfl ?_
      refine J_aload_n hX 0 dX12_isAt_28 rfl rfl ?_
      refine J_getI hX dX12_isAt_29 fl_X12_117 ob_30 rfl ?_
      obtain ⟨g_4, hf⟩ := gdE hf
      refine J_ald hX ((h 30 12).toNatClampNeg) dX12_isAt_32 ar_38 (Or.inr (Or.inl ⟨rfl, rfl⟩)) g_4 rfl ?_
      refine J_iload_n hX 2 dX12_isAt_33 rfl rfl ?_
      rcases ifE hf with ⟨c_5, hf⟩ | ⟨c_5, hf⟩
      · refine J_icmp_gtT hX 41 dX12_isAt_34 rfl c_5 ?_
        refine J_iconst hX 0 dX12_isAt_41 rfl ?_
        exact E_Zp hX dX12_isAt_42 rfl hf
      · refine J_icmp_gtF hX 41 dX12_isAt_34 rfl c_5 ?_
        refine J_iconst hX 1 dX12_isAt_37 rfl ?_
        refine J_goto hX 42 dX12_isAt_38 rfl ?_
        exact E_Zp hX dX12_isAt_42 rfl hf
  · refine J_icmp_geT hX 41 dX12_isAt_8 rfl c_1 ?_
    refine J_iconst hX 0 dX12_isAt_41 rfl ?_
    exact E_Zp hX dX12_isAt_42 rfl hf
set_option maxRecDepth 100000 in
set_option maxHeartbeats 200000 in
theorem C_X12_isAt {G : GX} (hG : GOk G) {x1 : Int32} {x2 : Int32} {h : Hp} {r : Bool} (hf : f_X12_isAt x1 x2 h = some r) : Ctr G 2 yX12_isAt cX12_isAt 3 (some .boolean) [.ref 30, .int x1, .int x2] h ((.inl (some (.int (b2i r))), h)) :=
  Ctr_of hG RX12 rfl (by decide) rfl (fun X _ hdx hX => T_X12_isAt_0 hX hdx x1 x2 h hf)
theorem dX12_blanks_0 : decode cX12_blanks 0 = .ok (.aload_n 0, 1) := by decide +kernel
theorem dX12_blanks_1 : decode cX12_blanks 1 = .ok (.bipush 32, 2) := by decide +kernel
theorem dX12_blanks_3 : decode cX12_blanks 3 = .ok (.bipush 32, 2) := by decide +kernel
theorem dX12_blanks_5 : decode cX12_blanks 5 = .ok (.invokevirtual 123, 3) := by decide +kernel
theorem dX12_blanks_8 : decode cX12_blanks 8 = .ok (.ifCond .eq 16, 3) := by decide +kernel
theorem dX12_blanks_11 : decode cX12_blanks 11 = .ok (.aload_n 0, 1) := by decide +kernel
theorem dX12_blanks_12 : decode cX12_blanks 12 = .ok (.dup, 1) := by decide +kernel
theorem dX12_blanks_13 : decode cX12_blanks 13 = .ok (.getfield 117, 3) := by decide +kernel
theorem dX12_blanks_16 : decode cX12_blanks 16 = .ok (.iconst 1, 1) := by decide +kernel
theorem dX12_blanks_17 : decode cX12_blanks 17 = .ok (.iadd, 1) := by decide +kernel
theorem dX12_blanks_18 : decode cX12_blanks 18 = .ok (.putfield 117, 3) := by decide +kernel
theorem dX12_blanks_21 : decode cX12_blanks 21 = .ok (.goto (-21), 3) := by decide +kernel
theorem dX12_blanks_24 : decode cX12_blanks 24 = .ok (.aload_n 0, 1) := by decide +kernel
theorem dX12_blanks_25 : decode cX12_blanks 25 = .ok (.aload_n 0, 1) := by decide +kernel
theorem dX12_blanks_26 : decode cX12_blanks 26 = .ok (.getfield 117, 3) := by decide +kernel
theorem dX12_blanks_29 : decode cX12_blanks 29 = .ok (.putfield 127, 3) := by decide +kernel
theorem dX12_blanks_32 : decode cX12_blanks 32 = .ok (.return_, 1) := by decide +kernel
set_option maxRecDepth 100000 in
set_option maxHeartbeats 200000 in
theorem T_X12_blanks_0_s {X : CX} (hX : Ok X cX12_blanks 1 RX12 none) (hdx : dX X = 3) {r : Hp} (q_0 : Hp → Option Hp) (hq_0 : ∀ (h : Hp), q_0 h = some r → J X ((.inl none, r)) 0 [(0, .ref 30)] [] h) (h : Hp) (hf : S_X12_blanks_0 q_0 h = some r) : J X ((.inl none, r)) 0 [(0, .ref 30)] [] h := by
  unfold S_X12_blanks_0 at hf
  refine J_aload_n hX 0 dX12_blanks_0 rfl rfl ?_
  refine J_bipush hX 32 dX12_blanks_1 rfl ?_
  refine J_bipush hX 32 dX12_blanks_3 rfl ?_
  obtain ⟨r_1, e_2, hf⟩ := bdE hf
  refine V_1 hX [.int 32, .int 32] dX12_blanks_5 cw_X12_123 ob_30 rfl (C_X12_isAt (okG hX) e_2) (ltD hdx rfl) rfl rfl rfl rfl ?_
  rcases ifE hf with ⟨c_3, hf⟩ | ⟨c_3, hf⟩
  · refine J_if_eqF hX 24 dX12_blanks_8 rfl (b2iT c_3) ?_
    refine J_aload_n hX 0 dX12_blanks_11 rfl rfl ?_
    refine J_dup hX dX12_blanks_12 rfl ?_
    refine J_getI hX dX12_blanks_13 fl_X12_117 ob_30 rfl ?_
    refine J_iconst hX 1 dX12_blanks_16 rfl ?_
    refine J_iadd hX dX12_blanks_17 ?_
    obtain ⟨h_4, e_5, hf⟩ := bndE hf
    refine J_putI hX dX12_blanks_18 fl_X12_117 fw_10_12 ob_30 rfl rfl rfl ?_
    refine J_nmh e_5 ?_
    refine J_goto hX 0 dX12_blanks_21 rfl ?_
    exact hq_0 h_4 hf
  · refine J_if_eqT hX 24 dX12_blanks_8 rfl (b2iF c_3) ?_
    refine J_aload_n hX 0 dX12_blanks_24 rfl rfl ?_
    refine J_aload_n hX 0 dX12_blanks_25 rfl rfl ?_
    refine J_getI hX dX12_blanks_26 fl_X12_117 ob_30 rfl ?_
    obtain ⟨h_6, e_7, hf⟩ := bndE hf
    refine J_putI hX dX12_blanks_29 fl_X12_127 fw_10_14 ob_30 rfl rfl rfl ?_
    refine J_nmh e_7 ?_
    exact E_Vi hX dX12_blanks_32 hf
set_option maxRecDepth 100000 in
set_option maxHeartbeats 200000 in
theorem T_X12_blanks_0 {X : CX} (hX : Ok X cX12_blanks 1 RX12 none) (hdx : dX X = 3) {r : Hp} : ∀ (n : Nat) (h : Hp), F_X12_blanks_0 n h = some r → J X ((.inl none, r)) 0 [(0, .ref 30)] [] h := by
  intro n
  induction n with
  | zero => intro h hf; exact nomatch hf
  | succ n ih => intro h hf; exact T_X12_blanks_0_s hX hdx _ (fun h hf => ih h hf) h hf
set_option maxRecDepth 100000 in
set_option maxHeartbeats 200000 in
theorem C_X12_blanks {G : GX} (hG : GOk G) {h : Hp} {r : Hp} (hf : f_X12_blanks h = some r) : Ctr G 3 yX12_blanks cX12_blanks 1 none [.ref 30] h ((.inl none, r)) :=
  Ctr_of hG RX12 rfl (by decide) rfl (fun X _ hdx hX => T_X12_blanks_0 hX hdx FU h hf)
theorem dX12_letters_0 : decode cX12_letters 0 = .ok (.aload_n 0, 1) := by decide +kernel
theorem dX12_letters_1 : decode cX12_letters 1 = .ok (.invokevirtual 130, 3) := by decide +kernel
theorem dX12_letters_4 : decode cX12_letters 4 = .ok (.aload_n 0, 1) := by decide +kernel
theorem dX12_letters_5 : decode cX12_letters 5 = .ok (.bipush 97, 2) := by decide +kernel
theorem dX12_letters_7 : decode cX12_letters 7 = .ok (.bipush 122, 2) := by decide +kernel
theorem dX12_letters_9 : decode cX12_letters 9 = .ok (.invokevirtual 123, 3) := by decide +kernel
theorem dX12_letters_12 : decode cX12_letters 12 = .ok (.ifCond .eq 16, 3) := by decide +kernel
theorem dX12_letters_15 : decode cX12_letters 15 = .ok (.aload_n 0, 1) := by decide +kernel
theorem dX12_letters_16 : decode cX12_letters 16 = .ok (.dup, 1) := by decide +kernel
theorem dX12_letters_17 : decode cX12_letters 17 = .ok (.getfield 117, 3) := by decide +kernel
theorem dX12_letters_20 : decode cX12_letters 20 = .ok (.iconst 1, 1) := by decide +kernel
theorem dX12_letters_21 : decode cX12_letters 21 = .ok (.iadd, 1) := by decide +kernel
theorem dX12_letters_22 : decode cX12_letters 22 = .ok (.putfield 117, 3) := by decide +kernel
theorem dX12_letters_25 : decode cX12_letters 25 = .ok (.goto (-21), 3) := by decide +kernel
theorem dX12_letters_28 : decode cX12_letters 28 = .ok (.return_, 1) := by decide +kernel
set_option maxRecDepth 100000 in
set_option maxHeartbeats 200000 in
theorem T_X12_letters_4_s {X : CX} (hX : Ok X cX12_letters 1 RX12 none) (hdx : dX X = 4) {r : Hp} (q_4 : Hp → Option Hp) (hq_4 : ∀ (h : Hp), q_4 h = some r → J X ((.inl none, r)) 4 [(0, .ref 30)] [] h) (h : Hp) (hf : S_X12_letters_4 q_4 h = some r) : J X ((.inl none, r)) 4 [(0, .ref 30)] [] h := by
  unfold S_X12_letters_4 at hf
  refine J_aload_n hX 0 dX12_letters_4 rfl rfl ?_
  refine J_bipush hX 97 dX12_letters_5 rfl ?_
  refine J_bipush hX 122 dX12_letters_7 rfl ?_
  obtain ⟨r_1, e_2, hf⟩ := bdE hf
  refine V_1 hX [.int 97, .int 122] dX12_letters_9 cw_X12_123 ob_30 rfl (C_X12_isAt (okG hX) e_2) (ltD hdx rfl) rfl rfl rfl rfl ?_
  rcases ifE hf with ⟨c_3, hf⟩ | ⟨c_3, hf⟩
  · refine J_if_eqF hX 28 dX12_letters_12 rfl (b2iT c_3) ?_
    refine J_aload_n hX 0 dX12_letters_15 rfl rfl ?_
    refine J_dup hX dX12_letters_16 rfl ?_
    refine J_getI hX dX12_letters_17 fl_X12_117 ob_30 rfl ?_
    refine J_iconst hX 1 dX12_letters_20 rfl ?_
    refine J_iadd hX dX12_letters_21 ?_
    obtain ⟨h_4, e_5, hf⟩ := bndE hf
    refine J_putI hX dX12_letters_22 fl_X12_117 fw_10_12 ob_30 rfl rfl rfl ?_
    refine J_nmh e_5 ?_
    refine J_goto hX 4 dX12_letters_25 rfl ?_
    exact hq_4 h_4 hf
  · refine J_if_eqT hX 28 dX12_letters_12 rfl (b2iF c_3) ?_
    exact E_Vi hX dX12_letters_28 hf
set_option maxRecDepth 100000 in
set_option maxHeartbeats 200000 in
theorem T_X12_letters_4 {X : CX} (hX : Ok X cX12_letters 1 RX12 none) (hdx : dX X = 4) {r : Hp} : ∀ (n : Nat) (h : Hp), F_X12_letters_4 n h = some r → J X ((.inl none, r)) 4 [(0, .ref 30)] [] h := by
  intro n
  induction n with
  | zero => intro h hf; exact nomatch hf
  | succ n ih => intro h hf; exact T_X12_letters_4_s hX hdx _ (fun h hf => ih h hf) h hf
set_option maxRecDepth 100000 in
set_option maxHeartbeats 200000 in
theorem T_X12_letters_0 {X : CX} (hX : Ok X cX12_letters 1 RX12 none) (hdx : dX X = 4) {r : Hp} (h : Hp) (hf : f_X12_letters h = some r) : J X ((.inl none, r)) 0 [(0, .ref 30)] [] h := by
  unfold f_X12_letters at hf
  refine J_aload_n hX 0 dX12_letters_0 rfl rfl ?_
  obtain ⟨r_1, e_2, hf⟩ := bdE hf
  refine V_0 hX [] dX12_letters_1 cw_X12_130 ob_30 rfl (C_X12_blanks (okG hX) e_2) (ltD hdx rfl) rfl rfl rfl rfl ?_
  exact T_X12_letters_4 hX hdx FU r_1 hf
set_option maxRecDepth 100000 in
set_option maxHeartbeats 200000 in
theorem C_X12_letters {G : GX} (hG : GOk G) {h : Hp} {r : Hp} (hf : f_X12_letters h = some r) : Ctr G 4 yX12_letters cX12_letters 1 none [.ref 30] h ((.inl none, r)) :=
  Ctr_of hG RX12 rfl (by decide) rfl (fun X _ hdx hX => T_X12_letters_0 hX hdx h hf)
theorem dX12_isWord_0 : decode cX12_isWord 0 = .ok (.aload_n 0, 1) := by decide +kernel
theorem dX12_isWord_1 : decode cX12_isWord 1 = .ok (.getfield 117, 3) := by decide +kernel
theorem dX12_isWord_4 : decode cX12_isWord 4 = .ok (.aload_n 0, 1) := by decide +kernel
theorem dX12_isWord_5 : decode cX12_isWord 5 = .ok (.getfield 127, 3) := by decide +kernel
theorem dX12_isWord_8 : decode cX12_isWord 8 = .ok (.isub, 1) := by decide +kernel
theorem dX12_isWord_9 : decode cX12_isWord 9 = .ok (.aload_n 1, 1) := by decide +kernel
theorem dX12_isWord_10 : decode cX12_isWord 10 = .ok (.invokevirtual 133, 3) := by decide +kernel
theorem dX12_isWord_13 : decode cX12_isWord 13 = .ok (.if_icmp .ne 7, 3) := by decide +kernel
theorem dX12_isWord_16 : decode cX12_isWord 16 = .ok (.iconst 1, 1) := by decide +kernel
theorem dX12_isWord_17 : decode cX12_isWord 17 = .ok (.goto 4, 3) := by decide +kernel
theorem dX12_isWord_20 : decode cX12_isWord 20 = .ok (.iconst 0, 1) := by decide +kernel
theorem dX12_isWord_21 : decode cX12_isWord 21 = .ok (.istore_n 2, 1) := by decide +kernel
theorem dX12_isWord_22 : decode cX12_isWord 22 = .ok (.iconst 0, 1) := by decide +kernel
theorem dX12_isWord_23 : decode cX12_isWord 23 = .ok (.istore_n 3, 1) := by decide +kernel
theorem dX12_isWord_24 : decode cX12_isWord 24 = .ok (.iload_n 2, 1) := by decide +kernel
theorem dX12_isWord_25 : decode cX12_isWord 25 = .ok (.ifCond .eq 42, 3) := by decide +kernel
theorem dX12_isWord_28 : decode cX12_isWord 28 = .ok (.iload_n 3, 1) := by decide +kernel
theorem dX12_isWord_29 : decode cX12_isWord 29 = .ok (.aload_n 1, 1) := by decide +kernel
theorem dX12_isWord_30 : decode cX12_isWord 30 = .ok (.invokevirtual 133, 3) := by decide +kernel
theorem dX12_isWord_33 : decode cX12_isWord 33 = .ok (.if_icmp .ge 34, 3) := by decide +kernel
theorem dX12_isWord_36 : decode cX12_isWord 36 = .ok (.aload_n 0, 1) := by decide +kernel
theorem dX12_isWord_37 : decode cX12_isWord 37 = .ok (.getfield 35, 3) := by decide +kernel
theorem dX12_isWord_40 : decode cX12_isWord 40 = .ok (.aload_n 0, 1) := by decide +kernel
theorem dX12_isWord_41 : decode cX12_isWord 41 = .ok (.getfield 127, 3) := by decide +kernel
theorem dX12_isWord_44 : decode cX12_isWord 44 = .ok (.iload_n 3, 1) := by decide +kernel
theorem dX12_isWord_45 : decode cX12_isWord 45 = .ok (.iadd, 1) := by decide +kernel
theorem dX12_isWord_46 : decode cX12_isWord 46 = .ok (.baload, 1) := by decide +kernel
theorem dX12_isWord_47 : decode cX12_isWord 47 = .ok (.aload_n 1, 1) := by decide +kernel
theorem dX12_isWord_48 : decode cX12_isWord 48 = .ok (.iload_n 3, 1) := by decide +kernel
theorem dX12_isWord_49 : decode cX12_isWord 49 = .ok (.invokevirtual 138, 3) := by decide +kernel
theorem dX12_isWord_52 : decode cX12_isWord 52 = .ok (.if_icmp .ne 7, 3) := by decide +kernel
theorem dX12_isWord_55 : decode cX12_isWord 55 = .ok (.iconst 1, 1) := by decide +kernel
theorem dX12_isWord_56 : decode cX12_isWord 56 = .ok (.goto 4, 3) := by decide +kernel
theorem dX12_isWord_59 : decode cX12_isWord 59 = .ok (.iconst 0, 1) := by decide +kernel
theorem dX12_isWord_60 : decode cX12_isWord 60 = .ok (.istore_n 2, 1) := by decide +kernel
theorem dX12_isWord_61 : decode cX12_isWord 61 = .ok (.iinc 3 1, 3) := by decide +kernel
theorem dX12_isWord_64 : decode cX12_isWord 64 = .ok (.goto (-40), 3) := by decide +kernel
theorem dX12_isWord_67 : decode cX12_isWord 67 = .ok (.iload_n 2, 1) := by decide +kernel
theorem dX12_isWord_68 : decode cX12_isWord 68 = .ok (.ireturn, 1) := by decide +kernel
set_option maxRecDepth 100000 in
set_option maxHeartbeats 200000 in
theorem T_X12_isWord_24_s {X : CX} (hX : Ok X cX12_isWord 4 RX12 (some .boolean)) (hdx : dX X = 8) {r : Bool} (h : Hp) (k1 : Nat) (hk1 : isStr k1) (q_24 : Int32 → Int32 → Option Bool) (hq_24 : ∀ (x2 : Int32) (x3 : Int32), q_24 x2 x3 = some r → J X ((.inl (some (.int (b2i r))), h)) 24 [(0, .ref 30), (1, .ref k1), (2, .int x2), (3, .int x3)] [] h) (x2 : Int32) (x3 : Int32) (hf : S_X12_isWord_24 h k1 q_24 x2 x3 = some r) : J X ((.inl (some (.int (b2i r))), h)) 24 [(0, .ref 30), (1, .ref k1), (2, .int x2), (3, .int x3)] [] h := by
  unfold S_X12_isWord_24 at hf
  refine J_iload_n hX 2 dX12_isWord_24 rfl rfl ?_
  rcases ifE hf with ⟨c_1, hf⟩ | ⟨c_1, hf⟩
  · refine J_if_eqT hX 67 dX12_isWord_25 rfl c_1 ?_
    refine J_iload_n hX 2 dX12_isWord_67 rfl rfl ?_
    obtain ⟨b_2, e_3, hf⟩ := bdE hf
    exact E_Zp hX dX12_isWord_68 (toBE e_3) hf
  · refine J_if_eqF hX 67 dX12_isWord_25 rfl c_1 ?_
    refine J_iload_n hX 3 dX12_isWord_28 rfl rfl ?_
    refine J_aload_n hX 1 dX12_isWord_29 rfl rfl ?_
    refine J_strLen hX dX12_isWord_30 hk1 cw_X12_133 (ltD hdx rfl) rfl ?_
    rcases ifE hf with ⟨c_4, hf⟩ | ⟨c_4, hf⟩
    · refine J_icmp_geF hX 67 dX12_isWord_33 rfl c_4 ?_
      refine J_aload_n hX 0 dX12_isWord_36 rfl rfl ?_
      refine J_getR hX 38 dX12_isWord_37 fl_X12_35 ob_30 rfl rfl ?_
      refine J_aload_n hX 0 dX12_isWord_40 rfl rfl ?_
      refine J_getI hX dX12_isWord_41 fl_X12_127 ob_30 rfl ?_
      refine J_iload_n hX 3 dX12_isWord_44 rfl rfl ?_
      refine J_iadd hX dX12_isWord_45 ?_
      obtain ⟨g_5, hf⟩ := gdE hf
      refine J_ald hX (((h 30 14) + x3).toNatClampNeg) dX12_isWord_46 ar_38 (Or.inr (Or.inl ⟨rfl, rfl⟩)) g_5 rfl ?_
      refine J_aload_n hX 1 dX12_isWord_47 rfl rfl ?_
      refine J_iload_n hX 3 dX12_isWord_48 rfl rfl ?_
      obtain ⟨g_6, hf⟩ := gdE hf
      refine J_strAt hX dX12_isWord_49 hk1 g_6 cw_X12_138 (ltD hdx rfl) rfl ?_
      rcases ifE hf with ⟨c_7, hf⟩ | ⟨c_7, hf⟩
      · refine J_icmp_neF hX 59 dX12_isWord_52 rfl c_7 ?_
        refine J_iconst hX 1 dX12_isWord_55 rfl ?_
        refine J_goto hX 60 dX12_isWord_56 rfl ?_
        refine J_istore_n hX [(2, .int 1), (0, .ref 30), (1, .ref k1), (3, .int x3)] dX12_isWord_60 rfl rfl rfl ?_
        refine J_iinc hX (x3 + 1) 3 [(3, .int (x3 + 1)), (2, .int 1), (0, .ref 30), (1, .ref k1)] dX12_isWord_61 rfl rfl rfl rfl ?_
        refine J_goto hX 24 dX12_isWord_64 rfl ?_
        refine J_sub [2, 3, 1, 0] [(0, .ref 30), (1, .ref k1), (2, .int 1), (3, .int (x3 + 1))] rfl ?_
        exact hq_24 1 (x3 + 1) hf
      · refine J_icmp_neT hX 59 dX12_isWord_52 rfl c_7 ?_
        refine J_iconst hX 0 dX12_isWord_59 rfl ?_
        refine J_istore_n hX [(2, .int 0), (0, .ref 30), (1, .ref k1), (3, .int x3)] dX12_isWord_60 rfl rfl rfl ?_
        refine J_iinc hX (x3 + 1) 3 [(3, .int (x3 + 1)), (2, .int 0), (0, .ref 30), (1, .ref k1)] dX12_isWord_61 rfl rfl rfl rfl ?_
        refine J_goto hX 24 dX12_isWord_64 rfl ?_
        refine J_sub [2, 3, 1, 0] [(0, .ref 30), (1, .ref k1), (2, .int 0), (3, .int (x3 + 1))] rfl ?_
        exact hq_24 0 (x3 + 1) hf
    · refine J_icmp_geT hX 67 dX12_isWord_33 rfl c_4 ?_
      refine J_iload_n hX 2 dX12_isWord_67 rfl rfl ?_
      obtain ⟨b_8, e_9, hf⟩ := bdE hf
      exact E_Zp hX dX12_isWord_68 (toBE e_9) hf
set_option maxRecDepth 100000 in
set_option maxHeartbeats 200000 in
theorem T_X12_isWord_24 {X : CX} (hX : Ok X cX12_isWord 4 RX12 (some .boolean)) (hdx : dX X = 8) {r : Bool} (h : Hp) (k1 : Nat) (hk1 : isStr k1) : ∀ (n : Nat) (x2 : Int32) (x3 : Int32), F_X12_isWord_24 h k1 n x2 x3 = some r → J X ((.inl (some (.int (b2i r))), h)) 24 [(0, .ref 30), (1, .ref k1), (2, .int x2), (3, .int x3)] [] h := by
  intro n
  induction n with
  | zero => intro x2 x3 hf; exact nomatch hf
  | succ n ih => intro x2 x3 hf; exact T_X12_isWord_24_s hX hdx h k1 hk1 _ (fun x2 x3 hf => ih x2 x3 hf) x2 x3 hf
set_option maxRecDepth 100000 in
set_option maxHeartbeats 200000 in
theorem T_X12_isWord_0 {X : CX} (hX : Ok X cX12_isWord 4 RX12 (some .boolean)) (hdx : dX X = 8) {r : Bool} (k1 : Nat) (hk1 : isStr k1) (h : Hp) (hf : f_X12_isWord k1 h = some r) : J X ((.inl (some (.int (b2i r))), h)) 0 [(0, .ref 30), (1, .ref k1)] [] h := by
  unfold f_X12_isWord at hf
  refine J_aload_n hX 0 dX12_isWord_0 rfl rfl ?_
  refine J_getI hX dX12_isWord_1 fl_X12_117 ob_30 rfl ?_
  refine J_aload_n hX 0 dX12_isWord_4 rfl rfl ?_
  refine J_getI hX dX12_isWord_5 fl_X12_127 ob_30 rfl ?_
  refine J_isub hX dX12_isWord_8 ?_
  refine J_aload_n hX 1 dX12_isWord_9 rfl rfl ?_
  refine J_strLen hX dX12_isWord_10 hk1 cw_X12_133 (ltD hdx rfl) rfl ?_
  rcases ifE hf with ⟨c_1, hf⟩ | ⟨c_1, hf⟩
  · refine J_icmp_neF hX 20 dX12_isWord_13 rfl c_1 ?_
    refine J_iconst hX 1 dX12_isWord_16 rfl ?_
    refine J_goto hX 21 dX12_isWord_17 rfl ?_
    refine J_istore_n hX [(2, .int 1), (0, .ref 30), (1, .ref k1)] dX12_isWord_21 rfl rfl rfl ?_
    refine J_iconst hX 0 dX12_isWord_22 rfl ?_
    refine J_istore_n hX [(3, .int 0), (2, .int 1), (0, .ref 30), (1, .ref k1)] dX12_isWord_23 rfl rfl rfl ?_
    refine J_sub [2, 3, 1, 0] [(0, .ref 30), (1, .ref k1), (2, .int 1), (3, .int 0)] rfl ?_
    exact T_X12_isWord_24 hX hdx h k1 hk1 FU 1 0 hf
  · refine J_icmp_neT hX 20 dX12_isWord_13 rfl c_1 ?_
    refine J_iconst hX 0 dX12_isWord_20 rfl ?_
    refine J_istore_n hX [(2, .int 0), (0, .ref 30), (1, .ref k1)] dX12_isWord_21 rfl rfl rfl ?_
    refine J_iconst hX 0 dX12_isWord_22 rfl ?_
    refine J_istore_n hX [(3, .int 0), (2, .int 0), (0, .ref 30), (1, .ref k1)] dX12_isWord_23 rfl rfl rfl ?_
    refine J_sub [2, 3, 1, 0] [(0, .ref 30), (1, .ref k1), (2, .int 0), (3, .int 0)] rfl ?_
    exact T_X12_isWord_24 hX hdx h k1 hk1 FU 0 0 hf
set_option maxRecDepth 100000 in
set_option maxHeartbeats 200000 in
theorem C_X12_isWord {G : GX} (hG : GOk G) {k1 : Nat} {h : Hp} {r : Bool} (hk1 : isStr k1) (hf : f_X12_isWord k1 h = some r) : Ctr G 8 yX12_isWord cX12_isWord 4 (some .boolean) [.ref 30, .ref k1] h ((.inl (some (.int (b2i r))), h)) :=
  Ctr_of hG RX12 rfl (by decide) rfl (fun X _ hdx hX => T_X12_isWord_0 hX hdx k1 hk1 h hf)
theorem dX12_passes_0 : decode cX12_passes 0 = .ok (.aload_n 0, 1) := by decide +kernel
theorem dX12_passes_1 : decode cX12_passes 1 = .ok (.invokevirtual 142, 3) := by decide +kernel
theorem dX12_passes_4 : decode cX12_passes 4 = .ok (.aload_n 0, 1) := by decide +kernel
theorem dX12_passes_5 : decode cX12_passes 5 = .ok (.aload_n 1, 1) := by decide +kernel
theorem dX12_passes_6 : decode cX12_passes 6 = .ok (.invokevirtual 145, 3) := by decide +kernel
theorem dX12_passes_9 : decode cX12_passes 9 = .ok (.ifCond .eq 5, 3) := by decide +kernel
theorem dX12_passes_12 : decode cX12_passes 12 = .ok (.iconst 1, 1) := by decide +kernel
theorem dX12_passes_13 : decode cX12_passes 13 = .ok (.ireturn, 1) := by decide +kernel
theorem dX12_passes_14 : decode cX12_passes 14 = .ok (.aload_n 0, 1) := by decide +kernel
theorem dX12_passes_15 : decode cX12_passes 15 = .ok (.aload_n 0, 1) := by decide +kernel
theorem dX12_passes_16 : decode cX12_passes 16 = .ok (.getfield 127, 3) := by decide +kernel
theorem dX12_passes_19 : decode cX12_passes 19 = .ok (.putfield 117, 3) := by decide +kernel
theorem dX12_passes_22 : decode cX12_passes 22 = .ok (.iconst 0, 1) := by decide +kernel
theorem dX12_passes_23 : decode cX12_passes 23 = .ok (.ireturn, 1) := by decide +kernel
set_option maxRecDepth 100000 in
set_option maxHeartbeats 200000 in
theorem T_X12_passes_0 {X : CX} (hX : Ok X cX12_passes 2 RX12 (some .boolean)) (hdx : dX X = 9) {r : Bool × Hp} (k1 : Nat) (hk1 : isStr k1) (h : Hp) (hf : f_X12_passes k1 h = some r) : J X ((.inl (some (.int (b2i r.1))), r.2)) 0 [(0, .ref 30), (1, .ref k1)] [] h := by
  unfold f_X12_passes at hf
  refine J_aload_n hX 0 dX12_passes_0 rfl rfl ?_
  obtain ⟨r_1, e_2, hf⟩ := bdE hf
  refine V_0 hX [] dX12_passes_1 cw_X12_142 ob_30 rfl (C_X12_letters (okG hX) e_2) (ltD hdx rfl) rfl rfl rfl rfl ?_
  refine J_aload_n hX 0 dX12_passes_4 rfl rfl ?_
  refine J_aload_n hX 1 dX12_passes_5 rfl rfl ?_
  obtain ⟨r_3, e_4, hf⟩ := bdE hf
  refine V_1 hX [.ref k1] dX12_passes_6 cw_X12_145 ob_30 rfl (C_X12_isWord (okG hX) hk1 e_4) (ltD hdx rfl) rfl rfl rfl rfl ?_
  rcases ifE hf with ⟨c_5, hf⟩ | ⟨c_5, hf⟩
  · refine J_if_eqF hX 14 dX12_passes_9 rfl (b2iT c_5) ?_
    refine J_iconst hX 1 dX12_passes_12 rfl ?_
    exact E_Zi hX dX12_passes_13 rfl hf
  · refine J_if_eqT hX 14 dX12_passes_9 rfl (b2iF c_5) ?_
    refine J_aload_n hX 0 dX12_passes_14 rfl rfl ?_
    refine J_aload_n hX 0 dX12_passes_15 rfl rfl ?_
    refine J_getI hX dX12_passes_16 fl_X12_127 ob_30 rfl ?_
    obtain ⟨h_6, e_7, hf⟩ := bndE hf
    refine J_putI hX dX12_passes_19 fl_X12_117 fw_10_12 ob_30 rfl rfl rfl ?_
    refine J_nmh e_7 ?_
    refine J_iconst hX 0 dX12_passes_22 rfl ?_
    exact E_Zi hX dX12_passes_23 rfl hf
set_option maxRecDepth 100000 in
set_option maxHeartbeats 200000 in
theorem C_X12_passes {G : GX} (hG : GOk G) {k1 : Nat} {h : Hp} {r : Bool × Hp} (hk1 : isStr k1) (hf : f_X12_passes k1 h = some r) : Ctr G 9 yX12_passes cX12_passes 2 (some .boolean) [.ref 30, .ref k1] h ((.inl (some (.int (b2i r.1))), r.2)) :=
  Ctr_of hG RX12 rfl (by decide) rfl (fun X _ hdx hX => T_X12_passes_0 hX hdx k1 hk1 h hf)
theorem dX12_sign_0 : decode cX12_sign 0 = .ok (.aload_n 0, 1) := by decide +kernel
theorem dX12_sign_1 : decode cX12_sign 1 = .ok (.invokevirtual 130, 3) := by decide +kernel
theorem dX12_sign_4 : decode cX12_sign 4 = .ok (.aload_n 0, 1) := by decide +kernel
theorem dX12_sign_5 : decode cX12_sign 5 = .ok (.iload_n 1, 1) := by decide +kernel
theorem dX12_sign_6 : decode cX12_sign 6 = .ok (.iload_n 1, 1) := by decide +kernel
theorem dX12_sign_7 : decode cX12_sign 7 = .ok (.invokevirtual 123, 3) := by decide +kernel
theorem dX12_sign_10 : decode cX12_sign 10 = .ok (.ifCond .ne 5, 3) := by decide +kernel
theorem dX12_sign_13 : decode cX12_sign 13 = .ok (.iconst 0, 1) := by decide +kernel
theorem dX12_sign_14 : decode cX12_sign 14 = .ok (.ireturn, 1) := by decide +kernel
theorem dX12_sign_15 : decode cX12_sign 15 = .ok (.aload_n 0, 1) := by decide +kernel
theorem dX12_sign_16 : decode cX12_sign 16 = .ok (.dup, 1) := by decide +kernel
theorem dX12_sign_17 : decode cX12_sign 17 = .ok (.getfield 117, 3) := by decide +kernel
theorem dX12_sign_20 : decode cX12_sign 20 = .ok (.iconst 1, 1) := by decide +kernel
theorem dX12_sign_21 : decode cX12_sign 21 = .ok (.iadd, 1) := by decide +kernel
theorem dX12_sign_22 : decode cX12_sign 22 = .ok (.putfield 117, 3) := by decide +kernel
theorem dX12_sign_25 : decode cX12_sign 25 = .ok (.iconst 1, 1) := by decide +kernel
theorem dX12_sign_26 : decode cX12_sign 26 = .ok (.ireturn, 1) := by decide +kernel
set_option maxRecDepth 100000 in
set_option maxHeartbeats 200000 in
theorem T_X12_sign_0 {X : CX} (hX : Ok X cX12_sign 2 RX12 (some .boolean)) (hdx : dX X = 4) {r : Bool × Hp} (x1 : Int32) (h : Hp) (hf : f_X12_sign x1 h = some r) : J X ((.inl (some (.int (b2i r.1))), r.2)) 0 [(0, .ref 30), (1, .int x1)] [] h := by
  unfold f_X12_sign at hf
  refine J_aload_n hX 0 dX12_sign_0 rfl rfl ?_
  obtain ⟨r_1, e_2, hf⟩ := bdE hf
  refine V_0 hX [] dX12_sign_1 cw_X12_130 ob_30 rfl (C_X12_blanks (okG hX) e_2) (ltD hdx rfl) rfl rfl rfl rfl ?_
  refine J_aload_n hX 0 dX12_sign_4 rfl rfl ?_
  refine J_iload_n hX 1 dX12_sign_5 rfl rfl ?_
  refine J_iload_n hX 1 dX12_sign_6 rfl rfl ?_
  obtain ⟨r_3, e_4, hf⟩ := bdE hf
  refine V_1 hX [.int x1, .int x1] dX12_sign_7 cw_X12_123 ob_30 rfl (C_X12_isAt (okG hX) e_4) (ltD hdx rfl) rfl rfl rfl rfl ?_
  rcases ifE hf with ⟨c_5, hf⟩ | ⟨c_5, hf⟩
  · refine J_if_neT hX 15 dX12_sign_10 rfl (b2iT c_5) ?_
    refine J_aload_n hX 0 dX12_sign_15 rfl rfl ?_
    refine J_dup hX dX12_sign_16 rfl ?_
    refine J_getI hX dX12_sign_17 fl_X12_117 ob_30 rfl ?_
    refine J_iconst hX 1 dX12_sign_20 rfl ?_
    refine J_iadd hX dX12_sign_21 ?_
    obtain ⟨h_6, e_7, hf⟩ := bndE hf
    refine J_putI hX dX12_sign_22 fl_X12_117 fw_10_12 ob_30 rfl rfl rfl ?_
    refine J_nmh e_7 ?_
    refine J_iconst hX 1 dX12_sign_25 rfl ?_
    exact E_Zi hX dX12_sign_26 rfl hf
  · refine J_if_neF hX 15 dX12_sign_10 rfl (b2iF c_5) ?_
    refine J_iconst hX 0 dX12_sign_13 rfl ?_
    exact E_Zi hX dX12_sign_14 rfl hf
set_option maxRecDepth 100000 in
set_option maxHeartbeats 200000 in
theorem C_X12_sign {G : GX} (hG : GOk G) {x1 : Int32} {h : Hp} {r : Bool × Hp} (hf : f_X12_sign x1 h = some r) : Ctr G 4 yX12_sign cX12_sign 2 (some .boolean) [.ref 30, .int x1] h ((.inl (some (.int (b2i r.1))), r.2)) :=
  Ctr_of hG RX12 rfl (by decide) rfl (fun X _ hdx hX => T_X12_sign_0 hX hdx x1 h hf)
theorem dX12_number_0 : decode cX12_number 0 = .ok (.aload_n 0, 1) := by decide +kernel
theorem dX12_number_1 : decode cX12_number 1 = .ok (.invokevirtual 130, 3) := by decide +kernel
theorem dX12_number_4 : decode cX12_number 4 = .ok (.iconst 0, 1) := by decide +kernel
theorem dX12_number_5 : decode cX12_number 5 = .ok (.istore_n 3, 1) := by decide +kernel
theorem dX12_number_6 : decode cX12_number 6 = .ok (.aload_n 0, 1) := by decide +kernel
theorem dX12_number_7 : decode cX12_number 7 = .ok (.bipush 48, 2) := by decide +kernel
theorem dX12_number_9 : decode cX12_number 9 = .ok (.bipush 57, 2) := by decide +kernel
theorem dX12_number_11 : decode cX12_number 11 = .ok (.invokevirtual 123, 3) := by decide +kernel
theorem dX12_number_14 : decode cX12_number 14 = .ok (.ifCond .eq 51, 3) := by decide +kernel
theorem dX12_number_17 : decode cX12_number 17 = .ok (.aload_n 0, 1) := by decide +kernel
theorem dX12_number_18 : decode cX12_number 18 = .ok (.getfield 117, 3) := by decide +kernel
theorem dX12_number_21 : decode cX12_number 21 = .ok (.aload_n 0, 1) := by decide +kernel
theorem dX12_number_22 : decode cX12_number 22 = .ok (.getfield 127, 3) := by decide +kernel
theorem dX12_number_25 : decode cX12_number 25 = .ok (.isub, 1) := by decide +kernel
theorem dX12_number_26 : decode cX12_number 26 = .ok (.iconst 3, 1) := by decide +kernel
theorem dX12_number_27 : decode cX12_number 27 = .ok (.if_icmp .ge 23, 3) := by decide +kernel
theorem dX12_number_30 : decode cX12_number 30 = .ok (.bipush 10, 2) := by decide +kernel
theorem dX12_number_32 : decode cX12_number 32 = .ok (.iload_n 3, 1) := by decide +kernel
theorem dX12_number_33 : decode cX12_number 33 = .ok (.imul, 1) := by decide +kernel
theorem dX12_number_34 : decode cX12_number 34 = .ok (.aload_n 0, 1) := by decide +kernel
theorem dX12_number_35 : decode cX12_number 35 = .ok (.getfield 35, 3) := by decide +kernel
theorem dX12_number_38 : decode cX12_number 38 = .ok (.aload_n 0, 1) := by decide +kernel
theorem dX12_number_39 : decode cX12_number 39 = .ok (.getfield 117, 3) := by decide +kernel
theorem dX12_number_42 : decode cX12_number 42 = .ok (.baload, 1) := by decide +kernel
theorem dX12_number_43 : decode cX12_number 43 = .ok (.iadd, 1) := by decide +kernel
theorem dX12_number_44 : decode cX12_number 44 = .ok (.bipush 48, 2) := by decide +kernel
theorem dX12_number_46 : decode cX12_number 46 = .ok (.isub, 1) := by decide +kernel
theorem dX12_number_47 : decode cX12_number 47 = .ok (.goto 4, 3) := by decide +kernel
theorem dX12_number_50 : decode cX12_number 50 = .ok (.iload_n 3, 1) := by decide +kernel
theorem dX12_number_51 : decode cX12_number 51 = .ok (.istore_n 3, 1) := by decide +kernel
theorem dX12_number_52 : decode cX12_number 52 = .ok (.aload_n 0, 1) := by decide +kernel
theorem dX12_number_53 : decode cX12_number 53 = .ok (.dup, 1) := by decide +kernel
theorem dX12_number_54 : decode cX12_number 54 = .ok (.getfield 117, 3) := by decide +kernel
theorem dX12_number_57 : decode cX12_number 57 = .ok (.iconst 1, 1) := by decide +kernel
theorem dX12_number_58 : decode cX12_number 58 = .ok (.iadd, 1) := by decide +kernel
theorem dX12_number_59 : decode cX12_number 59 = .ok (.putfield 117, 3) := by decide +kernel
theorem dX12_number_62 : decode cX12_number 62 = .ok (.goto (-56), 3) := by decide +kernel
theorem dX12_number_65 : decode cX12_number 65 = .ok (.aload_n 0, 1) := by decide +kernel
theorem dX12_number_66 : decode cX12_number 66 = .ok (.getfield 117, 3) := by decide +kernel
theorem dX12_number_69 : decode cX12_number 69 = .ok (.aload_n 0, 1) := by decide +kernel
theorem dX12_number_70 : decode cX12_number 70 = .ok (.getfield 127, 3) := by decide +kernel
theorem dX12_number_73 : decode cX12_number 73 = .ok (.if_icmp .eq 26, 3) := by decide +kernel
theorem dX12_number_76 : decode cX12_number 76 = .ok (.aload_n 0, 1) := by decide +kernel
theorem dX12_number_77 : decode cX12_number 77 = .ok (.getfield 117, 3) := by decide +kernel
theorem dX12_number_80 : decode cX12_number 80 = .ok (.aload_n 0, 1) := by decide +kernel
theorem dX12_number_81 : decode cX12_number 81 = .ok (.getfield 127, 3) := by decide +kernel
theorem dX12_number_84 : decode cX12_number 84 = .ok (.isub, 1) := by decide +kernel
theorem dX12_number_85 : decode cX12_number 85 = .ok (.iconst 3, 1) := by decide +kernel
theorem dX12_number_86 : decode cX12_number 86 = .ok (.if_icmp .gt 13, 3) := by decide +kernel
theorem dX12_number_89 : decode cX12_number 89 = .ok (.iload_n 3, 1) := by decide +kernel
theorem dX12_number_90 : decode cX12_number 90 = .ok (.iload_n 1, 1) := by decide +kernel
theorem dX12_number_91 : decode cX12_number 91 = .ok (.if_icmp .lt 8, 3) := by decide +kernel
theorem dX12_number_94 : decode cX12_number 94 = .ok (.iload_n 3, 1) := by decide +kernel
theorem dX12_number_95 : decode cX12_number 95 = .ok (.iload_n 2, 1) := by decide +kernel
theorem dX12_number_96 : decode cX12_number 96 = .ok (.if_icmp .le 7, 3) := by decide +kernel
theorem dX12_number_99 : decode cX12_number 99 = .ok (.iconst (-1), 1) := by decide +kernel
theorem dX12_number_100 : decode cX12_number 100 = .ok (.goto 4, 3) := by decide +kernel
theorem dX12_number_103 : decode cX12_number 103 = .ok (.iload_n 3, 1) := by decide +kernel
theorem dX12_number_104 : decode cX12_number 104 = .ok (.ireturn, 1) := by decide +kernel
set_option maxRecDepth 100000 in
set_option maxHeartbeats 200000 in
theorem T_X12_number_51 {X : CX} (hX : Ok X cX12_number 4 RX12 (some .int)) (hdx : dX X = 4) {r : Int32 × Hp} (x1 : Int32) (x2 : Int32) (t0 : Int32) (q_6 : Int32 → Hp → Option (Int32 × Hp)) (hq_6 : ∀ (x3 : Int32) (h : Hp), q_6 x3 h = some r → J X ((.inl (some (.int r.1)), r.2)) 6 [(0, .ref 30), (1, .int x1), (2, .int x2), (3, .int x3)] [] h) (h : Hp) (hf : F_X12_number_51 q_6 x1 x2 t0 h = some r) : J X ((.inl (some (.int r.1)), r.2)) 51 [(0, .ref 30), (1, .int x1), (2, .int x2)] [.int t0] h := by
  unfold F_X12_number_51 at hf
  refine J_istore_n hX [(3, .int t0), (0, .ref 30), (1, .int x1), (2, .int x2)] dX12_number_51 rfl rfl rfl ?_
  refine J_aload_n hX 1 dX12_number_52 rfl rfl ?_
  refine J_dup hX dX12_number_53 rfl ?_
  refine J_getI hX dX12_number_54 fl_X12_117 ob_30 rfl ?_
  refine J_iconst hX 1 dX12_number_57 rfl ?_
  refine J_iadd hX dX12_number_58 ?_
  obtain ⟨h_1, e_2, hf⟩ := bndE hf
  refine J_putI hX dX12_number_59 fl_X12_117 fw_10_12 ob_30 rfl rfl rfl ?_
  refine J_nmh e_2 ?_
  refine J_goto hX 6 dX12_number_62 rfl ?_
  refine J_sub [1, 2, 3, 0] [(0, .ref 30), (1, .int x1), (2, .int x2), (3, .int t0)] rfl ?_
  exact hq_6 t0 h_1 hf
set_option maxRecDepth 100000 in
set_option maxHeartbeats 200000 in
theorem T_X12_number_6_s {X : CX} (hX : Ok X cX12_number 4 RX12 (some .int)) (hdx : dX X = 4) {r : Int32 × Hp} (x1 : Int32) (x2 : Int32) (q_6 : Int32 → Hp → Option (Int32 × Hp)) (hq_6 : ∀ (x3 : Int32) (h : Hp), q_6 x3 h = some r → J X ((.inl (some (.int r.1)), r.2)) 6 [(0, .ref 30), (1, .int x1), (2, .int x2), (3, .int x3)] [] h) (x3 : Int32) (h : Hp) (hf : S_X12_number_6 x1 x2 q_6 x3 h = some r) : J X ((.inl (some (.int r.1)), r.2)) 6 [(0, .ref 30), (1, .int x1), (2, .int x2), (3, .int x3)] [] h := by
  unfold S_X12_number_6 at hf
  refine J_aload_n hX 0 dX12_number_6 rfl rfl ?_
  refine J_bipush hX 48 dX12_number_7 rfl ?_
  refine J_bipush hX 57 dX12_number_9 rfl ?_
  obtain ⟨r_1, e_2, hf⟩ := bdE hf
  refine V_1 hX [.int 48, .int 57] dX12_number_11 cw_X12_123 ob_30 rfl (C_X12_isAt (okG hX) e_2) (ltD hdx rfl) rfl rfl rfl rfl ?_
  rcases ifE hf with ⟨c_3, hf⟩ | ⟨c_3, hf⟩
  · refine J_if_eqF hX 65 dX12_number_14 rfl (b2iT c_3) ?_
    refine J_aload_n hX 0 dX12_number_17 rfl rfl ?_
    refine J_getI hX dX12_number_18 fl_X12_117 ob_30 rfl ?_
    refine J_aload_n hX 0 dX12_number_21 rfl rfl ?_
    refine J_getI hX dX12_number_22 fl_X12_127 ob_30 rfl ?_
    refine J_isub hX dX12_number_25 ?_
    refine J_iconst hX 3 dX12_number_26 rfl ?_
    rcases ifE hf with ⟨c_4, hf⟩ | ⟨c_4, hf⟩
    · refine J_icmp_geF hX 50 dX12_number_27 rfl c_4 ?_
      refine J_bipush hX 10 dX12_number_30 rfl ?_
      refine J_iload_n hX 3 dX12_number_32 rfl rfl ?_
      refine J_imul hX dX12_number_33 ?_
      refine J_aload_n hX 0 dX12_number_34 rfl rfl ?_
      refine J_getR hX 38 dX12_number_35 fl_X12_35 ob_30 rfl rfl ?_
      refine J_aload_n hX 0 dX12_number_38 rfl rfl ?_
      refine J_getI hX dX12_number_39 fl_X12_117 ob_30 rfl ?_
      obtain ⟨g_5, hf⟩ := gdE hf
      refine J_ald hX ((h 30 12).toNatClampNeg) dX12_number_42 ar_38 (Or.inr (Or.inl ⟨rfl, rfl⟩)) g_5 rfl ?_
      refine J_iadd hX dX12_number_43 ?_
      refine J_bipush hX 48 dX12_number_44 rfl ?_
      refine J_isub hX dX12_number_46 ?_
      refine J_goto hX 51 dX12_number_47 rfl ?_
      refine J_sub [0, 1, 2] [(0, .ref 30), (1, .int x1), (2, .int x2)] rfl ?_
      exact T_X12_number_51 hX hdx x1 x2 (((10 * x3) + (h 38 ((h 30 12).toNatClampNeg))) - 48) q_6 hq_6 h hf
    · refine J_icmp_geT hX 50 dX12_number_27 rfl c_4 ?_
      refine J_iload_n hX 3 dX12_number_50 rfl rfl ?_
      refine J_sub [0, 1, 2] [(0, .ref 30), (1, .int x1), (2, .int x2)] rfl ?_
      exact T_X12_number_51 hX hdx x1 x2 x3 q_6 hq_6 h hf
  · refine J_if_eqT hX 65 dX12_number_14 rfl (b2iF c_3) ?_
    refine J_aload_n hX 0 dX12_number_65 rfl rfl ?_
    refine J_getI hX dX12_number_66 fl_X12_117 ob_30 rfl ?_
    refine J_aload_n hX 0 dX12_number_69 rfl rfl ?_
    refine J_getI hX dX12_number_70 fl_X12_127 ob_30 rfl ?_
    rcases ifE hf with ⟨c_6, hf⟩ | ⟨c_6, hf⟩
    · refine J_icmp_eqT hX 99 dX12_number_73 rfl c_6 ?_
      refine J_iconst hX (-1) dX12_number_99 rfl ?_
      refine J_goto hX 104 dX12_number_100 rfl ?_
      exact E_Ii hX dX12_number_104 hf
    · refine J_icmp_eqF hX 99 dX12_number_73 rfl c_6 ?_
      refine J_aload_n hX 0 dX12_number_76 rfl rfl ?_
      refine J_getI hX dX12_number_77 fl_X12_117 ob_30 rfl ?_
      refine J_aload_n hX 0 dX12_number_80 rfl rfl ?_
      refine J_getI hX dX12_number_81 fl_X12_127 ob_30 rfl ?_
      refine J_isub hX dX12_number_84 ?_
      refine J_iconst hX 3 dX12_number_85 rfl ?_
      rcases ifE hf with ⟨c_7, hf⟩ | ⟨c_7, hf⟩
      · refine J_icmp_gtT hX 99 dX12_number_86 rfl c_7 ?_
        refine J_iconst hX (-1) dX12_number_99 rfl ?_
        refine J_goto hX 104 dX12_number_100 rfl ?_
        exact E_Ii hX dX12_number_104 hf
      · refine J_icmp_gtF hX 99 dX12_number_86 rfl c_7 ?_
        refine J_iload_n hX 3 dX12_number_89 rfl rfl ?_
        refine J_iload_n hX 1 dX12_number_90 rfl rfl ?_
        rcases ifE hf with ⟨c_8, hf⟩ | ⟨c_8, hf⟩
        · refine J_icmp_ltT hX 99 dX12_number_91 rfl c_8 ?_
          refine J_iconst hX (-1) dX12_number_99 rfl ?_
          refine J_goto hX 104 dX12_number_100 rfl ?_
          exact E_Ii hX dX12_number_104 hf
        · refine J_icmp_ltF hX 99 dX12_number_91 rfl c_8 ?_
          refine J_iload_n hX 3 dX12_number_94 rfl rfl ?_
          refine J_iload_n hX 2 dX12_number_95 rfl rfl ?_
          rcases ifE hf with ⟨c_9, hf⟩ | ⟨c_9, hf⟩
          · refine J_icmp_leF hX 103 dX12_number_96 rfl c_9 ?_
            refine J_iconst hX (-1) dX12_number_99 rfl ?_
            refine J_goto hX 104 dX12_number_100 rfl ?_
            exact E_Ii hX dX12_number_104 hf
          · refine J_icmp_leT hX 103 dX12_number_96 rfl c_9 ?_
            refine J_iload_n hX 3 dX12_number_103 rfl rfl ?_
            exact E_Ii hX dX12_number_104 hf
set_option maxRecDepth 100000 in
set_option maxHeartbeats 200000 in
theorem T_X12_number_6 {X : CX} (hX : Ok X cX12_number 4 RX12 (some .int)) (hdx : dX X = 4) {r : Int32 × Hp} (x1 : Int32) (x2 : Int32) : ∀ (n : Nat) (x3 : Int32) (h : Hp), F_X12_number_6 x1 x2 n x3 h = some r → J X ((.inl (some (.int r.1)), r.2)) 6 [(0, .ref 30), (1, .int x1), (2, .int x2), (3, .int x3)] [] h := by
  intro n
  induction n with
  | zero => intro x3 h hf; exact nomatch hf
  | succ n ih => intro x3 h hf; exact T_X12_number_6_s hX hdx x1 x2 _ (fun x3 h hf => ih x3 h hf) x3 h hf
set_option maxRecDepth 100000 in
set_option maxHeartbeats 200000 in
theorem T_X12_number_0 {X : CX} (hX : Ok X cX12_number 4 RX12 (some .int)) (hdx : dX X = 4) {r : Int32 × Hp} (x1 : Int32) (x2 : Int32) (h : Hp) (hf : f_X12_number x1 x2 h = some r) : J X ((.inl (some (.int r.1)), r.2)) 0 [(0, .ref 30), (1, .int x1), (2, .int x2)] [] h := by
  unfold f_X12_number at hf
  refine J_aload_n hX 0 dX12_number_0 rfl rfl ?_
  obtain ⟨r_1, e_2, hf⟩ := bdE hf
  refine V_0 hX [] dX12_number_1 cw_X12_130 ob_30 rfl (C_X12_blanks (okG hX) e_2) (ltD hdx rfl) rfl rfl rfl rfl ?_
  refine J_iconst hX 0 dX12_number_4 rfl ?_
  refine J_istore_n hX [(3, .int 0), (0, .ref 30), (1, .int x1), (2, .int x2)] dX12_number_5 rfl rfl rfl ?_
  refine J_sub [1, 2, 3, 0] [(0, .ref 30), (1, .int x1), (2, .int x2), (3, .int 0)] rfl ?_
  exact T_X12_number_6 hX hdx x1 x2 FU 0 r_1 hf
set_option maxRecDepth 100000 in
set_option maxHeartbeats 200000 in
theorem C_X12_number {G : GX} (hG : GOk G) {x1 : Int32} {x2 : Int32} {h : Hp} {r : Int32 × Hp} (hf : f_X12_number x1 x2 h = some r) : Ctr G 4 yX12_number cX12_number 4 (some .int) [.ref 30, .int x1, .int x2] h ((.inl (some (.int r.1)), r.2)) :=
  Ctr_of hG RX12 rfl (by decide) rfl (fun X _ hdx hX => T_X12_number_0 hX hdx x1 x2 h hf)
theorem dX12_after_0 : decode cX12_after 0 = .ok (.aload_n 0, 1) := by decide +kernel
theorem dX12_after_1 : decode cX12_after 1 = .ok (.invokevirtual 142, 3) := by decide +kernel
theorem dX12_after_4 : decode cX12_after 4 = .ok (.aload_n 0, 1) := by decide +kernel
theorem dX12_after_5 : decode cX12_after 5 = .ok (.aload_n 1, 1) := by decide +kernel
theorem dX12_after_6 : decode cX12_after 6 = .ok (.invokevirtual 145, 3) := by decide +kernel
theorem dX12_after_9 : decode cX12_after 9 = .ok (.ifCond .eq 12, 3) := by decide +kernel
theorem dX12_after_12 : decode cX12_after 12 = .ok (.aload_n 0, 1) := by decide +kernel
theorem dX12_after_13 : decode cX12_after 13 = .ok (.iload_n 2, 1) := by decide +kernel
theorem dX12_after_14 : decode cX12_after 14 = .ok (.iload_n 3, 1) := by decide +kernel
theorem dX12_after_15 : decode cX12_after 15 = .ok (.invokevirtual 149, 3) := by decide +kernel
theorem dX12_after_18 : decode cX12_after 18 = .ok (.goto 4, 3) := by decide +kernel
theorem dX12_after_21 : decode cX12_after 21 = .ok (.iconst (-1), 1) := by decide +kernel
theorem dX12_after_22 : decode cX12_after 22 = .ok (.ireturn, 1) := by decide +kernel
set_option maxRecDepth 100000 in
set_option maxHeartbeats 200000 in
theorem T_X12_after_0 {X : CX} (hX : Ok X cX12_after 4 RX12 (some .int)) (hdx : dX X = 9) {r : Int32 × Hp} (k1 : Nat) (hk1 : isStr k1) (x2 : Int32) (x3 : Int32) (h : Hp) (hf : f_X12_after k1 x2 x3 h = some r) : J X ((.inl (some (.int r.1)), r.2)) 0 [(0, .ref 30), (1, .ref k1), (2, .int x2), (3, .int x3)] [] h := by
  unfold f_X12_after at hf
  refine J_aload_n hX 0 dX12_after_0 rfl rfl ?_
  obtain ⟨r_1, e_2, hf⟩ := bdE hf
  refine V_0 hX [] dX12_after_1 cw_X12_142 ob_30 rfl (C_X12_letters (okG hX) e_2) (ltD hdx rfl) rfl rfl rfl rfl ?_
  refine J_aload_n hX 0 dX12_after_4 rfl rfl ?_
  refine J_aload_n hX 1 dX12_after_5 rfl rfl ?_
  obtain ⟨r_3, e_4, hf⟩ := bdE hf
  refine V_1 hX [.ref k1] dX12_after_6 cw_X12_145 ob_30 rfl (C_X12_isWord (okG hX) hk1 e_4) (ltD hdx rfl) rfl rfl rfl rfl ?_
  rcases ifE hf with ⟨c_5, hf⟩ | ⟨c_5, hf⟩
  · refine J_if_eqF hX 21 dX12_after_9 rfl (b2iT c_5) ?_
    refine J_aload_n hX 0 dX12_after_12 rfl rfl ?_
    refine J_iload_n hX 2 dX12_after_13 rfl rfl ?_
    refine J_iload_n hX 3 dX12_after_14 rfl rfl ?_
    obtain ⟨r_6, e_7, hf⟩ := bdE hf
    refine V_1 hX [.int x2, .int x3] dX12_after_15 cw_X12_149 ob_30 rfl (C_X12_number (okG hX) e_7) (ltD hdx rfl) rfl rfl rfl rfl ?_
    refine J_goto hX 22 dX12_after_18 rfl ?_
    exact E_Ii hX dX12_after_22 hf
  · refine J_if_eqT hX 21 dX12_after_9 rfl (b2iF c_5) ?_
    refine J_iconst hX (-1) dX12_after_21 rfl ?_
    exact E_Ii hX dX12_after_22 hf
set_option maxRecDepth 100000 in
set_option maxHeartbeats 200000 in
theorem C_X12_after {G : GX} (hG : GOk G) {k1 : Nat} {x2 : Int32} {x3 : Int32} {h : Hp} {r : Int32 × Hp} (hk1 : isStr k1) (hf : f_X12_after k1 x2 x3 h = some r) : Ctr G 9 yX12_after cX12_after 4 (some .int) [.ref 30, .ref k1, .int x2, .int x3] h ((.inl (some (.int r.1)), r.2)) :=
  Ctr_of hG RX12 rfl (by decide) rfl (fun X _ hdx hX => T_X12_after_0 hX hdx k1 hk1 x2 x3 h hf)
theorem dX12_fault_0 : decode cX12_fault 0 = .ok (.aload_n 0, 1) := by decide +kernel
theorem dX12_fault_1 : decode cX12_fault 1 = .ok (.iconst 0, 1) := by decide +kernel
theorem dX12_fault_2 : decode cX12_fault 2 = .ok (.putfield 3, 3) := by decide +kernel
theorem dX12_fault_5 : decode cX12_fault 5 = .ok (.aload_n 0, 1) := by decide +kernel
theorem dX12_fault_6 : decode cX12_fault 6 = .ok (.getfield 39, 3) := by decide +kernel
theorem dX12_fault_9 : decode cX12_fault 9 = .ok (.ireturn, 1) := by decide +kernel
set_option maxRecDepth 100000 in
set_option maxHeartbeats 200000 in
theorem T_X12_fault_0 {X : CX} (hX : Ok X cX12_fault 1 RX12 (some .int)) (hdx : dX X = 2) {r : Int32 × Hp} (h : Hp) (hf : f_X12_fault h = some r) : J X ((.inl (some (.int r.1)), r.2)) 0 [(0, .ref 30)] [] h := by
  unfold f_X12_fault at hf
  refine J_aload_n hX 0 dX12_fault_0 rfl rfl ?_
  refine J_iconst hX 0 dX12_fault_1 rfl ?_
  obtain ⟨h_1, e_2, hf⟩ := bndE hf
  refine J_putI hX dX12_fault_2 fl_X12_3 fw_10_0 ob_30 rfl rfl rfl ?_
  refine J_nmh e_2 ?_
  refine J_aload_n hX 0 dX12_fault_5 rfl rfl ?_
  refine J_getI hX dX12_fault_6 fl_X12_39 ob_30 rfl ?_
  exact E_Ii hX dX12_fault_9 hf
set_option maxRecDepth 100000 in
set_option maxHeartbeats 200000 in
theorem C_X12_fault {G : GX} (hG : GOk G) {h : Hp} {r : Int32 × Hp} (hf : f_X12_fault h = some r) : Ctr G 2 yX12_fault cX12_fault 1 (some .int) [.ref 30] h ((.inl (some (.int r.1)), r.2)) :=
  Ctr_of hG RX12 rfl (by decide) rfl (fun X _ hdx hX => T_X12_fault_0 hX hdx h hf)
theorem dX12_uses_0 : decode cX12_uses 0 = .ok (.aload_n 0, 1) := by decide +kernel
theorem dX12_uses_1 : decode cX12_uses 1 = .ok (.iconst 0, 1) := by decide +kernel
theorem dX12_uses_2 : decode cX12_uses 2 = .ok (.putfield 3, 3) := by decide +kernel
theorem dX12_uses_5 : decode cX12_uses 5 = .ok (.aload_n 0, 1) := by decide +kernel
theorem dX12_uses_6 : decode cX12_uses 6 = .ok (.aload_n 0, 1) := by decide +kernel
theorem dX12_uses_7 : decode cX12_uses 7 = .ok (.getfield 114, 3) := by decide +kernel
theorem dX12_uses_10 : decode cX12_uses 10 = .ok (.putfield 120, 3) := by decide +kernel
theorem dX12_uses_13 : decode cX12_uses 13 = .ok (.aload_n 0, 1) := by decide +kernel
theorem dX12_uses_14 : decode cX12_uses 14 = .ok (.iconst 0, 1) := by decide +kernel
theorem dX12_uses_15 : decode cX12_uses 15 = .ok (.putfield 114, 3) := by decide +kernel
theorem dX12_uses_18 : decode cX12_uses 18 = .ok (.aload_n 0, 1) := by decide +kernel
theorem dX12_uses_19 : decode cX12_uses 19 = .ok (.iconst 0, 1) := by decide +kernel
theorem dX12_uses_20 : decode cX12_uses 20 = .ok (.putfield 117, 3) := by decide +kernel
theorem dX12_uses_23 : decode cX12_uses 23 = .ok (.return_, 1) := by decide +kernel
set_option maxRecDepth 100000 in
set_option maxHeartbeats 200000 in
theorem T_X12_uses_0 {X : CX} (hX : Ok X cX12_uses 1 RX12 none) (hdx : dX X = 2) {r : Hp} (h : Hp) (hf : f_X12_uses h = some r) : J X ((.inl none, r)) 0 [(0, .ref 30)] [] h := by
  unfold f_X12_uses at hf
  refine J_aload_n hX 0 dX12_uses_0 rfl rfl ?_
  refine J_iconst hX 0 dX12_uses_1 rfl ?_
  obtain ⟨h_1, e_2, hf⟩ := bndE hf
  refine J_putI hX dX12_uses_2 fl_X12_3 fw_10_0 ob_30 rfl rfl rfl ?_
  refine J_nmh e_2 ?_
  refine J_aload_n hX 0 dX12_uses_5 rfl rfl ?_
  refine J_aload_n hX 0 dX12_uses_6 rfl rfl ?_
  refine J_getI hX dX12_uses_7 fl_X12_114 ob_30 rfl ?_
  obtain ⟨h_3, e_4, hf⟩ := bndE hf
  refine J_putI hX dX12_uses_10 fl_X12_120 fw_10_13 ob_30 rfl rfl rfl ?_
  refine J_nmh e_4 ?_
  refine J_aload_n hX 0 dX12_uses_13 rfl rfl ?_
  refine J_iconst hX 0 dX12_uses_14 rfl ?_
  obtain ⟨h_5, e_6, hf⟩ := bndE hf
  refine J_putI hX dX12_uses_15 fl_X12_114 fw_10_11 ob_30 rfl rfl rfl ?_
  refine J_nmh e_6 ?_
  refine J_aload_n hX 0 dX12_uses_18 rfl rfl ?_
  refine J_iconst hX 0 dX12_uses_19 rfl ?_
  obtain ⟨h_7, e_8, hf⟩ := bndE hf
  refine J_putI hX dX12_uses_20 fl_X12_117 fw_10_12 ob_30 rfl rfl rfl ?_
  refine J_nmh e_8 ?_
  exact E_Vi hX dX12_uses_23 hf
set_option maxRecDepth 100000 in
set_option maxHeartbeats 200000 in
theorem C_X12_uses {G : GX} (hG : GOk G) {h : Hp} {r : Hp} (hf : f_X12_uses h = some r) : Ctr G 2 yX12_uses cX12_uses 1 none [.ref 30] h ((.inl none, r)) :=
  Ctr_of hG RX12 rfl (by decide) rfl (fun X _ hdx hX => T_X12_uses_0 hX hdx h hf)
theorem dX12_readNumber_0 : decode cX12_readNumber 0 = .ok (.aload_n 0, 1) := by decide +kernel
theorem dX12_readNumber_1 : decode cX12_readNumber 1 = .ok (.iload_n 2, 1) := by decide +kernel
theorem dX12_readNumber_2 : decode cX12_readNumber 2 = .ok (.iload_n 3, 1) := by decide +kernel
theorem dX12_readNumber_3 : decode cX12_readNumber 3 = .ok (.invokevirtual 149, 3) := by decide +kernel
theorem dX12_readNumber_6 : decode cX12_readNumber 6 = .ok (.istore 4, 2) := by decide +kernel
theorem dX12_readNumber_8 : decode cX12_readNumber 8 = .ok (.aload_n 0, 1) := by decide +kernel
theorem dX12_readNumber_9 : decode cX12_readNumber 9 = .ok (.getfield 13, 3) := by decide +kernel
theorem dX12_readNumber_12 : decode cX12_readNumber 12 = .ok (.iload_n 1, 1) := by decide +kernel
theorem dX12_readNumber_13 : decode cX12_readNumber 13 = .ok (.iload 4, 2) := by decide +kernel
theorem dX12_readNumber_15 : decode cX12_readNumber 15 = .ok (.ifCond .ge 12, 3) := by decide +kernel
theorem dX12_readNumber_18 : decode cX12_readNumber 18 = .ok (.aload_n 0, 1) := by decide +kernel
theorem dX12_readNumber_19 : decode cX12_readNumber 19 = .ok (.getfield 13, 3) := by decide +kernel
theorem dX12_readNumber_22 : decode cX12_readNumber 22 = .ok (.iload_n 1, 1) := by decide +kernel
theorem dX12_readNumber_23 : decode cX12_readNumber 23 = .ok (.iaload, 1) := by decide +kernel
theorem dX12_readNumber_24 : decode cX12_readNumber 24 = .ok (.goto 5, 3) := by decide +kernel
theorem dX12_readNumber_27 : decode cX12_readNumber 27 = .ok (.iload 4, 2) := by decide +kernel
theorem dX12_readNumber_29 : decode cX12_readNumber 29 = .ok (.iastore, 1) := by decide +kernel
theorem dX12_readNumber_30 : decode cX12_readNumber 30 = .ok (.iload 4, 2) := by decide +kernel
theorem dX12_readNumber_32 : decode cX12_readNumber 32 = .ok (.ifCond .lt 7, 3) := by decide +kernel
theorem dX12_readNumber_35 : decode cX12_readNumber 35 = .ok (.iconst 1, 1) := by decide +kernel
theorem dX12_readNumber_36 : decode cX12_readNumber 36 = .ok (.goto 4, 3) := by decide +kernel
theorem dX12_readNumber_39 : decode cX12_readNumber 39 = .ok (.iconst 0, 1) := by decide +kernel
theorem dX12_readNumber_40 : decode cX12_readNumber 40 = .ok (.ireturn, 1) := by decide +kernel
set_option maxRecDepth 100000 in
set_option maxHeartbeats 200000 in
theorem T_X12_readNumber_29 {X : CX} (hX : Ok X cX12_readNumber 5 RX12 (some .boolean)) (hdx : dX X = 5) {r : Bool × Hp} (x4 : Int32) (t0 : Int32) (t1 : Int32) (h : Hp) (hf : F_X12_readNumber_29 x4 t0 t1 h = some r) : J X ((.inl (some (.int (b2i r.1))), r.2)) 29 [(4, .int x4)] [.int t0, .int t1, .ref 31] h := by
  unfold F_X12_readNumber_29 at hf
  obtain ⟨g_1, hf⟩ := gdE hf
  obtain ⟨h_2, e_3, hf⟩ := bndE hf
  refine J_ast hX t1.toNatClampNeg t0 dX12_readNumber_29 ar_31 (Or.inl ⟨rfl, rfl, rfl⟩) g_1 rfl ?_
  refine J_nmh e_3 ?_
  refine J_iload hX 0 dX12_readNumber_30 rfl ?_
  rcases ifE hf with ⟨c_4, hf⟩ | ⟨c_4, hf⟩
  · refine J_if_ltT hX 39 dX12_readNumber_32 rfl c_4 ?_
    refine J_iconst hX 0 dX12_readNumber_39 rfl ?_
    exact E_Zi hX dX12_readNumber_40 rfl hf
  · refine J_if_ltF hX 39 dX12_readNumber_32 rfl c_4 ?_
    refine J_iconst hX 1 dX12_readNumber_35 rfl ?_
    refine J_goto hX 40 dX12_readNumber_36 rfl ?_
    exact E_Zi hX dX12_readNumber_40 rfl hf
set_option maxRecDepth 100000 in
set_option maxHeartbeats 200000 in
theorem T_X12_readNumber_0 {X : CX} (hX : Ok X cX12_readNumber 5 RX12 (some .boolean)) (hdx : dX X = 5) {r : Bool × Hp} (x1 : Int32) (x2 : Int32) (x3 : Int32) (h : Hp) (hf : f_X12_readNumber x1 x2 x3 h = some r) : J X ((.inl (some (.int (b2i r.1))), r.2)) 0 [(0, .ref 30), (1, .int x1), (2, .int x2), (3, .int x3)] [] h := by
  unfold f_X12_readNumber at hf
  refine J_aload_n hX 0 dX12_readNumber_0 rfl rfl ?_
  refine J_iload_n hX 2 dX12_readNumber_1 rfl rfl ?_
  refine J_iload_n hX 3 dX12_readNumber_2 rfl rfl ?_
  obtain ⟨r_1, e_2, hf⟩ := bdE hf
  refine V_1 hX [.int x2, .int x3] dX12_readNumber_3 cw_X12_149 ob_30 rfl (C_X12_number (okG hX) e_2) (ltD hdx rfl) rfl rfl rfl rfl ?_
  refine J_istore hX [(4, .int r_1.1), (0, .ref 30), (1, .int x1), (2, .int x2), (3, .int x3)] dX12_readNumber_6 rfl rfl ?_
  refine J_aload_n hX 1 dX12_readNumber_8 rfl rfl ?_
  refine J_getR hX 31 dX12_readNumber_9 fl_X12_13 ob_30 rfl rfl ?_
  refine J_iload_n hX 2 dX12_readNumber_12 rfl rfl ?_
  refine J_iload hX 0 dX12_readNumber_13 rfl ?_
  rcases ifE hf with ⟨c_3, hf⟩ | ⟨c_3, hf⟩
  · refine J_if_geF hX 27 dX12_readNumber_15 rfl c_3 ?_
    refine J_aload_n hX 1 dX12_readNumber_18 rfl rfl ?_
    refine J_getR hX 31 dX12_readNumber_19 fl_X12_13 ob_30 rfl rfl ?_
    refine J_iload_n hX 2 dX12_readNumber_22 rfl rfl ?_
    obtain ⟨g_4, hf⟩ := gdE hf
    refine J_ald hX x1.toNatClampNeg dX12_readNumber_23 ar_31 (Or.inl ⟨rfl, rfl⟩) g_4 rfl ?_
    refine J_goto hX 29 dX12_readNumber_24 rfl ?_
    refine J_sub [0] [(4, .int r_1.1)] rfl ?_
    exact T_X12_readNumber_29 hX hdx r_1.1 (r_1.2 31 x1.toNatClampNeg) x1 r_1.2 hf
  · refine J_if_geT hX 27 dX12_readNumber_15 rfl c_3 ?_
    refine J_iload hX 0 dX12_readNumber_27 rfl ?_
    refine J_sub [0] [(4, .int r_1.1)] rfl ?_
    exact T_X12_readNumber_29 hX hdx r_1.1 r_1.1 x1 r_1.2 hf
set_option maxRecDepth 100000 in
set_option maxHeartbeats 200000 in
theorem C_X12_readNumber {G : GX} (hG : GOk G) {x1 : Int32} {x2 : Int32} {x3 : Int32} {h : Hp} {r : Bool × Hp} (hf : f_X12_readNumber x1 x2 x3 h = some r) : Ctr G 5 yX12_readNumber cX12_readNumber 5 (some .boolean) [.ref 30, .int x1, .int x2, .int x3] h ((.inl (some (.int (b2i r.1))), r.2)) :=
  Ctr_of hG RX12 rfl (by decide) rfl (fun X _ hdx hX => T_X12_readNumber_0 hX hdx x1 x2 x3 h hf)
theorem dX12_houseTold_0 : decode cX12_houseTold 0 = .ok (.aload_n 0, 1) := by decide +kernel
theorem dX12_houseTold_1 : decode cX12_houseTold 1 = .ok (.iconst 0, 1) := by decide +kernel
theorem dX12_houseTold_2 : decode cX12_houseTold 2 = .ok (.aload_n 0, 1) := by decide +kernel
theorem dX12_houseTold_3 : decode cX12_houseTold 3 = .ok (.invokevirtual 87, 3) := by decide +kernel
theorem dX12_houseTold_6 : decode cX12_houseTold 6 = .ok (.iconst 1, 1) := by decide +kernel
theorem dX12_houseTold_7 : decode cX12_houseTold 7 = .ok (.isub, 1) := by decide +kernel
theorem dX12_houseTold_8 : decode cX12_houseTold 8 = .ok (.invokevirtual 149, 3) := by decide +kernel
theorem dX12_houseTold_11 : decode cX12_houseTold 11 = .ok (.istore_n 1, 1) := by decide +kernel
theorem dX12_houseTold_12 : decode cX12_houseTold 12 = .ok (.iload_n 1, 1) := by decide +kernel
theorem dX12_houseTold_13 : decode cX12_houseTold 13 = .ok (.ifCond .lt 11, 3) := by decide +kernel
theorem dX12_houseTold_16 : decode cX12_houseTold 16 = .ok (.aload_n 0, 1) := by decide +kernel
theorem dX12_houseTold_17 : decode cX12_houseTold 17 = .ok (.iload_n 1, 1) := by decide +kernel
theorem dX12_houseTold_18 : decode cX12_houseTold 18 = .ok (.invokevirtual 91, 3) := by decide +kernel
theorem dX12_houseTold_21 : decode cX12_houseTold 21 = .ok (.ifCond .eq 7, 3) := by decide +kernel
theorem dX12_houseTold_24 : decode cX12_houseTold 24 = .ok (.iconst (-1), 1) := by decide +kernel
theorem dX12_houseTold_25 : decode cX12_houseTold 25 = .ok (.goto 4, 3) := by decide +kernel
theorem dX12_houseTold_28 : decode cX12_houseTold 28 = .ok (.iload_n 1, 1) := by decide +kernel
theorem dX12_houseTold_29 : decode cX12_houseTold 29 = .ok (.ireturn, 1) := by decide +kernel
set_option maxRecDepth 100000 in
set_option maxHeartbeats 200000 in
theorem T_X12_houseTold_0 {X : CX} (hX : Ok X cX12_houseTold 2 RX12 (some .int)) (hdx : dX X = 5) {r : Int32 × Hp} (h : Hp) (hf : f_X12_houseTold h = some r) : J X ((.inl (some (.int r.1)), r.2)) 0 [(0, .ref 30)] [] h := by
  unfold f_X12_houseTold at hf
  refine J_aload_n hX 0 dX12_houseTold_0 rfl rfl ?_
  refine J_iconst hX 0 dX12_houseTold_1 rfl ?_
  refine J_aload_n hX 0 dX12_houseTold_2 rfl rfl ?_
  refine V_1 hX [] dX12_houseTold_3 cw_X12_87 ob_30 rfl (C_X12_houses (okG hX) rfl) (ltD hdx rfl) rfl rfl rfl rfl ?_
  refine J_iconst hX 1 dX12_houseTold_6 rfl ?_
  refine J_isub hX dX12_houseTold_7 ?_
  obtain ⟨r_1, e_2, hf⟩ := bdE hf
  refine V_1 hX [.int 0, .int ((f_X12_houses h) - 1)] dX12_houseTold_8 cw_X12_149 ob_30 rfl (C_X12_number (okG hX) e_2) (ltD hdx rfl) rfl rfl rfl rfl ?_
  refine J_istore_n hX [(1, .int r_1.1), (0, .ref 30)] dX12_houseTold_11 rfl rfl rfl ?_
  refine J_iload_n hX 0 dX12_houseTold_12 rfl rfl ?_
  rcases ifE hf with ⟨c_3, hf⟩ | ⟨c_3, hf⟩
  · refine J_if_ltT hX 24 dX12_houseTold_13 rfl c_3 ?_
    refine J_iconst hX (-1) dX12_houseTold_24 rfl ?_
    refine J_goto hX 29 dX12_houseTold_25 rfl ?_
    exact E_Ii hX dX12_houseTold_29 hf
  · refine J_if_ltF hX 24 dX12_houseTold_13 rfl c_3 ?_
    refine J_aload_n hX 1 dX12_houseTold_16 rfl rfl ?_
    refine J_iload_n hX 0 dX12_houseTold_17 rfl rfl ?_
    obtain ⟨r_4, e_5, hf⟩ := bdE hf
    refine V_1 hX [.int r_1.1] dX12_houseTold_18 cw_X12_91 ob_30 rfl (C_X12_isFallen (okG hX) e_5) (ltD hdx rfl) rfl rfl rfl rfl ?_
    rcases ifE hf with ⟨c_6, hf⟩ | ⟨c_6, hf⟩
    · refine J_if_eqF hX 28 dX12_houseTold_21 rfl (b2iT c_6) ?_
      refine J_iconst hX (-1) dX12_houseTold_24 rfl ?_
      refine J_goto hX 29 dX12_houseTold_25 rfl ?_
      exact E_Ii hX dX12_houseTold_29 hf
    · refine J_if_eqT hX 28 dX12_houseTold_21 rfl (b2iF c_6) ?_
      refine J_iload_n hX 0 dX12_houseTold_28 rfl rfl ?_
      exact E_Ii hX dX12_houseTold_29 hf
set_option maxRecDepth 100000 in
set_option maxHeartbeats 200000 in
theorem C_X12_houseTold {G : GX} (hG : GOk G) {h : Hp} {r : Int32 × Hp} (hf : f_X12_houseTold h = some r) : Ctr G 5 yX12_houseTold cX12_houseTold 2 (some .int) [.ref 30] h ((.inl (some (.int r.1)), r.2)) :=
  Ctr_of hG RX12 rfl (by decide) rfl (fun X _ hdx hX => T_X12_houseTold_0 hX hdx h hf)
